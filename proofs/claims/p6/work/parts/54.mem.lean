theorem dX13_slots_0 : decode cX13_slots 0 = .ok (.aload_n 0, 1) := by decide +kernel
theorem dX13_slots_1 : decode cX13_slots 1 = .ok (.getfield 171, 3) := by decide +kernel
theorem dX13_slots_4 : decode cX13_slots 4 = .ok (.aload_n 0, 1) := by decide +kernel
theorem dX13_slots_5 : decode cX13_slots 5 = .ok (.getfield 174, 3) := by decide +kernel
theorem tw_52 : (.fieldLink RX13 174 "PocketCompilerModel" "putBy" "I" : Cond) ∈ tw_W := tw_in (t8_10 (List.mem_of_getElem? (i := 189) rfl)) rfl
theorem dX13_slots_8 : decode cX13_slots 8 = .ok (.iadd, 1) := by decide +kernel
theorem dX13_slots_9 : decode cX13_slots 9 = .ok (.istore_n 2, 1) := by decide +kernel
theorem dX13_slots_10 : decode cX13_slots 10 = .ok (.iload_n 2, 1) := by decide +kernel
theorem dX13_slots_11 : decode cX13_slots 11 = .ok (.iload_n 1, 1) := by decide +kernel
theorem dX13_slots_12 : decode cX13_slots 12 = .ok (.iadd, 1) := by decide +kernel
theorem dX13_slots_13 : decode cX13_slots 13 = .ok (.sipush 500, 3) := by decide +kernel
theorem dX13_slots_16 : decode cX13_slots 16 = .ok (.if_icmp .le 14, 3) := by decide +kernel
theorem dX13_slots_30 : decode cX13_slots 30 = .ok (.iload_n 2, 1) := by decide +kernel
theorem dX13_slots_31 : decode cX13_slots 31 = .ok (.iload_n 1, 1) := by decide +kernel
theorem dX13_slots_32 : decode cX13_slots 32 = .ok (.iadd, 1) := by decide +kernel
theorem dX13_slots_33 : decode cX13_slots 33 = .ok (.aload_n 0, 1) := by decide +kernel
theorem dX13_slots_34 : decode cX13_slots 34 = .ok (.getfield 177, 3) := by decide +kernel
theorem tw_53 : (.fieldLink RX13 177 "PocketCompilerModel" "highest" "I" : Cond) ∈ tw_W := tw_in (t8_10 (List.mem_of_getElem? (i := 190) rfl)) rfl
theorem dX13_slots_37 : decode cX13_slots 37 = .ok (.if_icmp .le 10, 3) := by decide +kernel
theorem dX13_slots_47 : decode cX13_slots 47 = .ok (.iload_n 2, 1) := by decide +kernel
theorem dX13_slots_48 : decode cX13_slots 48 = .ok (.ireturn, 1) := by decide +kernel
theorem dX13_slots_40 : decode cX13_slots 40 = .ok (.aload_n 0, 1) := by decide +kernel
theorem dX13_slots_41 : decode cX13_slots 41 = .ok (.iload_n 2, 1) := by decide +kernel
theorem dX13_slots_42 : decode cX13_slots 42 = .ok (.iload_n 1, 1) := by decide +kernel
theorem dX13_slots_43 : decode cX13_slots 43 = .ok (.iadd, 1) := by decide +kernel
theorem dX13_slots_44 : decode cX13_slots 44 = .ok (.putfield 177, 3) := by decide +kernel
theorem dX13_slots_19 : decode cX13_slots 19 = .ok (.aload_n 0, 1) := by decide +kernel
theorem dX13_slots_20 : decode cX13_slots 20 = .ok (.aload_n 0, 1) := by decide +kernel
theorem dX13_slots_21 : decode cX13_slots 21 = .ok (.getfield 137, 3) := by decide +kernel
theorem dX13_slots_24 : decode cX13_slots 24 = .ok (.putfield 148, 3) := by decide +kernel
theorem dX13_slots_27 : decode cX13_slots 27 = .ok (.goto 20, 3) := by decide +kernel
theorem dX13_remember_0 : decode cX13_remember 0 = .ok (.aload_n 0, 1) := by decide +kernel
theorem dX13_remember_1 : decode cX13_remember 1 = .ok (.aload_n 0, 1) := by decide +kernel
theorem dX13_remember_2 : decode cX13_remember 2 = .ok (.getfield 232, 3) := by decide +kernel
theorem tw_54 : (.fieldLink RX13 232 "PocketCompilerModel" "multiplies" "Z" : Cond) ∈ tw_W := tw_in (t8_10 (List.mem_of_getElem? (i := 201) rfl)) rfl
theorem dX13_remember_5 : decode cX13_remember 5 = .ok (.ifCond .ne 9, 3) := by decide +kernel
theorem dX13_remember_14 : decode cX13_remember 14 = .ok (.iconst 1, 1) := by decide +kernel
theorem dX13_remember_15 : decode cX13_remember 15 = .ok (.goto 4, 3) := by decide +kernel
theorem dX13_remember_19 : decode cX13_remember 19 = .ok (.putfield 232, 3) := by decide +kernel
theorem dX13_remember_22 : decode cX13_remember 22 = .ok (.aload_n 0, 1) := by decide +kernel
theorem dX13_remember_23 : decode cX13_remember 23 = .ok (.aload_n 0, 1) := by decide +kernel
theorem dX13_remember_24 : decode cX13_remember 24 = .ok (.getfield 236, 3) := by decide +kernel
theorem tw_55 : (.fieldLink RX13 236 "PocketCompilerModel" "divides" "Z" : Cond) ∈ tw_W := tw_in (t8_10 (List.mem_of_getElem? (i := 202) rfl)) rfl
theorem dX13_remember_27 : decode cX13_remember 27 = .ok (.ifCond .ne 15, 3) := by decide +kernel
theorem dX13_remember_42 : decode cX13_remember 42 = .ok (.iconst 1, 1) := by decide +kernel
theorem dX13_remember_43 : decode cX13_remember 43 = .ok (.goto 4, 3) := by decide +kernel
theorem dX13_remember_47 : decode cX13_remember 47 = .ok (.putfield 236, 3) := by decide +kernel
theorem dX13_remember_50 : decode cX13_remember 50 = .ok (.return_, 1) := by decide +kernel
theorem dX13_remember_30 : decode cX13_remember 30 = .ok (.iload_n 1, 1) := by decide +kernel
theorem dX13_remember_31 : decode cX13_remember 31 = .ok (.bipush 47, 2) := by decide +kernel
theorem dX13_remember_33 : decode cX13_remember 33 = .ok (.if_icmp .eq 9, 3) := by decide +kernel
theorem dX13_remember_36 : decode cX13_remember 36 = .ok (.iload_n 1, 1) := by decide +kernel
theorem dX13_remember_37 : decode cX13_remember 37 = .ok (.bipush 37, 2) := by decide +kernel
theorem dX13_remember_39 : decode cX13_remember 39 = .ok (.if_icmp .ne 7, 3) := by decide +kernel
theorem dX13_remember_46 : decode cX13_remember 46 = .ok (.iconst 0, 1) := by decide +kernel
theorem dX13_remember_8 : decode cX13_remember 8 = .ok (.iload_n 1, 1) := by decide +kernel
theorem dX13_remember_9 : decode cX13_remember 9 = .ok (.bipush 42, 2) := by decide +kernel
theorem dX13_remember_11 : decode cX13_remember 11 = .ok (.if_icmp .ne 7, 3) := by decide +kernel
theorem dX13_remember_18 : decode cX13_remember 18 = .ok (.iconst 0, 1) := by decide +kernel
theorem dX13_strength_0 : decode cX13_strength 0 = .ok (.aload_n 0, 1) := by decide +kernel
theorem dX13_strength_1 : decode cX13_strength 1 = .ok (.getfield 41, 3) := by decide +kernel
theorem dX13_strength_4 : decode cX13_strength 4 = .ok (.aload_n 0, 1) := by decide +kernel
theorem dX13_strength_5 : decode cX13_strength 5 = .ok (.getfield 137, 3) := by decide +kernel
theorem dX13_strength_8 : decode cX13_strength 8 = .ok (.iaload, 1) := by decide +kernel
theorem dX13_strength_9 : decode cX13_strength 9 = .ok (.iconst 5, 1) := by decide +kernel
theorem dX13_strength_10 : decode cX13_strength 10 = .ok (.if_icmp .eq 5, 3) := by decide +kernel
theorem dX13_strength_15 : decode cX13_strength 15 = .ok (.aload_n 0, 1) := by decide +kernel
theorem dX13_strength_16 : decode cX13_strength 16 = .ok (.getfield 56, 3) := by decide +kernel
theorem dX13_strength_19 : decode cX13_strength 19 = .ok (.aload_n 0, 1) := by decide +kernel
theorem dX13_strength_20 : decode cX13_strength 20 = .ok (.getfield 137, 3) := by decide +kernel
theorem dX13_strength_23 : decode cX13_strength 23 = .ok (.laload, 1) := by decide +kernel
theorem dX13_strength_24 : decode cX13_strength 24 = .ok (.l2i, 1) := by decide +kernel
theorem dX13_strength_25 : decode cX13_strength 25 = .ok (.lookupswitch 180 #[(37, 177), (38, 163), (42, 177), (43, 174), (45, 174), (47, 177), (60, 168), (62, 168), (94, 161), (124, 159), (9766, 157), (15420, 171), (15649, 165), (15676, 168), (15677, 165), (15678, 168), (15934, 171), (31868, 155)], 155) := by decide +kernel
theorem dX13_strength_202 : decode cX13_strength 202 = .ok (.bipush 10, 2) := by decide +kernel
theorem dX13_strength_204 : decode cX13_strength 204 = .ok (.ireturn, 1) := by decide +kernel
theorem dX13_strength_188 : decode cX13_strength 188 = .ok (.iconst 5, 1) := by decide +kernel
theorem dX13_strength_189 : decode cX13_strength 189 = .ok (.ireturn, 1) := by decide +kernel
theorem dX13_strength_199 : decode cX13_strength 199 = .ok (.bipush 9, 2) := by decide +kernel
theorem dX13_strength_201 : decode cX13_strength 201 = .ok (.ireturn, 1) := by decide +kernel
theorem dX13_strength_193 : decode cX13_strength 193 = .ok (.bipush 7, 2) := by decide +kernel
theorem dX13_strength_195 : decode cX13_strength 195 = .ok (.ireturn, 1) := by decide +kernel
theorem dX13_strength_186 : decode cX13_strength 186 = .ok (.iconst 4, 1) := by decide +kernel
theorem dX13_strength_187 : decode cX13_strength 187 = .ok (.ireturn, 1) := by decide +kernel
theorem dX13_strength_184 : decode cX13_strength 184 = .ok (.iconst 3, 1) := by decide +kernel
theorem dX13_strength_185 : decode cX13_strength 185 = .ok (.ireturn, 1) := by decide +kernel
theorem dX13_strength_182 : decode cX13_strength 182 = .ok (.iconst 2, 1) := by decide +kernel
theorem dX13_strength_183 : decode cX13_strength 183 = .ok (.ireturn, 1) := by decide +kernel
theorem dX13_strength_196 : decode cX13_strength 196 = .ok (.bipush 8, 2) := by decide +kernel
theorem dX13_strength_198 : decode cX13_strength 198 = .ok (.ireturn, 1) := by decide +kernel
theorem dX13_strength_190 : decode cX13_strength 190 = .ok (.bipush 6, 2) := by decide +kernel
theorem dX13_strength_192 : decode cX13_strength 192 = .ok (.ireturn, 1) := by decide +kernel
theorem dX13_strength_180 : decode cX13_strength 180 = .ok (.iconst 1, 1) := by decide +kernel
theorem dX13_strength_181 : decode cX13_strength 181 = .ok (.ireturn, 1) := by decide +kernel
theorem dX13_strength_205 : decode cX13_strength 205 = .ok (.iconst 0, 1) := by decide +kernel
theorem dX13_strength_206 : decode cX13_strength 206 = .ok (.ireturn, 1) := by decide +kernel
theorem dX13_strength_13 : decode cX13_strength 13 = .ok (.iconst 0, 1) := by decide +kernel
theorem dX13_strength_14 : decode cX13_strength 14 = .ok (.ireturn, 1) := by decide +kernel
theorem dX13_setting_0 : decode cX13_setting 0 = .ok (.aload_n 0, 1) := by decide +kernel
theorem dX13_setting_1 : decode cX13_setting 1 = .ok (.getfield 41, 3) := by decide +kernel
theorem dX13_setting_4 : decode cX13_setting 4 = .ok (.aload_n 0, 1) := by decide +kernel
theorem dX13_setting_5 : decode cX13_setting 5 = .ok (.getfield 137, 3) := by decide +kernel
theorem dX13_setting_8 : decode cX13_setting 8 = .ok (.iaload, 1) := by decide +kernel
theorem dX13_setting_9 : decode cX13_setting 9 = .ok (.iconst 5, 1) := by decide +kernel
theorem dX13_setting_10 : decode cX13_setting 10 = .ok (.if_icmp .eq 5, 3) := by decide +kernel
theorem dX13_setting_15 : decode cX13_setting 15 = .ok (.aload_n 0, 1) := by decide +kernel
theorem dX13_setting_16 : decode cX13_setting 16 = .ok (.getfield 56, 3) := by decide +kernel
theorem dX13_setting_19 : decode cX13_setting 19 = .ok (.aload_n 0, 1) := by decide +kernel
theorem dX13_setting_20 : decode cX13_setting 20 = .ok (.getfield 137, 3) := by decide +kernel
theorem dX13_setting_23 : decode cX13_setting 23 = .ok (.laload, 1) := by decide +kernel
theorem dX13_setting_24 : decode cX13_setting 24 = .ok (.l2i, 1) := by decide +kernel
theorem dX13_setting_25 : decode cX13_setting 25 = .ok (.istore_n 1, 1) := by decide +kernel
theorem dX13_setting_26 : decode cX13_setting 26 = .ok (.iload_n 1, 1) := by decide +kernel
theorem dX13_setting_27 : decode cX13_setting 27 = .ok (.bipush 61, 2) := by decide +kernel
theorem dX13_setting_29 : decode cX13_setting 29 = .ok (.if_icmp .ne 5, 3) := by decide +kernel
theorem dX13_setting_34 : decode cX13_setting 34 = .ok (.iload_n 1, 1) := by decide +kernel
theorem dX13_setting_35 : decode cX13_setting 35 = .ok (.ldc 229, 2) := by decide +kernel
theorem tw_56 : (.constant RX13 229 (4013116) : Cond) ∈ tw_W := tw_in (t8_10 (List.mem_of_getElem? (i := 21) rfl)) rfl
theorem dX13_setting_37 : decode cX13_setting 37 = .ok (.if_icmp .eq 9, 3) := by decide +kernel
theorem dX13_setting_46 : decode cX13_setting 46 = .ok (.iload_n 1, 1) := by decide +kernel
theorem dX13_setting_47 : decode cX13_setting 47 = .ok (.ldc 231, 2) := by decide +kernel
theorem tw_57 : (.constant RX13 231 (65535) : Cond) ∈ tw_W := tw_in (t8_10 (List.mem_of_getElem? (i := 23) rfl)) rfl
theorem dX13_setting_49 : decode cX13_setting 49 = .ok (.iand, 1) := by decide +kernel
theorem dX13_setting_50 : decode cX13_setting 50 = .ok (.ireturn, 1) := by decide +kernel
theorem dX13_setting_40 : decode cX13_setting 40 = .ok (.iload_n 1, 1) := by decide +kernel
theorem dX13_setting_41 : decode cX13_setting 41 = .ok (.ldc 230, 2) := by decide +kernel
theorem tw_58 : (.constant RX13 230 (4013630) : Cond) ∈ tw_W := tw_in (t8_10 (List.mem_of_getElem? (i := 22) rfl)) rfl
theorem dX13_setting_43 : decode cX13_setting 43 = .ok (.if_icmp .ne 8, 3) := by decide +kernel
theorem dX13_setting_51 : decode cX13_setting 51 = .ok (.iload_n 1, 1) := by decide +kernel
theorem dX13_setting_52 : decode cX13_setting 52 = .ok (.sipush 255, 3) := by decide +kernel
theorem dX13_setting_55 : decode cX13_setting 55 = .ok (.iand, 1) := by decide +kernel
theorem dX13_setting_56 : decode cX13_setting 56 = .ok (.istore_n 2, 1) := by decide +kernel
theorem dX13_setting_57 : decode cX13_setting 57 = .ok (.iload_n 1, 1) := by decide +kernel
theorem dX13_setting_58 : decode cX13_setting 58 = .ok (.bipush 8, 2) := by decide +kernel
theorem dX13_setting_60 : decode cX13_setting 60 = .ok (.ishr, 1) := by decide +kernel
theorem dX13_setting_61 : decode cX13_setting 61 = .ok (.bipush 61, 2) := by decide +kernel
theorem dX13_setting_63 : decode cX13_setting 63 = .ok (.if_icmp .ne 7, 3) := by decide +kernel
theorem dX13_setting_70 : decode cX13_setting 70 = .ok (.iconst 0, 1) := by decide +kernel
theorem dX13_setting_71 : decode cX13_setting 71 = .ok (.istore_n 3, 1) := by decide +kernel
theorem dX13_setting_72 : decode cX13_setting 72 = .ok (.iload_n 3, 1) := by decide +kernel
theorem dX13_setting_73 : decode cX13_setting 73 = .ok (.ifCond .eq 55, 3) := by decide +kernel
theorem dX13_setting_128 : decode cX13_setting 128 = .ok (.iconst 0, 1) := by decide +kernel
theorem dX13_setting_129 : decode cX13_setting 129 = .ok (.istore 4, 2) := by decide +kernel
theorem dX13_setting_131 : decode cX13_setting 131 = .ok (.iload 4, 2) := by decide +kernel
theorem dX13_setting_133 : decode cX13_setting 133 = .ok (.ifCond .eq 7, 3) := by decide +kernel
theorem dX13_setting_140 : decode cX13_setting 140 = .ok (.iconst (-1), 1) := by decide +kernel
theorem dX13_setting_141 : decode cX13_setting 141 = .ok (.ireturn, 1) := by decide +kernel
theorem dX13_setting_66 : decode cX13_setting 66 = .ok (.iconst 1, 1) := by decide +kernel
theorem dX13_setting_67 : decode cX13_setting 67 = .ok (.goto 4, 3) := by decide +kernel
theorem dX13_setting_76 : decode cX13_setting 76 = .ok (.iload_n 2, 1) := by decide +kernel
theorem dX13_setting_77 : decode cX13_setting 77 = .ok (.bipush 43, 2) := by decide +kernel
theorem dX13_setting_79 : decode cX13_setting 79 = .ok (.if_icmp .eq 45, 3) := by decide +kernel
theorem dX13_setting_124 : decode cX13_setting 124 = .ok (.iconst 1, 1) := by decide +kernel
theorem dX13_setting_125 : decode cX13_setting 125 = .ok (.goto 4, 3) := by decide +kernel
theorem dX13_setting_136 : decode cX13_setting 136 = .ok (.iload_n 2, 1) := by decide +kernel
theorem dX13_setting_137 : decode cX13_setting 137 = .ok (.goto 4, 3) := by decide +kernel
theorem dX13_setting_82 : decode cX13_setting 82 = .ok (.iload_n 2, 1) := by decide +kernel
theorem dX13_setting_83 : decode cX13_setting 83 = .ok (.bipush 45, 2) := by decide +kernel
theorem dX13_setting_85 : decode cX13_setting 85 = .ok (.if_icmp .eq 39, 3) := by decide +kernel
theorem dX13_setting_88 : decode cX13_setting 88 = .ok (.iload_n 2, 1) := by decide +kernel
theorem dX13_setting_89 : decode cX13_setting 89 = .ok (.bipush 42, 2) := by decide +kernel
theorem dX13_setting_91 : decode cX13_setting 91 = .ok (.if_icmp .eq 33, 3) := by decide +kernel
theorem dX13_setting_94 : decode cX13_setting 94 = .ok (.iload_n 2, 1) := by decide +kernel
theorem dX13_setting_95 : decode cX13_setting 95 = .ok (.bipush 47, 2) := by decide +kernel
theorem dX13_setting_97 : decode cX13_setting 97 = .ok (.if_icmp .eq 27, 3) := by decide +kernel
theorem dX13_setting_100 : decode cX13_setting 100 = .ok (.iload_n 2, 1) := by decide +kernel
theorem dX13_setting_101 : decode cX13_setting 101 = .ok (.bipush 37, 2) := by decide +kernel
theorem dX13_setting_103 : decode cX13_setting 103 = .ok (.if_icmp .eq 21, 3) := by decide +kernel
theorem dX13_setting_106 : decode cX13_setting 106 = .ok (.iload_n 2, 1) := by decide +kernel
theorem dX13_setting_107 : decode cX13_setting 107 = .ok (.bipush 38, 2) := by decide +kernel
theorem dX13_setting_109 : decode cX13_setting 109 = .ok (.if_icmp .eq 15, 3) := by decide +kernel
theorem dX13_setting_112 : decode cX13_setting 112 = .ok (.iload_n 2, 1) := by decide +kernel
theorem dX13_setting_113 : decode cX13_setting 113 = .ok (.bipush 124, 2) := by decide +kernel
theorem dX13_setting_115 : decode cX13_setting 115 = .ok (.if_icmp .eq 9, 3) := by decide +kernel
theorem dX13_setting_118 : decode cX13_setting 118 = .ok (.iload_n 2, 1) := by decide +kernel
theorem dX13_setting_119 : decode cX13_setting 119 = .ok (.bipush 94, 2) := by decide +kernel
theorem dX13_setting_121 : decode cX13_setting 121 = .ok (.if_icmp .ne 7, 3) := by decide +kernel
theorem dX13_setting_32 : decode cX13_setting 32 = .ok (.iconst 0, 1) := by decide +kernel
theorem dX13_setting_33 : decode cX13_setting 33 = .ok (.ireturn, 1) := by decide +kernel
theorem dX13_setting_13 : decode cX13_setting 13 = .ok (.iconst (-1), 1) := by decide +kernel
theorem dX13_setting_14 : decode cX13_setting 14 = .ok (.ireturn, 1) := by decide +kernel
theorem dX13_loads_0 : decode cX13_loads 0 = .ok (.aload_n 0, 1) := by decide +kernel
theorem dX13_loads_1 : decode cX13_loads 1 = .ok (.iconst 0, 1) := by decide +kernel
theorem dX13_loads_2 : decode cX13_loads 2 = .ok (.iload_n 1, 1) := by decide +kernel
theorem dX13_loads_3 : decode cX13_loads 3 = .ok (.invokevirtual 210, 3) := by decide +kernel
theorem tw_59 : (.code yX13_say cX13_say 3 (some .int) : Cond) ∈ tw_W := tw_in (t8_10 (List.mem_of_getElem? (i := 16) rfl)) rfl
theorem tw_60 : ∀ w ∈ ([.methodLink RX13 210 yX13_say, .instanceMethod yX13_say, .selects RX13 yX13_say yX13_say, .initialized RX13] : List Cond), w ∈ tw_W := al_c (tw_in (t8_10 (List.mem_of_getElem? (i := 13) rfl)) rfl) (al_c (tw_in (t8_10 (List.mem_of_getElem? (i := 15) rfl)) rfl) (al_c (tw_in (t7_9 (q := (yX13_say, 124)) (List.mem_of_getElem? (i := 14) rfl)) rfl) (al_c (tw_in (t8_1 (List.mem_of_getElem? (i := 23) rfl)) rfl) al_n)))
theorem dX13_loads_6 : decode cX13_loads 6 = .ok (.pop, 1) := by decide +kernel
theorem dX13_loads_7 : decode cX13_loads 7 = .ok (.iload_n 1, 1) := by decide +kernel
theorem dX13_loads_8 : decode cX13_loads 8 = .ok (.sipush (-2048), 3) := by decide +kernel
theorem dX13_loads_11 : decode cX13_loads 11 = .ok (.if_icmp .lt 25, 3) := by decide +kernel
theorem dX13_loads_36 : decode cX13_loads 36 = .ok (.aload_n 0, 1) := by decide +kernel
theorem dX13_loads_37 : decode cX13_loads 37 = .ok (.bipush 10, 2) := by decide +kernel
theorem dX13_loads_39 : decode cX13_loads 39 = .ok (.iload_n 1, 1) := by decide +kernel
theorem dX13_loads_40 : decode cX13_loads 40 = .ok (.invokestatic 94, 3) := by decide +kernel
theorem dX13_loads_43 : decode cX13_loads 43 = .ok (.invokestatic 223, 3) := by decide +kernel
theorem tw_61 : (.code yX13_lui cX13_lui 2 (some .int) : Cond) ∈ tw_W := tw_in (t8_9 (List.mem_of_getElem? (i := 239) rfl)) rfl
theorem tw_62 : ∀ w ∈ ([.methodLink RX13 223 yX13_lui, .static yX13_lui, .initialized yX13_lui.cls] : List Cond), w ∈ tw_W := al_c (tw_in (t8_9 (List.mem_of_getElem? (i := 237) rfl)) rfl) (al_c (tw_in (t8_9 (List.mem_of_getElem? (i := 238) rfl)) rfl) (al_c (tw_in (t8_1 (List.mem_of_getElem? (i := 23) rfl)) rfl) al_n))
theorem dX13_loads_46 : decode cX13_loads 46 = .ok (.invokevirtual 111, 3) := by decide +kernel
theorem dX13_loads_49 : decode cX13_loads 49 = .ok (.pop, 1) := by decide +kernel
theorem dX13_loads_50 : decode cX13_loads 50 = .ok (.aload_n 0, 1) := by decide +kernel
theorem dX13_loads_51 : decode cX13_loads 51 = .ok (.bipush 10, 2) := by decide +kernel
theorem dX13_loads_53 : decode cX13_loads 53 = .ok (.bipush 10, 2) := by decide +kernel
theorem dX13_loads_55 : decode cX13_loads 55 = .ok (.iload_n 1, 1) := by decide +kernel
theorem dX13_loads_56 : decode cX13_loads 56 = .ok (.invokestatic 226, 3) := by decide +kernel
theorem tw_63 : (.code yX13_lo cX13_lo 1 (some .int) : Cond) ∈ tw_W := tw_in (t8_10 (List.mem_of_getElem? (i := 2) rfl)) rfl
theorem tw_64 : ∀ w ∈ ([.methodLink RX13 226 yX13_lo, .static yX13_lo, .initialized yX13_lo.cls] : List Cond), w ∈ tw_W := al_c (tw_in (t8_10 (List.mem_of_getElem? (i := 0) rfl)) rfl) (al_c (tw_in (t8_10 (List.mem_of_getElem? (i := 1) rfl)) rfl) (al_c (tw_in (t8_1 (List.mem_of_getElem? (i := 23) rfl)) rfl) al_n))
theorem dX13_loads_59 : decode cX13_loads 59 = .ok (.invokestatic 219, 3) := by decide +kernel
theorem tw_65 : (.code yX13_addi cX13_addi 3 (some .int) : Cond) ∈ tw_W := tw_in (t8_9 (List.mem_of_getElem? (i := 120) rfl)) rfl
theorem tw_66 : ∀ w ∈ ([.methodLink RX13 219 yX13_addi, .static yX13_addi, .initialized yX13_addi.cls] : List Cond), w ∈ tw_W := al_c (tw_in (t8_9 (List.mem_of_getElem? (i := 118) rfl)) rfl) (al_c (tw_in (t8_9 (List.mem_of_getElem? (i := 119) rfl)) rfl) (al_c (tw_in (t8_1 (List.mem_of_getElem? (i := 23) rfl)) rfl) al_n))
theorem dX13_loads_62 : decode cX13_loads 62 = .ok (.invokevirtual 111, 3) := by decide +kernel
theorem dX13_loads_65 : decode cX13_loads 65 = .ok (.pop, 1) := by decide +kernel
theorem dX13_loads_66 : decode cX13_loads 66 = .ok (.return_, 1) := by decide +kernel
theorem dX13_loads_14 : decode cX13_loads 14 = .ok (.iload_n 1, 1) := by decide +kernel
theorem dX13_loads_15 : decode cX13_loads 15 = .ok (.sipush 2047, 3) := by decide +kernel
theorem dX13_loads_18 : decode cX13_loads 18 = .ok (.if_icmp .gt 18, 3) := by decide +kernel
theorem dX13_loads_21 : decode cX13_loads 21 = .ok (.aload_n 0, 1) := by decide +kernel
theorem dX13_loads_22 : decode cX13_loads 22 = .ok (.bipush 10, 2) := by decide +kernel
theorem dX13_loads_24 : decode cX13_loads 24 = .ok (.iconst 0, 1) := by decide +kernel
theorem dX13_loads_25 : decode cX13_loads 25 = .ok (.iload_n 1, 1) := by decide +kernel
theorem dX13_loads_26 : decode cX13_loads 26 = .ok (.invokestatic 219, 3) := by decide +kernel
theorem dX13_loads_29 : decode cX13_loads 29 = .ok (.invokevirtual 111, 3) := by decide +kernel
theorem dX13_loads_32 : decode cX13_loads 32 = .ok (.pop, 1) := by decide +kernel
theorem dX13_loads_33 : decode cX13_loads 33 = .ok (.goto 33, 3) := by decide +kernel
theorem om_54890285ee {x0 x1 : Int} (h0 : 0 ≤ x0 ∧ x0 ≤ 500) (h1 : 0 ≤ x1 ∧ x1 ≤ 2000) : -2147483648 ≤ (x0) + (x1) := by omega
theorem om_ad3eb82f87 {x0 x1 : Int} (h0 : 0 ≤ x0 ∧ x0 ≤ 500) (h1 : 0 ≤ x1 ∧ x1 ≤ 2000) : (x0) + (x1) < 2147483648 := by omega
theorem om_c164b65558 {x0 x1 x2 : Int} (h0 : 0 ≤ x0 ∧ x0 ≤ 500) (h1 : 0 ≤ x1 ∧ x1 ≤ 2000) (h2 : 0 ≤ x2 ∧ x2 ≤ 8) : -2147483648 ≤ ((x0) + (x1)) + x2 := by omega
theorem om_ab4fdb28ba {x0 x1 x2 : Int} (h0 : 0 ≤ x0 ∧ x0 ≤ 500) (h1 : 0 ≤ x1 ∧ x1 ≤ 2000) (h2 : 0 ≤ x2 ∧ x2 ≤ 8) : ((x0) + (x1)) + x2 < 2147483648 := by omega
theorem om_2c3c1241ad {x0 x1 x2 : Int} (h0 : (((x0) + (x1)) + x2) ≤ (500 : Int)) : ((x0) + (x1)) + x2 < 2147483648 := by omega
theorem om_954b620401 {x0 x1 x2 : Int} (h0 : x0 = (x1) + (x2)) : x0 = x1 + x2 := by omega
theorem om_f50f4fae87 {x0 x1 x2 x3 x4 x5 : Int} (h0 : (((x0) + (x1)) + x2) ≤ x3) : (x0 + x1 + x2 ≤ x3 ∧ x4 = x4) ∨ x4 = x5 := by omega
theorem om_b8827882d9 {x0 : Int} (h0 : 0 ≤ x0 ∧ x0 ≤ 500) : x0 ≤ x0 ∧ x0 ≤ 500 := by omega
theorem om_74d5b75096 {x0 x1 x2 x3 : Int} (h0 : 0 ≤ x0 ∧ x0 ≤ 500) (h1 : x0 < (((x1) + (x2)) + x3)) : -2147483648 ≤ ((x1) + (x2)) + x3 := by omega
theorem om_e0b9233bbe {x0 x1 x2 x3 x4 x5 : Int} (h0 : x0 = ((x1) + (x2)) + x3) : (x1 + x2 + x3 ≤ x0 ∧ x4 = x4) ∨ x4 = x5 := by omega
theorem om_20891c0c77 {x0 x1 x2 x3 x4 : Int} (h0 : x0 = ((x1) + (x2)) + x3) (h1 : (((x1) + (x2)) + x3) ≤ (500 : Int)) (h2 : x4 < (((x1) + (x2)) + x3)) : x4 ≤ x0 ∧ x0 ≤ 500 := by omega
theorem om_aa833f25ce {x0 x1 x2 x3 x4 x5 : Int} : (x0 + x1 + x2 ≤ x3 ∧ x4 = x5) ∨ x4 = x4 := by omega
set_option maxHeartbeats 4000000 in
set_option maxRecDepth 100000 in
theorem c_m_slots (l : Launch) (dC : Nat → ClassId) (dI : Nat → Nat → Nat) (cI cB cZ cJ cR : ClassId) (tb : Nat → Nat) (sz : Nat) (ad : Nat → Nat) (N : Nat) (v : MS) (pa : Int32) (zkn : 0 ≤ (v.1 0 30).toInt ∧ (v.1 0 30).toInt ≤ 500) (zpb : 0 ≤ (v.1 0 32).toInt ∧ (v.1 0 32).toInt ≤ 2000) (zhi : 0 ≤ (v.1 0 33).toInt ∧ (v.1 0 33).toInt ≤ 500) (zpa : 0 ≤ pa.toInt ∧ pa.toInt ≤ 8) : Met l yX13_slots (Cond.code yX13_slots cX13_slots 3 (some .int) :: tw_W) ({ frames := 0, cells := 0, slots := 0, locals := 0 }) (pc_ (dC, dI) (tyS cI cB cZ cJ cR) tb (mW ad N cI cZ cJ v) sz [.ref (ad 0), .int pa]) (qi_ (dC, dI) (mW ad N cI cZ cJ v) sz (fun (r : Int32) (u : MS) => FG [33, 49] [0] v u ∧ (Q_m_slots v pa r u) ∧ (r.toInt = (v.1 0 30).toInt + (v.1 0 32).toInt) ∧ (((v.1 0 30).toInt + (v.1 0 32).toInt + pa.toInt ≤ (u.1 0 33).toInt ∧ (u.1 0 49).toInt = (v.1 0 49).toInt) ∨ (u.1 0 49).toInt = (v.1 0 47).toInt) ∧ ((v.1 0 33).toInt ≤ (u.1 0 33).toInt ∧ (u.1 0 33).toInt ≤ 500)) (fun (u : MS) => (mW ad N cI cZ cJ u))) 0 0 (va_A (mW ad N cI cZ cJ v) sz) := by
  refine Met.ofW (cc := cX13_slots) (maxL := 3) (ret := (some .int)) (by decide) rfl ?_
  intro p e s m args below meth c s₁ B hml hv
  obtain ⟨rfl, hsz, hP, hKK, hD0, hFx⟩ := hv
  have hK := hKK.1
  have hx := B.exec
  have hb := B.bytes
  have hr := B.returns
  have ht : ∀ w ∈ tw_W, w.before _ s = true := fun w h => atoms_spec (ws := Cond.code yX13_slots cX13_slots 3 (some .int) :: tw_W) B.pre w (List.mem_cons_of_mem _ h)
  have hown : s.vm.findClass RX13 = some m.cls := findClass_of_methodNamed B.named
  have hlocks := B.notSynchronized
  subst hsz
  unfold qi_
  have hD := hD0.self (sz := s.heap.size)
  generalize hAe : va_A (mW ad N cI cZ cJ v) s.heap.size = A at hD hFx ⊢
  have hA : ∀ q : Nat, s.heap.size ≤ q → A q := fun q h => by rw [← hAe]; exact Or.inr h
  have hS : va_S A s.heap s.heap [] := va_S.rf
  have hl := lv_entry ([.ref (ad 0), .int pa]) (n := 3) (Nat.le_of_ble_eq_true rfl)
  rw [lg_entry_eq]
  generalize (lg_sl ([.ref (ad 0), .int pa]) ++ List.replicate (3 - (lg_sl ([.ref (ad 0), .int pa])).length) Slot.unset).toArray = ls at hl ⊢
  have hl : lv_has ls 3 [(0, .ref (ad 0)), (1, .int pa)] := hl
  refine lv_aload_n hx hb dX13_slots_0 rfl (lv_at hl 0 rfl) ?_
  refine va_get (D := (dC, dI)) (ci := 16) (fs := mF ad v) (v := .int (v.1 0 30)) (C := RX13) (T := TX13) (N := 124) hx hb ht itX13 hown hK hP 0 rfl rfl 30 (by decide) (ht _ tw_44) (fun _ h9 => h9) rfl dX13_slots_1 ?_
  refine lv_aload_n hx hb dX13_slots_4 rfl (lv_at hl 0 rfl) ?_
  refine va_get (D := (dC, dI)) (ci := 16) (fs := mF ad v) (v := .int (v.1 0 32)) (C := RX13) (T := TX13) (N := 124) hx hb ht itX13 hown hK hP 0 rfl rfl 32 (by decide) (ht _ tw_52) (fun _ h9 => h9) rfl dX13_slots_5 ?_
  refine lv_iadd hx hb dX13_slots_8 ?_
  have z1 : ((v.1 0 30) + (v.1 0 32)).toInt = ((v.1 0 30).toInt) + ((v.1 0 32).toInt) := add_z rfl rfl (om_54890285ee zkn zpb) (om_ad3eb82f87 zkn zpb)
  refine lv_istore_n (lv' := [(2, .int ((v.1 0 30) + (v.1 0 32))), (0, .ref (ad 0)), (1, .int pa)]) hx hb dX13_slots_9 rfl hl (by decide) rfl (fun ls hl => ?_)
  refine lv_iload_n hx hb dX13_slots_10 rfl (lv_at hl 0 rfl) ?_
  refine lv_iload_n hx hb dX13_slots_11 rfl (lv_at hl 2 rfl) ?_
  refine lv_iadd hx hb dX13_slots_12 ?_
  have z2 : (((v.1 0 30) + (v.1 0 32)) + pa).toInt = (((v.1 0 30).toInt) + ((v.1 0 32).toInt)) + pa.toInt := add_z z1 rfl (om_c164b65558 zkn zpb zpa) (om_ab4fdb28ba zkn zpb zpa)
  refine lv_sipush (v := 500) hx hb dX13_slots_13 (by decide) ?_
  refine lv_icmp_le (tgt := 30) hx hb dX13_slots_16 (by decide) (fun h3 => ?_) (fun h3 => ?_)
  · have z4 : ((((v.1 0 30).toInt) + ((v.1 0 32).toInt)) + pa.toInt) ≤ (500 : Int) := le_z z2 (show (500 : Int32).toInt = (500 : Int) by decide) h3
    refine lv_iload_n hx hb dX13_slots_30 rfl (lv_at hl 0 rfl) ?_
    refine lv_iload_n hx hb dX13_slots_31 rfl (lv_at hl 2 rfl) ?_
    refine lv_iadd hx hb dX13_slots_32 ?_
    have z5 : (((v.1 0 30) + (v.1 0 32)) + pa).toInt = (((v.1 0 30).toInt) + ((v.1 0 32).toInt)) + pa.toInt := add_z z1 rfl (om_c164b65558 zkn zpb zpa) (om_2c3c1241ad z4)
    refine lv_aload_n hx hb dX13_slots_33 rfl (lv_at hl 1 rfl) ?_
    refine va_get (D := (dC, dI)) (ci := 16) (fs := mF ad v) (v := .int (v.1 0 33)) (C := RX13) (T := TX13) (N := 124) hx hb ht itX13 hown hK hP 0 rfl rfl 33 (by decide) (ht _ tw_53) (fun _ h9 => h9) rfl dX13_slots_34 ?_
    refine lv_icmp_le (tgt := 47) hx hb dX13_slots_37 (by decide) (fun h6 => ?_) (fun h6 => ?_)
    · have z7 : ((((v.1 0 30).toInt) + ((v.1 0 32).toInt)) + pa.toInt) ≤ (v.1 0 33).toInt := le_z z5 rfl h6
      refine lv_iload_n hx hb dX13_slots_47 rfl (lv_at hl 0 rfl) ?_
      exact W.iret (v := ((v.1 0 30) + (v.1 0 32))) hx hb hr (fun t ht9 hW => ⟨⟨((v.1 0 30) + (v.1 0 32)), v, rfl, ⟨(FG.rf _), ⟨zkn, zpb, zhi, zpa, (Or.inl ⟨z4, (Or.inl ⟨z7, rfl, rfl⟩)⟩)⟩, (show ((v.1 0 30) + (v.1 0 32)).toInt = (v.1 0 30).toInt + (v.1 0 32).toInt from (om_954b620401 z1)), (show ((v.1 0 30).toInt + (v.1 0 32).toInt + pa.toInt ≤ (v.1 0 33).toInt ∧ (v.1 0 49).toInt = (v.1 0 49).toInt) ∨ (v.1 0 49).toInt = (v.1 0 47).toInt from (om_f50f4fae87 z7)), (show (v.1 0 33).toInt ≤ (v.1 0 33).toInt ∧ (v.1 0 33).toInt ≤ 500 from (om_b8827882d9 zhi))⟩, by rw [ht9]; exact hP, hD⟩, hS.F ht9⟩) hS.2.2 dX13_slots_48
    · have z8 : (v.1 0 33).toInt < ((((v.1 0 30).toInt) + ((v.1 0 32).toInt)) + pa.toInt) := nle_z z5 rfl h6
      refine lv_aload_n hx hb dX13_slots_40 rfl (lv_at hl 1 rfl) ?_
      refine lv_iload_n hx hb dX13_slots_41 rfl (lv_at hl 0 rfl) ?_
      refine lv_iload_n hx hb dX13_slots_42 rfl (lv_at hl 2 rfl) ?_
      refine lv_iadd hx hb dX13_slots_43 ?_
      have z9 : (((v.1 0 30) + (v.1 0 32)) + pa).toInt = (((v.1 0 30).toInt) + ((v.1 0 32).toInt)) + pa.toInt := add_z z1 rfl (om_74d5b75096 zhi z8) (om_2c3c1241ad z4)
      refine va_put (D := (dC, dI)) (ci := 16) (fs := mF ad v) (v := .int (((v.1 0 30) + (v.1 0 32)) + pa)) (ty := .int) (C := RX13) (T := TX13) (N := 124) hx hb ht itX13 tyX13 tyX13_ok nmX13 hown hK hP hD hS 0 rfl rfl 33 (by decide) (ht _ tw_53) (fun _ h9 => h9) rfl (by decide +kernel) rfl rfl (Nat.le_of_ble_eq_true rfl) dX13_slots_44 (fun H locs hP hD hS => ?_)
      have hP := cP_ (mw_33 ad N cI cZ cJ v (((v.1 0 30) + (v.1 0 32)) + pa)) hP
      have hD := cD_ (mw_33 ad N cI cZ cJ v (((v.1 0 30) + (v.1 0 32)) + pa)) hD
      refine lv_iload_n hx hb dX13_slots_47 rfl (lv_at hl 0 rfl) ?_
      exact W.iret (v := ((v.1 0 30) + (v.1 0 32))) hx hb hr (fun t ht9 hW => ⟨⟨((v.1 0 30) + (v.1 0 32)), (wA v 0 33 (((v.1 0 30) + (v.1 0 32)) + pa)), rfl, ⟨(FG.f (FG.rf _) (((v.1 0 30) + (v.1 0 32)) + pa) (by decide)), ⟨zkn, zpb, zhi, zpa, (Or.inl ⟨z4, (Or.inr (⟨z8, rfl, rfl⟩))⟩)⟩, (show ((v.1 0 30) + (v.1 0 32)).toInt = (v.1 0 30).toInt + (v.1 0 32).toInt from (om_954b620401 z1)), (show ((v.1 0 30).toInt + (v.1 0 32).toInt + pa.toInt ≤ (((v.1 0 30) + (v.1 0 32)) + pa).toInt ∧ (v.1 0 49).toInt = (v.1 0 49).toInt) ∨ (v.1 0 49).toInt = (v.1 0 47).toInt from (om_e0b9233bbe z2)), (show (v.1 0 33).toInt ≤ (((v.1 0 30) + (v.1 0 32)) + pa).toInt ∧ (((v.1 0 30) + (v.1 0 32)) + pa).toInt ≤ 500 from (om_20891c0c77 z2 z4 z8))⟩, by rw [ht9]; exact hP, hD⟩, hS.F ht9⟩) hS.2.2 dX13_slots_48
  · have z10 : (500 : Int) < ((((v.1 0 30).toInt) + ((v.1 0 32).toInt)) + pa.toInt) := nle_z z2 (show (500 : Int32).toInt = (500 : Int) by decide) h3
    refine lv_aload_n hx hb dX13_slots_19 rfl (lv_at hl 1 rfl) ?_
    refine lv_aload_n hx hb dX13_slots_20 rfl (lv_at hl 1 rfl) ?_
    refine va_get (D := (dC, dI)) (ci := 16) (fs := mF ad v) (v := .int (v.1 0 47)) (C := RX13) (T := TX13) (N := 124) hx hb ht itX13 hown hK hP 0 rfl rfl 47 (by decide) (ht _ tw_24) (fun _ h9 => h9) rfl dX13_slots_21 ?_
    refine va_put (D := (dC, dI)) (ci := 16) (fs := mF ad v) (v := .int (v.1 0 47)) (ty := .int) (C := RX13) (T := TX13) (N := 124) hx hb ht itX13 tyX13 tyX13_ok nmX13 hown hK hP hD hS 0 rfl rfl 49 (by decide) (ht _ tw_30) (fun _ h9 => h9) rfl (by decide +kernel) rfl rfl (Nat.le_of_ble_eq_true rfl) dX13_slots_24 (fun H locs hP hD hS => ?_)
    have hP := cP_ (mw_49 ad N cI cZ cJ v (v.1 0 47)) hP
    have hD := cD_ (mw_49 ad N cI cZ cJ v (v.1 0 47)) hD
    refine lv_goto (tgt := 47) hx hb dX13_slots_27 (by decide) ?_
    refine lv_iload_n hx hb dX13_slots_47 rfl (lv_at hl 0 rfl) ?_
    exact W.iret (v := ((v.1 0 30) + (v.1 0 32))) hx hb hr (fun t ht9 hW => ⟨⟨((v.1 0 30) + (v.1 0 32)), (wA v 0 49 (v.1 0 47)), rfl, ⟨(FG.f (FG.rf _) (v.1 0 47) (by decide)), ⟨zkn, zpb, zhi, zpa, (Or.inr (⟨z10, rfl, rfl⟩))⟩, (show ((v.1 0 30) + (v.1 0 32)).toInt = (v.1 0 30).toInt + (v.1 0 32).toInt from (om_954b620401 z1)), (show ((v.1 0 30).toInt + (v.1 0 32).toInt + pa.toInt ≤ (v.1 0 33).toInt ∧ (v.1 0 47).toInt = (v.1 0 49).toInt) ∨ (v.1 0 47).toInt = (v.1 0 47).toInt from om_aa833f25ce), (show (v.1 0 33).toInt ≤ (v.1 0 33).toInt ∧ (v.1 0 33).toInt ≤ 500 from (om_b8827882d9 zhi))⟩, by rw [ht9]; exact hP, hD⟩, hS.F ht9⟩) hS.2.2 dX13_slots_48
theorem om_b318fa75df {x0 : Int} (h0 : x0 = (42 : Int)) (h1 : x0 = (47 : Int)) : False := by omega
theorem om_6d6b48dbf7 {x0 : Int} (h0 : x0 = (42 : Int)) (h1 : x0 = (37 : Int)) : False := by omega
set_option maxHeartbeats 4000000 in
set_option maxRecDepth 100000 in
theorem c_m_remember (l : Launch) (dC : Nat → ClassId) (dI : Nat → Nat → Nat) (cI cB cZ cJ cR : ClassId) (tb : Nat → Nat) (sz : Nat) (ad : Nat → Nat) (N : Nat) (v : MS) (pa : Int32)  : Met l yX13_remember (Cond.code yX13_remember cX13_remember 2 none :: tw_W) ({ frames := 0, cells := 0, slots := 0, locals := 0 }) (pc_ (dC, dI) (tyS cI cB cZ cJ cR) tb (mW ad N cI cZ cJ v) sz [.ref (ad 0), .int pa]) (qv_ (dC, dI) (mW ad N cI cZ cJ v) sz (fun (u : MS) => FG [44, 45] [0] v u ∧ (Q_m_remember v pa u)) (fun (u : MS) => (mW ad N cI cZ cJ u))) 0 0 (va_A (mW ad N cI cZ cJ v) sz) := by
  refine Met.ofW (cc := cX13_remember) (maxL := 2) (ret := none) (by decide) rfl ?_
  intro p e s m args below meth c s₁ B hml hv
  obtain ⟨rfl, hsz, hP, hKK, hD0, hFx⟩ := hv
  have hK := hKK.1
  have hx := B.exec
  have hb := B.bytes
  have hr := B.returns
  have ht : ∀ w ∈ tw_W, w.before _ s = true := fun w h => atoms_spec (ws := Cond.code yX13_remember cX13_remember 2 none :: tw_W) B.pre w (List.mem_cons_of_mem _ h)
  have hown : s.vm.findClass RX13 = some m.cls := findClass_of_methodNamed B.named
  have hlocks := B.notSynchronized
  subst hsz
  unfold qv_
  have hD := hD0.self (sz := s.heap.size)
  generalize hAe : va_A (mW ad N cI cZ cJ v) s.heap.size = A at hD hFx ⊢
  have hA : ∀ q : Nat, s.heap.size ≤ q → A q := fun q h => by rw [← hAe]; exact Or.inr h
  have hS : va_S A s.heap s.heap [] := va_S.rf
  have hl := lv_entry ([.ref (ad 0), .int pa]) (n := 2) (Nat.le_of_ble_eq_true rfl)
  rw [lg_entry_eq]
  generalize (lg_sl ([.ref (ad 0), .int pa]) ++ List.replicate (2 - (lg_sl ([.ref (ad 0), .int pa])).length) Slot.unset).toArray = ls at hl ⊢
  have hl : lv_has ls 2 [(0, .ref (ad 0)), (1, .int pa)] := hl
  refine lv_aload_n hx hb dX13_remember_0 rfl (lv_at hl 0 rfl) ?_
  refine lv_aload_n hx hb dX13_remember_1 rfl (lv_at hl 0 rfl) ?_
  refine va_get (D := (dC, dI)) (ci := 16) (fs := mF ad v) (v := .int (v.1 0 44)) (C := RX13) (T := TX13) (N := 124) hx hb ht itX13 hown hK hP 0 rfl rfl 44 (by decide) (ht _ tw_54) (fun _ h9 => h9) rfl dX13_remember_2 ?_
  refine lv_if_ne (tgt := 14) hx hb dX13_remember_5 (by decide) (fun h1 => ?_) (fun h1 => ?_)
  · have z2 : (v.1 0 44).toInt ≠ (0 : Int) := ne_z rfl (show (0 : Int32).toInt = (0 : Int) by decide) h1
    refine lv_iconst (v := 1) hx hb dX13_remember_14 (by decide) ?_
    refine lv_goto (tgt := 19) hx hb dX13_remember_15 (by decide) ?_
    refine va_put (D := (dC, dI)) (ci := 16) (fs := mF ad v) (v := .int 1) (ty := .boolean) (C := RX13) (T := TX13) (N := 124) hx hb ht itX13 tyX13 tyX13_ok nmX13 hown hK hP hD hS 0 rfl rfl 44 (by decide) (ht _ tw_54) (fun _ h9 => h9) rfl (by decide +kernel) rfl rfl (Nat.le_of_ble_eq_true rfl) dX13_remember_19 (fun H locs hP hD hS => ?_)
    have hP := cP_ (mw_44 ad N cI cZ cJ v 1) hP
    have hD := cD_ (mw_44 ad N cI cZ cJ v 1) hD
    refine lv_aload_n hx hb dX13_remember_22 rfl (lv_at hl 0 rfl) ?_
    refine lv_aload_n hx hb dX13_remember_23 rfl (lv_at hl 0 rfl) ?_
    refine va_get (D := (dC, dI)) (ci := 16) (fs := mF ad (wA v 0 44 1)) (v := .int (v.1 0 45)) (C := RX13) (T := TX13) (N := 124) hx hb ht itX13 hown hK hP 0 rfl rfl 45 (by decide) (ht _ tw_55) (fun _ h9 => h9) rfl dX13_remember_24 ?_
    refine lv_if_ne (tgt := 42) hx hb dX13_remember_27 (by decide) (fun h3 => ?_) (fun h3 => ?_)
    · have z4 : (v.1 0 45).toInt ≠ (0 : Int) := ne_z rfl (show (0 : Int32).toInt = (0 : Int) by decide) h3
      refine lv_iconst (v := 1) hx hb dX13_remember_42 (by decide) ?_
      refine lv_goto (tgt := 47) hx hb dX13_remember_43 (by decide) ?_
      refine va_put (D := (dC, dI)) (ci := 16) (fs := mF ad (wA v 0 44 1)) (v := .int 1) (ty := .boolean) (C := RX13) (T := TX13) (N := 124) hx hb ht itX13 tyX13 tyX13_ok nmX13 hown hK hP hD hS 0 rfl rfl 45 (by decide) (ht _ tw_55) (fun _ h9 => h9) rfl (by decide +kernel) rfl rfl (Nat.le_of_ble_eq_true rfl) dX13_remember_47 (fun H locs hP hD hS => ?_)
      have hP := cP_ (mw_45 ad N cI cZ cJ (wA v 0 44 1) 1) hP
      have hD := cD_ (mw_45 ad N cI cZ cJ (wA v 0 44 1) 1) hD
      exact W.vret hx hb hr (fun t ht9 hW => ⟨⟨(wA (wA v 0 44 1) 0 45 1), rfl, ⟨(FG.f (FG.f (FG.rf _) 1 (by decide)) 1 (by decide)), (Or.inl ⟨z2, (Or.inl ⟨z4, rfl⟩)⟩)⟩, by rw [ht9]; exact hP, hD⟩, hS.F ht9⟩) hS.2.2 dX13_remember_50
    · have z5 : (v.1 0 45).toInt = (0 : Int) := eq_z rfl (show (0 : Int32).toInt = (0 : Int) by decide) h3
      refine lv_iload_n hx hb dX13_remember_30 rfl (lv_at hl 1 rfl) ?_
      refine lv_bipush (v := 47) hx hb dX13_remember_31 (by decide) ?_
      refine lv_icmp_eq (tgt := 42) hx hb dX13_remember_33 (by decide) (fun h6 => ?_) (fun h6 => ?_)
      · have z7 : pa.toInt = (47 : Int) := eq_z rfl (show (47 : Int32).toInt = (47 : Int) by decide) h6
        refine lv_iconst (v := 1) hx hb dX13_remember_42 (by decide) ?_
        refine lv_goto (tgt := 47) hx hb dX13_remember_43 (by decide) ?_
        refine va_put (D := (dC, dI)) (ci := 16) (fs := mF ad (wA v 0 44 1)) (v := .int 1) (ty := .boolean) (C := RX13) (T := TX13) (N := 124) hx hb ht itX13 tyX13 tyX13_ok nmX13 hown hK hP hD hS 0 rfl rfl 45 (by decide) (ht _ tw_55) (fun _ h9 => h9) rfl (by decide +kernel) rfl rfl (Nat.le_of_ble_eq_true rfl) dX13_remember_47 (fun H locs hP hD hS => ?_)
        have hP := cP_ (mw_45 ad N cI cZ cJ (wA v 0 44 1) 1) hP
        have hD := cD_ (mw_45 ad N cI cZ cJ (wA v 0 44 1) 1) hD
        exact W.vret hx hb hr (fun t ht9 hW => ⟨⟨(wA (wA v 0 44 1) 0 45 1), rfl, ⟨(FG.f (FG.f (FG.rf _) 1 (by decide)) 1 (by decide)), (Or.inl ⟨z2, (Or.inr (⟨z5, (Or.inl ⟨z7, rfl⟩)⟩))⟩)⟩, by rw [ht9]; exact hP, hD⟩, hS.F ht9⟩) hS.2.2 dX13_remember_50
      · have z8 : pa.toInt ≠ (47 : Int) := ne_z rfl (show (47 : Int32).toInt = (47 : Int) by decide) h6
        refine lv_iload_n hx hb dX13_remember_36 rfl (lv_at hl 1 rfl) ?_
        refine lv_bipush (v := 37) hx hb dX13_remember_37 (by decide) ?_
        refine lv_icmp_ne (tgt := 46) hx hb dX13_remember_39 (by decide) (fun h9 => ?_) (fun h9 => ?_)
        · have z10 : pa.toInt ≠ (37 : Int) := ne_z rfl (show (37 : Int32).toInt = (37 : Int) by decide) h9
          refine lv_iconst (v := 0) hx hb dX13_remember_46 (by decide) ?_
          refine va_put (D := (dC, dI)) (ci := 16) (fs := mF ad (wA v 0 44 1)) (v := .int 0) (ty := .boolean) (C := RX13) (T := TX13) (N := 124) hx hb ht itX13 tyX13 tyX13_ok nmX13 hown hK hP hD hS 0 rfl rfl 45 (by decide) (ht _ tw_55) (fun _ h9 => h9) rfl (by decide +kernel) rfl rfl (Nat.le_of_ble_eq_true rfl) dX13_remember_47 (fun H locs hP hD hS => ?_)
          have hP := cP_ (mw_45 ad N cI cZ cJ (wA v 0 44 1) 0) hP
          have hD := cD_ (mw_45 ad N cI cZ cJ (wA v 0 44 1) 0) hD
          exact W.vret hx hb hr (fun t ht9 hW => ⟨⟨(wA (wA v 0 44 1) 0 45 0), rfl, ⟨(FG.f (FG.f (FG.rf _) 1 (by decide)) 0 (by decide)), (Or.inl ⟨z2, (Or.inr (⟨z5, (Or.inr (⟨z8, (Or.inl ⟨z10, rfl⟩)⟩))⟩))⟩)⟩, by rw [ht9]; exact hP, hD⟩, hS.F ht9⟩) hS.2.2 dX13_remember_50
        · have z11 : pa.toInt = (37 : Int) := eq_z rfl (show (37 : Int32).toInt = (37 : Int) by decide) h9
          refine lv_iconst (v := 1) hx hb dX13_remember_42 (by decide) ?_
          refine lv_goto (tgt := 47) hx hb dX13_remember_43 (by decide) ?_
          refine va_put (D := (dC, dI)) (ci := 16) (fs := mF ad (wA v 0 44 1)) (v := .int 1) (ty := .boolean) (C := RX13) (T := TX13) (N := 124) hx hb ht itX13 tyX13 tyX13_ok nmX13 hown hK hP hD hS 0 rfl rfl 45 (by decide) (ht _ tw_55) (fun _ h9 => h9) rfl (by decide +kernel) rfl rfl (Nat.le_of_ble_eq_true rfl) dX13_remember_47 (fun H locs hP hD hS => ?_)
          have hP := cP_ (mw_45 ad N cI cZ cJ (wA v 0 44 1) 1) hP
          have hD := cD_ (mw_45 ad N cI cZ cJ (wA v 0 44 1) 1) hD
          exact W.vret hx hb hr (fun t ht9 hW => ⟨⟨(wA (wA v 0 44 1) 0 45 1), rfl, ⟨(FG.f (FG.f (FG.rf _) 1 (by decide)) 1 (by decide)), (Or.inl ⟨z2, (Or.inr (⟨z5, (Or.inr (⟨z8, (Or.inr (⟨z11, rfl⟩))⟩))⟩))⟩)⟩, by rw [ht9]; exact hP, hD⟩, hS.F ht9⟩) hS.2.2 dX13_remember_50
  · have z12 : (v.1 0 44).toInt = (0 : Int) := eq_z rfl (show (0 : Int32).toInt = (0 : Int) by decide) h1
    refine lv_iload_n hx hb dX13_remember_8 rfl (lv_at hl 1 rfl) ?_
    refine lv_bipush (v := 42) hx hb dX13_remember_9 (by decide) ?_
    refine lv_icmp_ne (tgt := 18) hx hb dX13_remember_11 (by decide) (fun h13 => ?_) (fun h13 => ?_)
    · have z14 : pa.toInt ≠ (42 : Int) := ne_z rfl (show (42 : Int32).toInt = (42 : Int) by decide) h13
      refine lv_iconst (v := 0) hx hb dX13_remember_18 (by decide) ?_
      refine va_put (D := (dC, dI)) (ci := 16) (fs := mF ad v) (v := .int 0) (ty := .boolean) (C := RX13) (T := TX13) (N := 124) hx hb ht itX13 tyX13 tyX13_ok nmX13 hown hK hP hD hS 0 rfl rfl 44 (by decide) (ht _ tw_54) (fun _ h9 => h9) rfl (by decide +kernel) rfl rfl (Nat.le_of_ble_eq_true rfl) dX13_remember_19 (fun H locs hP hD hS => ?_)
      have hP := cP_ (mw_44 ad N cI cZ cJ v 0) hP
      have hD := cD_ (mw_44 ad N cI cZ cJ v 0) hD
      refine lv_aload_n hx hb dX13_remember_22 rfl (lv_at hl 0 rfl) ?_
      refine lv_aload_n hx hb dX13_remember_23 rfl (lv_at hl 0 rfl) ?_
      refine va_get (D := (dC, dI)) (ci := 16) (fs := mF ad (wA v 0 44 0)) (v := .int (v.1 0 45)) (C := RX13) (T := TX13) (N := 124) hx hb ht itX13 hown hK hP 0 rfl rfl 45 (by decide) (ht _ tw_55) (fun _ h9 => h9) rfl dX13_remember_24 ?_
      refine lv_if_ne (tgt := 42) hx hb dX13_remember_27 (by decide) (fun h15 => ?_) (fun h15 => ?_)
      · have z16 : (v.1 0 45).toInt ≠ (0 : Int) := ne_z rfl (show (0 : Int32).toInt = (0 : Int) by decide) h15
        refine lv_iconst (v := 1) hx hb dX13_remember_42 (by decide) ?_
        refine lv_goto (tgt := 47) hx hb dX13_remember_43 (by decide) ?_
        refine va_put (D := (dC, dI)) (ci := 16) (fs := mF ad (wA v 0 44 0)) (v := .int 1) (ty := .boolean) (C := RX13) (T := TX13) (N := 124) hx hb ht itX13 tyX13 tyX13_ok nmX13 hown hK hP hD hS 0 rfl rfl 45 (by decide) (ht _ tw_55) (fun _ h9 => h9) rfl (by decide +kernel) rfl rfl (Nat.le_of_ble_eq_true rfl) dX13_remember_47 (fun H locs hP hD hS => ?_)
        have hP := cP_ (mw_45 ad N cI cZ cJ (wA v 0 44 0) 1) hP
        have hD := cD_ (mw_45 ad N cI cZ cJ (wA v 0 44 0) 1) hD
        exact W.vret hx hb hr (fun t ht9 hW => ⟨⟨(wA (wA v 0 44 0) 0 45 1), rfl, ⟨(FG.f (FG.f (FG.rf _) 0 (by decide)) 1 (by decide)), (Or.inr (⟨z12, (Or.inl ⟨z14, (Or.inl ⟨z16, rfl⟩)⟩)⟩))⟩, by rw [ht9]; exact hP, hD⟩, hS.F ht9⟩) hS.2.2 dX13_remember_50
      · have z17 : (v.1 0 45).toInt = (0 : Int) := eq_z rfl (show (0 : Int32).toInt = (0 : Int) by decide) h15
        refine lv_iload_n hx hb dX13_remember_30 rfl (lv_at hl 1 rfl) ?_
        refine lv_bipush (v := 47) hx hb dX13_remember_31 (by decide) ?_
        refine lv_icmp_eq (tgt := 42) hx hb dX13_remember_33 (by decide) (fun h18 => ?_) (fun h18 => ?_)
        · have z19 : pa.toInt = (47 : Int) := eq_z rfl (show (47 : Int32).toInt = (47 : Int) by decide) h18
          refine lv_iconst (v := 1) hx hb dX13_remember_42 (by decide) ?_
          refine lv_goto (tgt := 47) hx hb dX13_remember_43 (by decide) ?_
          refine va_put (D := (dC, dI)) (ci := 16) (fs := mF ad (wA v 0 44 0)) (v := .int 1) (ty := .boolean) (C := RX13) (T := TX13) (N := 124) hx hb ht itX13 tyX13 tyX13_ok nmX13 hown hK hP hD hS 0 rfl rfl 45 (by decide) (ht _ tw_55) (fun _ h9 => h9) rfl (by decide +kernel) rfl rfl (Nat.le_of_ble_eq_true rfl) dX13_remember_47 (fun H locs hP hD hS => ?_)
          have hP := cP_ (mw_45 ad N cI cZ cJ (wA v 0 44 0) 1) hP
          have hD := cD_ (mw_45 ad N cI cZ cJ (wA v 0 44 0) 1) hD
          exact W.vret hx hb hr (fun t ht9 hW => ⟨⟨(wA (wA v 0 44 0) 0 45 1), rfl, ⟨(FG.f (FG.f (FG.rf _) 0 (by decide)) 1 (by decide)), (Or.inr (⟨z12, (Or.inl ⟨z14, (Or.inr (⟨z17, (Or.inl ⟨z19, rfl⟩)⟩))⟩)⟩))⟩, by rw [ht9]; exact hP, hD⟩, hS.F ht9⟩) hS.2.2 dX13_remember_50
        · have z20 : pa.toInt ≠ (47 : Int) := ne_z rfl (show (47 : Int32).toInt = (47 : Int) by decide) h18
          refine lv_iload_n hx hb dX13_remember_36 rfl (lv_at hl 1 rfl) ?_
          refine lv_bipush (v := 37) hx hb dX13_remember_37 (by decide) ?_
          refine lv_icmp_ne (tgt := 46) hx hb dX13_remember_39 (by decide) (fun h21 => ?_) (fun h21 => ?_)
          · have z22 : pa.toInt ≠ (37 : Int) := ne_z rfl (show (37 : Int32).toInt = (37 : Int) by decide) h21
            refine lv_iconst (v := 0) hx hb dX13_remember_46 (by decide) ?_
            refine va_put (D := (dC, dI)) (ci := 16) (fs := mF ad (wA v 0 44 0)) (v := .int 0) (ty := .boolean) (C := RX13) (T := TX13) (N := 124) hx hb ht itX13 tyX13 tyX13_ok nmX13 hown hK hP hD hS 0 rfl rfl 45 (by decide) (ht _ tw_55) (fun _ h9 => h9) rfl (by decide +kernel) rfl rfl (Nat.le_of_ble_eq_true rfl) dX13_remember_47 (fun H locs hP hD hS => ?_)
            have hP := cP_ (mw_45 ad N cI cZ cJ (wA v 0 44 0) 0) hP
            have hD := cD_ (mw_45 ad N cI cZ cJ (wA v 0 44 0) 0) hD
            exact W.vret hx hb hr (fun t ht9 hW => ⟨⟨(wA (wA v 0 44 0) 0 45 0), rfl, ⟨(FG.f (FG.f (FG.rf _) 0 (by decide)) 0 (by decide)), (Or.inr (⟨z12, (Or.inl ⟨z14, (Or.inr (⟨z17, (Or.inr (⟨z20, (Or.inl ⟨z22, rfl⟩)⟩))⟩))⟩)⟩))⟩, by rw [ht9]; exact hP, hD⟩, hS.F ht9⟩) hS.2.2 dX13_remember_50
          · have z23 : pa.toInt = (37 : Int) := eq_z rfl (show (37 : Int32).toInt = (37 : Int) by decide) h21
            refine lv_iconst (v := 1) hx hb dX13_remember_42 (by decide) ?_
            refine lv_goto (tgt := 47) hx hb dX13_remember_43 (by decide) ?_
            refine va_put (D := (dC, dI)) (ci := 16) (fs := mF ad (wA v 0 44 0)) (v := .int 1) (ty := .boolean) (C := RX13) (T := TX13) (N := 124) hx hb ht itX13 tyX13 tyX13_ok nmX13 hown hK hP hD hS 0 rfl rfl 45 (by decide) (ht _ tw_55) (fun _ h9 => h9) rfl (by decide +kernel) rfl rfl (Nat.le_of_ble_eq_true rfl) dX13_remember_47 (fun H locs hP hD hS => ?_)
            have hP := cP_ (mw_45 ad N cI cZ cJ (wA v 0 44 0) 1) hP
            have hD := cD_ (mw_45 ad N cI cZ cJ (wA v 0 44 0) 1) hD
            exact W.vret hx hb hr (fun t ht9 hW => ⟨⟨(wA (wA v 0 44 0) 0 45 1), rfl, ⟨(FG.f (FG.f (FG.rf _) 0 (by decide)) 1 (by decide)), (Or.inr (⟨z12, (Or.inl ⟨z14, (Or.inr (⟨z17, (Or.inr (⟨z20, (Or.inr (⟨z23, rfl⟩))⟩))⟩))⟩)⟩))⟩, by rw [ht9]; exact hP, hD⟩, hS.F ht9⟩) hS.2.2 dX13_remember_50
    · have z24 : pa.toInt = (42 : Int) := eq_z rfl (show (42 : Int32).toInt = (42 : Int) by decide) h13
      refine lv_iconst (v := 1) hx hb dX13_remember_14 (by decide) ?_
      refine lv_goto (tgt := 19) hx hb dX13_remember_15 (by decide) ?_
      refine va_put (D := (dC, dI)) (ci := 16) (fs := mF ad v) (v := .int 1) (ty := .boolean) (C := RX13) (T := TX13) (N := 124) hx hb ht itX13 tyX13 tyX13_ok nmX13 hown hK hP hD hS 0 rfl rfl 44 (by decide) (ht _ tw_54) (fun _ h9 => h9) rfl (by decide +kernel) rfl rfl (Nat.le_of_ble_eq_true rfl) dX13_remember_19 (fun H locs hP hD hS => ?_)
      have hP := cP_ (mw_44 ad N cI cZ cJ v 1) hP
      have hD := cD_ (mw_44 ad N cI cZ cJ v 1) hD
      refine lv_aload_n hx hb dX13_remember_22 rfl (lv_at hl 0 rfl) ?_
      refine lv_aload_n hx hb dX13_remember_23 rfl (lv_at hl 0 rfl) ?_
      refine va_get (D := (dC, dI)) (ci := 16) (fs := mF ad (wA v 0 44 1)) (v := .int (v.1 0 45)) (C := RX13) (T := TX13) (N := 124) hx hb ht itX13 hown hK hP 0 rfl rfl 45 (by decide) (ht _ tw_55) (fun _ h9 => h9) rfl dX13_remember_24 ?_
      refine lv_if_ne (tgt := 42) hx hb dX13_remember_27 (by decide) (fun h25 => ?_) (fun h25 => ?_)
      · have z26 : (v.1 0 45).toInt ≠ (0 : Int) := ne_z rfl (show (0 : Int32).toInt = (0 : Int) by decide) h25
        refine lv_iconst (v := 1) hx hb dX13_remember_42 (by decide) ?_
        refine lv_goto (tgt := 47) hx hb dX13_remember_43 (by decide) ?_
        refine va_put (D := (dC, dI)) (ci := 16) (fs := mF ad (wA v 0 44 1)) (v := .int 1) (ty := .boolean) (C := RX13) (T := TX13) (N := 124) hx hb ht itX13 tyX13 tyX13_ok nmX13 hown hK hP hD hS 0 rfl rfl 45 (by decide) (ht _ tw_55) (fun _ h9 => h9) rfl (by decide +kernel) rfl rfl (Nat.le_of_ble_eq_true rfl) dX13_remember_47 (fun H locs hP hD hS => ?_)
        have hP := cP_ (mw_45 ad N cI cZ cJ (wA v 0 44 1) 1) hP
        have hD := cD_ (mw_45 ad N cI cZ cJ (wA v 0 44 1) 1) hD
        exact W.vret hx hb hr (fun t ht9 hW => ⟨⟨(wA (wA v 0 44 1) 0 45 1), rfl, ⟨(FG.f (FG.f (FG.rf _) 1 (by decide)) 1 (by decide)), (Or.inr (⟨z12, (Or.inr (⟨z24, (Or.inl ⟨z26, rfl⟩)⟩))⟩))⟩, by rw [ht9]; exact hP, hD⟩, hS.F ht9⟩) hS.2.2 dX13_remember_50
      · have z27 : (v.1 0 45).toInt = (0 : Int) := eq_z rfl (show (0 : Int32).toInt = (0 : Int) by decide) h25
        refine lv_iload_n hx hb dX13_remember_30 rfl (lv_at hl 1 rfl) ?_
        refine lv_bipush (v := 47) hx hb dX13_remember_31 (by decide) ?_
        refine lv_icmp_eq (tgt := 42) hx hb dX13_remember_33 (by decide) (fun h28 => ?_) (fun h28 => ?_)
        · have z29 : pa.toInt = (47 : Int) := eq_z rfl (show (47 : Int32).toInt = (47 : Int) by decide) h28
          exact False.elim (om_b318fa75df z24 z29)
        · have z30 : pa.toInt ≠ (47 : Int) := ne_z rfl (show (47 : Int32).toInt = (47 : Int) by decide) h28
          refine lv_iload_n hx hb dX13_remember_36 rfl (lv_at hl 1 rfl) ?_
          refine lv_bipush (v := 37) hx hb dX13_remember_37 (by decide) ?_
          refine lv_icmp_ne (tgt := 46) hx hb dX13_remember_39 (by decide) (fun h31 => ?_) (fun h31 => ?_)
          · have z32 : pa.toInt ≠ (37 : Int) := ne_z rfl (show (37 : Int32).toInt = (37 : Int) by decide) h31
            refine lv_iconst (v := 0) hx hb dX13_remember_46 (by decide) ?_
            refine va_put (D := (dC, dI)) (ci := 16) (fs := mF ad (wA v 0 44 1)) (v := .int 0) (ty := .boolean) (C := RX13) (T := TX13) (N := 124) hx hb ht itX13 tyX13 tyX13_ok nmX13 hown hK hP hD hS 0 rfl rfl 45 (by decide) (ht _ tw_55) (fun _ h9 => h9) rfl (by decide +kernel) rfl rfl (Nat.le_of_ble_eq_true rfl) dX13_remember_47 (fun H locs hP hD hS => ?_)
            have hP := cP_ (mw_45 ad N cI cZ cJ (wA v 0 44 1) 0) hP
            have hD := cD_ (mw_45 ad N cI cZ cJ (wA v 0 44 1) 0) hD
            exact W.vret hx hb hr (fun t ht9 hW => ⟨⟨(wA (wA v 0 44 1) 0 45 0), rfl, ⟨(FG.f (FG.f (FG.rf _) 1 (by decide)) 0 (by decide)), (Or.inr (⟨z12, (Or.inr (⟨z24, (Or.inr (⟨z27, z30, z32, rfl⟩))⟩))⟩))⟩, by rw [ht9]; exact hP, hD⟩, hS.F ht9⟩) hS.2.2 dX13_remember_50
          · have z33 : pa.toInt = (37 : Int) := eq_z rfl (show (37 : Int32).toInt = (37 : Int) by decide) h31
            exact False.elim (om_6d6b48dbf7 z24 z33)
set_option maxHeartbeats 4000000 in
set_option maxRecDepth 100000 in
theorem c_m_strength (l : Launch) (dC : Nat → ClassId) (dI : Nat → Nat → Nat) (cI cB cZ cJ cR : ClassId) (tb : Nat → Nat) (sz : Nat) (ad : Nat → Nat) (N : Nat) (v : MS)  (zt : 0 ≤ (v.1 0 47).toInt ∧ (v.1 0 47).toInt ≤ 1500) : Met l yX13_strength (Cond.code yX13_strength cX13_strength 1 (some .int) :: tw_W) ({ frames := 0, cells := 0, slots := 0, locals := 0 }) (pc_ (dC, dI) (tyS cI cB cZ cJ cR) tb (mW ad N cI cZ cJ v) sz [.ref (ad 0)]) (qi_ (dC, dI) (mW ad N cI cZ cJ v) sz (fun (r : Int32) (u : MS) => v = u ∧ (Q_m_strength v r) ∧ 0 ≤ r.toInt ∧ r.toInt ≤ 10) (fun (u : MS) => (mW ad N cI cZ cJ u))) 0 0 (va_A (mW ad N cI cZ cJ v) sz) := by
  refine Met.ofW (cc := cX13_strength) (maxL := 1) (ret := (some .int)) (by decide) rfl ?_
  intro p e s m args below meth c s₁ B hml hv
  obtain ⟨rfl, hsz, hP, hKK, hD0, hFx⟩ := hv
  have hK := hKK.1
  have hx := B.exec
  have hb := B.bytes
  have hr := B.returns
  have ht : ∀ w ∈ tw_W, w.before _ s = true := fun w h => atoms_spec (ws := Cond.code yX13_strength cX13_strength 1 (some .int) :: tw_W) B.pre w (List.mem_cons_of_mem _ h)
  have hown : s.vm.findClass RX13 = some m.cls := findClass_of_methodNamed B.named
  have hlocks := B.notSynchronized
  subst hsz
  unfold qi_
  have hD := hD0.self (sz := s.heap.size)
  generalize hAe : va_A (mW ad N cI cZ cJ v) s.heap.size = A at hD hFx ⊢
  have hA : ∀ q : Nat, s.heap.size ≤ q → A q := fun q h => by rw [← hAe]; exact Or.inr h
  have hS : va_S A s.heap s.heap [] := va_S.rf
  have hl := lv_entry ([.ref (ad 0)]) (n := 1) (Nat.le_of_ble_eq_true rfl)
  rw [lg_entry_eq]
  generalize (lg_sl ([.ref (ad 0)]) ++ List.replicate (1 - (lg_sl ([.ref (ad 0)])).length) Slot.unset).toArray = ls at hl ⊢
  have hl : lv_has ls 1 [(0, .ref (ad 0))] := hl
  refine lv_aload_n hx hb dX13_strength_0 rfl (lv_at hl 0 rfl) ?_
  refine va_get (D := (dC, dI)) (ci := 16) (fs := mF ad v) (v := .ref (ad 6)) (C := RX13) (T := TX13) (N := 124) hx hb ht itX13 hown hK hP 0 rfl rfl 6 (by decide) (ht _ tw_23) (fun _ h9 => h9) rfl dX13_strength_1 ?_
  refine lv_aload_n hx hb dX13_strength_4 rfl (lv_at hl 0 rfl) ?_
  refine va_get (D := (dC, dI)) (ci := 16) (fs := mF ad v) (v := .int (v.1 0 47)) (C := RX13) (T := TX13) (N := 124) hx hb ht itX13 hown hK hP 0 rfl rfl 47 (by decide) (ht _ tw_24) (fun _ h9 => h9) rfl dX13_strength_5 ?_
  refine va_iald (D := (dC, dI)) (f := (v.1 6)) hx hb hK hP 3 0 rfl rfl (in_y (a := (v.1 0 47).toInt) (b := 4002) rfl (om_0ea0e431d3 zt) (om_449eb7e9bb zt) rfl) dX13_strength_8 ?_
  refine lv_iconst (v := 5) hx hb dX13_strength_9 (by decide) ?_
  refine lv_icmp_eq (tgt := 15) hx hb dX13_strength_10 (by decide) (fun h1 => ?_) (fun h1 => ?_)
  · have z2 : ((v.1 6) (v.1 0 47).toNatClampNeg).toInt = (5 : Int) := eq_z rfl (show (5 : Int32).toInt = (5 : Int) by decide) h1
    refine lv_aload_n hx hb dX13_strength_15 rfl (lv_at hl 0 rfl) ?_
    refine va_get (D := (dC, dI)) (ci := 16) (fs := mF ad v) (v := .ref (ad 9)) (C := RX13) (T := TX13) (N := 124) hx hb ht itX13 hown hK hP 0 rfl rfl 9 (by decide) (ht _ tw_27) (fun _ h9 => h9) rfl dX13_strength_16 ?_
    refine lv_aload_n hx hb dX13_strength_19 rfl (lv_at hl 0 rfl) ?_
    refine va_get (D := (dC, dI)) (ci := 16) (fs := mF ad v) (v := .int (v.1 0 47)) (C := RX13) (T := TX13) (N := 124) hx hb ht itX13 hown hK hP 0 rfl rfl 47 (by decide) (ht _ tw_24) (fun _ h9 => h9) rfl dX13_strength_20 ?_
    refine va_lald (D := (dC, dI)) (f := v.2) hx hb hK hP 6 3 rfl rfl (in_y (a := (v.1 0 47).toInt) (b := 4002) rfl (om_0ea0e431d3 zt) (om_449eb7e9bb zt) rfl) dX13_strength_23 ?_
    refine lv_l2i hx hb dX13_strength_24 rfl ?_
    by_cases h3 : ((v.2 (v.1 0 47).toNatClampNeg).toInt32) = 37
    · refine lv_lookup (off := 177) (tgt := 202) hx hb dX13_strength_25 (by decide) (by rw [h3]; decide) (by decide) ?_
      refine lv_bipush (v := 10) hx hb dX13_strength_202 (by decide) ?_
      exact W.iret (v := 10) hx hb hr (fun t ht9 hW => ⟨⟨10, v, rfl, ⟨rfl, ⟨zt, (Or.inl ⟨z2, (Or.inl ⟨h3, rfl⟩)⟩)⟩, (show 0 ≤ (10 : Int32).toInt ∧ (10 : Int32).toInt ≤ 10 by decide)⟩, by rw [ht9]; exact hP, hD⟩, hS.F ht9⟩) hS.2.2 dX13_strength_204
    ·
      by_cases h4 : ((v.2 (v.1 0 47).toNatClampNeg).toInt32) = 38
      · refine lv_lookup (off := 163) (tgt := 188) hx hb dX13_strength_25 (by decide) (by rw [h4]; decide) (by decide) ?_
        refine lv_iconst (v := 5) hx hb dX13_strength_188 (by decide) ?_
        exact W.iret (v := 5) hx hb hr (fun t ht9 hW => ⟨⟨5, v, rfl, ⟨rfl, ⟨zt, (Or.inl ⟨z2, (Or.inr (⟨h3, (Or.inl ⟨h4, rfl⟩)⟩))⟩)⟩, (show 0 ≤ (5 : Int32).toInt ∧ (5 : Int32).toInt ≤ 10 by decide)⟩, by rw [ht9]; exact hP, hD⟩, hS.F ht9⟩) hS.2.2 dX13_strength_189
      ·
        by_cases h5 : ((v.2 (v.1 0 47).toNatClampNeg).toInt32) = 42
        · refine lv_lookup (off := 177) (tgt := 202) hx hb dX13_strength_25 (by decide) (by rw [h5]; decide) (by decide) ?_
          refine lv_bipush (v := 10) hx hb dX13_strength_202 (by decide) ?_
          exact W.iret (v := 10) hx hb hr (fun t ht9 hW => ⟨⟨10, v, rfl, ⟨rfl, ⟨zt, (Or.inl ⟨z2, (Or.inr (⟨h3, (Or.inr (⟨h4, (Or.inl ⟨h5, rfl⟩)⟩))⟩))⟩)⟩, (show 0 ≤ (10 : Int32).toInt ∧ (10 : Int32).toInt ≤ 10 by decide)⟩, by rw [ht9]; exact hP, hD⟩, hS.F ht9⟩) hS.2.2 dX13_strength_204
        ·
          by_cases h6 : ((v.2 (v.1 0 47).toNatClampNeg).toInt32) = 43
          · refine lv_lookup (off := 174) (tgt := 199) hx hb dX13_strength_25 (by decide) (by rw [h6]; decide) (by decide) ?_
            refine lv_bipush (v := 9) hx hb dX13_strength_199 (by decide) ?_
            exact W.iret (v := 9) hx hb hr (fun t ht9 hW => ⟨⟨9, v, rfl, ⟨rfl, ⟨zt, (Or.inl ⟨z2, (Or.inr (⟨h3, (Or.inr (⟨h4, (Or.inr (⟨h5, (Or.inl ⟨h6, rfl⟩)⟩))⟩))⟩))⟩)⟩, (show 0 ≤ (9 : Int32).toInt ∧ (9 : Int32).toInt ≤ 10 by decide)⟩, by rw [ht9]; exact hP, hD⟩, hS.F ht9⟩) hS.2.2 dX13_strength_201
          ·
            by_cases h7 : ((v.2 (v.1 0 47).toNatClampNeg).toInt32) = 45
            · refine lv_lookup (off := 174) (tgt := 199) hx hb dX13_strength_25 (by decide) (by rw [h7]; decide) (by decide) ?_
              refine lv_bipush (v := 9) hx hb dX13_strength_199 (by decide) ?_
              exact W.iret (v := 9) hx hb hr (fun t ht9 hW => ⟨⟨9, v, rfl, ⟨rfl, ⟨zt, (Or.inl ⟨z2, (Or.inr (⟨h3, (Or.inr (⟨h4, (Or.inr (⟨h5, (Or.inr (⟨h6, (Or.inl ⟨h7, rfl⟩)⟩))⟩))⟩))⟩))⟩)⟩, (show 0 ≤ (9 : Int32).toInt ∧ (9 : Int32).toInt ≤ 10 by decide)⟩, by rw [ht9]; exact hP, hD⟩, hS.F ht9⟩) hS.2.2 dX13_strength_201
            ·
              by_cases h8 : ((v.2 (v.1 0 47).toNatClampNeg).toInt32) = 47
              · refine lv_lookup (off := 177) (tgt := 202) hx hb dX13_strength_25 (by decide) (by rw [h8]; decide) (by decide) ?_
                refine lv_bipush (v := 10) hx hb dX13_strength_202 (by decide) ?_
                exact W.iret (v := 10) hx hb hr (fun t ht9 hW => ⟨⟨10, v, rfl, ⟨rfl, ⟨zt, (Or.inl ⟨z2, (Or.inr (⟨h3, (Or.inr (⟨h4, (Or.inr (⟨h5, (Or.inr (⟨h6, (Or.inr (⟨h7, (Or.inl ⟨h8, rfl⟩)⟩))⟩))⟩))⟩))⟩))⟩)⟩, (show 0 ≤ (10 : Int32).toInt ∧ (10 : Int32).toInt ≤ 10 by decide)⟩, by rw [ht9]; exact hP, hD⟩, hS.F ht9⟩) hS.2.2 dX13_strength_204
              ·
                by_cases h9 : ((v.2 (v.1 0 47).toNatClampNeg).toInt32) = 60
                · refine lv_lookup (off := 168) (tgt := 193) hx hb dX13_strength_25 (by decide) (by rw [h9]; decide) (by decide) ?_
                  refine lv_bipush (v := 7) hx hb dX13_strength_193 (by decide) ?_
                  exact W.iret (v := 7) hx hb hr (fun t ht9 hW => ⟨⟨7, v, rfl, ⟨rfl, ⟨zt, (Or.inl ⟨z2, (Or.inr (⟨h3, (Or.inr (⟨h4, (Or.inr (⟨h5, (Or.inr (⟨h6, (Or.inr (⟨h7, (Or.inr (⟨h8, (Or.inl ⟨h9, rfl⟩)⟩))⟩))⟩))⟩))⟩))⟩))⟩)⟩, (show 0 ≤ (7 : Int32).toInt ∧ (7 : Int32).toInt ≤ 10 by decide)⟩, by rw [ht9]; exact hP, hD⟩, hS.F ht9⟩) hS.2.2 dX13_strength_195
                ·
                  by_cases h10 : ((v.2 (v.1 0 47).toNatClampNeg).toInt32) = 62
                  · refine lv_lookup (off := 168) (tgt := 193) hx hb dX13_strength_25 (by decide) (by rw [h10]; decide) (by decide) ?_
                    refine lv_bipush (v := 7) hx hb dX13_strength_193 (by decide) ?_
                    exact W.iret (v := 7) hx hb hr (fun t ht9 hW => ⟨⟨7, v, rfl, ⟨rfl, ⟨zt, (Or.inl ⟨z2, (Or.inr (⟨h3, (Or.inr (⟨h4, (Or.inr (⟨h5, (Or.inr (⟨h6, (Or.inr (⟨h7, (Or.inr (⟨h8, (Or.inr (⟨h9, (Or.inl ⟨h10, rfl⟩)⟩))⟩))⟩))⟩))⟩))⟩))⟩))⟩)⟩, (show 0 ≤ (7 : Int32).toInt ∧ (7 : Int32).toInt ≤ 10 by decide)⟩, by rw [ht9]; exact hP, hD⟩, hS.F ht9⟩) hS.2.2 dX13_strength_195
                  ·
                    by_cases h11 : ((v.2 (v.1 0 47).toNatClampNeg).toInt32) = 94
                    · refine lv_lookup (off := 161) (tgt := 186) hx hb dX13_strength_25 (by decide) (by rw [h11]; decide) (by decide) ?_
                      refine lv_iconst (v := 4) hx hb dX13_strength_186 (by decide) ?_
                      exact W.iret (v := 4) hx hb hr (fun t ht9 hW => ⟨⟨4, v, rfl, ⟨rfl, ⟨zt, (Or.inl ⟨z2, (Or.inr (⟨h3, (Or.inr (⟨h4, (Or.inr (⟨h5, (Or.inr (⟨h6, (Or.inr (⟨h7, (Or.inr (⟨h8, (Or.inr (⟨h9, (Or.inr (⟨h10, (Or.inl ⟨h11, rfl⟩)⟩))⟩))⟩))⟩))⟩))⟩))⟩))⟩))⟩)⟩, (show 0 ≤ (4 : Int32).toInt ∧ (4 : Int32).toInt ≤ 10 by decide)⟩, by rw [ht9]; exact hP, hD⟩, hS.F ht9⟩) hS.2.2 dX13_strength_187
                    ·
                      by_cases h12 : ((v.2 (v.1 0 47).toNatClampNeg).toInt32) = 124
                      · refine lv_lookup (off := 159) (tgt := 184) hx hb dX13_strength_25 (by decide) (by rw [h12]; decide) (by decide) ?_
                        refine lv_iconst (v := 3) hx hb dX13_strength_184 (by decide) ?_
                        exact W.iret (v := 3) hx hb hr (fun t ht9 hW => ⟨⟨3, v, rfl, ⟨rfl, ⟨zt, (Or.inl ⟨z2, (Or.inr (⟨h3, (Or.inr (⟨h4, (Or.inr (⟨h5, (Or.inr (⟨h6, (Or.inr (⟨h7, (Or.inr (⟨h8, (Or.inr (⟨h9, (Or.inr (⟨h10, (Or.inr (⟨h11, (Or.inl ⟨h12, rfl⟩)⟩))⟩))⟩))⟩))⟩))⟩))⟩))⟩))⟩))⟩)⟩, (show 0 ≤ (3 : Int32).toInt ∧ (3 : Int32).toInt ≤ 10 by decide)⟩, by rw [ht9]; exact hP, hD⟩, hS.F ht9⟩) hS.2.2 dX13_strength_185
                      ·
                        by_cases h13 : ((v.2 (v.1 0 47).toNatClampNeg).toInt32) = 9766
                        · refine lv_lookup (off := 157) (tgt := 182) hx hb dX13_strength_25 (by decide) (by rw [h13]; decide) (by decide) ?_
                          refine lv_iconst (v := 2) hx hb dX13_strength_182 (by decide) ?_
                          exact W.iret (v := 2) hx hb hr (fun t ht9 hW => ⟨⟨2, v, rfl, ⟨rfl, ⟨zt, (Or.inl ⟨z2, (Or.inr (⟨h3, (Or.inr (⟨h4, (Or.inr (⟨h5, (Or.inr (⟨h6, (Or.inr (⟨h7, (Or.inr (⟨h8, (Or.inr (⟨h9, (Or.inr (⟨h10, (Or.inr (⟨h11, (Or.inr (⟨h12, (Or.inl ⟨h13, rfl⟩)⟩))⟩))⟩))⟩))⟩))⟩))⟩))⟩))⟩))⟩))⟩)⟩, (show 0 ≤ (2 : Int32).toInt ∧ (2 : Int32).toInt ≤ 10 by decide)⟩, by rw [ht9]; exact hP, hD⟩, hS.F ht9⟩) hS.2.2 dX13_strength_183
                        ·
                          by_cases h14 : ((v.2 (v.1 0 47).toNatClampNeg).toInt32) = 15420
                          · refine lv_lookup (off := 171) (tgt := 196) hx hb dX13_strength_25 (by decide) (by rw [h14]; decide) (by decide) ?_
                            refine lv_bipush (v := 8) hx hb dX13_strength_196 (by decide) ?_
                            exact W.iret (v := 8) hx hb hr (fun t ht9 hW => ⟨⟨8, v, rfl, ⟨rfl, ⟨zt, (Or.inl ⟨z2, (Or.inr (⟨h3, (Or.inr (⟨h4, (Or.inr (⟨h5, (Or.inr (⟨h6, (Or.inr (⟨h7, (Or.inr (⟨h8, (Or.inr (⟨h9, (Or.inr (⟨h10, (Or.inr (⟨h11, (Or.inr (⟨h12, (Or.inr (⟨h13, (Or.inl ⟨h14, rfl⟩)⟩))⟩))⟩))⟩))⟩))⟩))⟩))⟩))⟩))⟩))⟩))⟩)⟩, (show 0 ≤ (8 : Int32).toInt ∧ (8 : Int32).toInt ≤ 10 by decide)⟩, by rw [ht9]; exact hP, hD⟩, hS.F ht9⟩) hS.2.2 dX13_strength_198
                          ·
                            by_cases h15 : ((v.2 (v.1 0 47).toNatClampNeg).toInt32) = 15649
                            · refine lv_lookup (off := 165) (tgt := 190) hx hb dX13_strength_25 (by decide) (by rw [h15]; decide) (by decide) ?_
                              refine lv_bipush (v := 6) hx hb dX13_strength_190 (by decide) ?_
                              exact W.iret (v := 6) hx hb hr (fun t ht9 hW => ⟨⟨6, v, rfl, ⟨rfl, ⟨zt, (Or.inl ⟨z2, (Or.inr (⟨h3, (Or.inr (⟨h4, (Or.inr (⟨h5, (Or.inr (⟨h6, (Or.inr (⟨h7, (Or.inr (⟨h8, (Or.inr (⟨h9, (Or.inr (⟨h10, (Or.inr (⟨h11, (Or.inr (⟨h12, (Or.inr (⟨h13, (Or.inr (⟨h14, (Or.inl ⟨h15, rfl⟩)⟩))⟩))⟩))⟩))⟩))⟩))⟩))⟩))⟩))⟩))⟩))⟩))⟩)⟩, (show 0 ≤ (6 : Int32).toInt ∧ (6 : Int32).toInt ≤ 10 by decide)⟩, by rw [ht9]; exact hP, hD⟩, hS.F ht9⟩) hS.2.2 dX13_strength_192
                            ·
                              by_cases h16 : ((v.2 (v.1 0 47).toNatClampNeg).toInt32) = 15676
                              · refine lv_lookup (off := 168) (tgt := 193) hx hb dX13_strength_25 (by decide) (by rw [h16]; decide) (by decide) ?_
                                refine lv_bipush (v := 7) hx hb dX13_strength_193 (by decide) ?_
                                exact W.iret (v := 7) hx hb hr (fun t ht9 hW => ⟨⟨7, v, rfl, ⟨rfl, ⟨zt, (Or.inl ⟨z2, (Or.inr (⟨h3, (Or.inr (⟨h4, (Or.inr (⟨h5, (Or.inr (⟨h6, (Or.inr (⟨h7, (Or.inr (⟨h8, (Or.inr (⟨h9, (Or.inr (⟨h10, (Or.inr (⟨h11, (Or.inr (⟨h12, (Or.inr (⟨h13, (Or.inr (⟨h14, (Or.inr (⟨h15, (Or.inl ⟨h16, rfl⟩)⟩))⟩))⟩))⟩))⟩))⟩))⟩))⟩))⟩))⟩))⟩))⟩))⟩))⟩)⟩, (show 0 ≤ (7 : Int32).toInt ∧ (7 : Int32).toInt ≤ 10 by decide)⟩, by rw [ht9]; exact hP, hD⟩, hS.F ht9⟩) hS.2.2 dX13_strength_195
                              ·
                                by_cases h17 : ((v.2 (v.1 0 47).toNatClampNeg).toInt32) = 15677
                                · refine lv_lookup (off := 165) (tgt := 190) hx hb dX13_strength_25 (by decide) (by rw [h17]; decide) (by decide) ?_
                                  refine lv_bipush (v := 6) hx hb dX13_strength_190 (by decide) ?_
                                  exact W.iret (v := 6) hx hb hr (fun t ht9 hW => ⟨⟨6, v, rfl, ⟨rfl, ⟨zt, (Or.inl ⟨z2, (Or.inr (⟨h3, (Or.inr (⟨h4, (Or.inr (⟨h5, (Or.inr (⟨h6, (Or.inr (⟨h7, (Or.inr (⟨h8, (Or.inr (⟨h9, (Or.inr (⟨h10, (Or.inr (⟨h11, (Or.inr (⟨h12, (Or.inr (⟨h13, (Or.inr (⟨h14, (Or.inr (⟨h15, (Or.inr (⟨h16, (Or.inl ⟨h17, rfl⟩)⟩))⟩))⟩))⟩))⟩))⟩))⟩))⟩))⟩))⟩))⟩))⟩))⟩))⟩))⟩)⟩, (show 0 ≤ (6 : Int32).toInt ∧ (6 : Int32).toInt ≤ 10 by decide)⟩, by rw [ht9]; exact hP, hD⟩, hS.F ht9⟩) hS.2.2 dX13_strength_192
                                ·
                                  by_cases h18 : ((v.2 (v.1 0 47).toNatClampNeg).toInt32) = 15678
                                  · refine lv_lookup (off := 168) (tgt := 193) hx hb dX13_strength_25 (by decide) (by rw [h18]; decide) (by decide) ?_
                                    refine lv_bipush (v := 7) hx hb dX13_strength_193 (by decide) ?_
                                    exact W.iret (v := 7) hx hb hr (fun t ht9 hW => ⟨⟨7, v, rfl, ⟨rfl, ⟨zt, (Or.inl ⟨z2, (Or.inr (⟨h3, (Or.inr (⟨h4, (Or.inr (⟨h5, (Or.inr (⟨h6, (Or.inr (⟨h7, (Or.inr (⟨h8, (Or.inr (⟨h9, (Or.inr (⟨h10, (Or.inr (⟨h11, (Or.inr (⟨h12, (Or.inr (⟨h13, (Or.inr (⟨h14, (Or.inr (⟨h15, (Or.inr (⟨h16, (Or.inr (⟨h17, (Or.inl ⟨h18, rfl⟩)⟩))⟩))⟩))⟩))⟩))⟩))⟩))⟩))⟩))⟩))⟩))⟩))⟩))⟩))⟩))⟩)⟩, (show 0 ≤ (7 : Int32).toInt ∧ (7 : Int32).toInt ≤ 10 by decide)⟩, by rw [ht9]; exact hP, hD⟩, hS.F ht9⟩) hS.2.2 dX13_strength_195
                                  ·
                                    by_cases h19 : ((v.2 (v.1 0 47).toNatClampNeg).toInt32) = 15934
                                    · refine lv_lookup (off := 171) (tgt := 196) hx hb dX13_strength_25 (by decide) (by rw [h19]; decide) (by decide) ?_
                                      refine lv_bipush (v := 8) hx hb dX13_strength_196 (by decide) ?_
                                      exact W.iret (v := 8) hx hb hr (fun t ht9 hW => ⟨⟨8, v, rfl, ⟨rfl, ⟨zt, (Or.inl ⟨z2, (Or.inr (⟨h3, (Or.inr (⟨h4, (Or.inr (⟨h5, (Or.inr (⟨h6, (Or.inr (⟨h7, (Or.inr (⟨h8, (Or.inr (⟨h9, (Or.inr (⟨h10, (Or.inr (⟨h11, (Or.inr (⟨h12, (Or.inr (⟨h13, (Or.inr (⟨h14, (Or.inr (⟨h15, (Or.inr (⟨h16, (Or.inr (⟨h17, (Or.inr (⟨h18, (Or.inl ⟨h19, rfl⟩)⟩))⟩))⟩))⟩))⟩))⟩))⟩))⟩))⟩))⟩))⟩))⟩))⟩))⟩))⟩))⟩))⟩)⟩, (show 0 ≤ (8 : Int32).toInt ∧ (8 : Int32).toInt ≤ 10 by decide)⟩, by rw [ht9]; exact hP, hD⟩, hS.F ht9⟩) hS.2.2 dX13_strength_198
                                    ·
                                      by_cases h20 : ((v.2 (v.1 0 47).toNatClampNeg).toInt32) = 31868
                                      · refine lv_lookup (off := 155) (tgt := 180) hx hb dX13_strength_25 (by decide) (by rw [h20]; decide) (by decide) ?_
                                        refine lv_iconst (v := 1) hx hb dX13_strength_180 (by decide) ?_
                                        exact W.iret (v := 1) hx hb hr (fun t ht9 hW => ⟨⟨1, v, rfl, ⟨rfl, ⟨zt, (Or.inl ⟨z2, (Or.inr (⟨h3, (Or.inr (⟨h4, (Or.inr (⟨h5, (Or.inr (⟨h6, (Or.inr (⟨h7, (Or.inr (⟨h8, (Or.inr (⟨h9, (Or.inr (⟨h10, (Or.inr (⟨h11, (Or.inr (⟨h12, (Or.inr (⟨h13, (Or.inr (⟨h14, (Or.inr (⟨h15, (Or.inr (⟨h16, (Or.inr (⟨h17, (Or.inr (⟨h18, (Or.inr (⟨h19, (Or.inl ⟨h20, rfl⟩)⟩))⟩))⟩))⟩))⟩))⟩))⟩))⟩))⟩))⟩))⟩))⟩))⟩))⟩))⟩))⟩))⟩))⟩)⟩, (show 0 ≤ (1 : Int32).toInt ∧ (1 : Int32).toInt ≤ 10 by decide)⟩, by rw [ht9]; exact hP, hD⟩, hS.F ht9⟩) hS.2.2 dX13_strength_181
                                      ·
                                        refine lv_lookup (off := 180) (tgt := 205) hx hb dX13_strength_25 (by decide) (by show Op.lookupswitch.offset [(37, 177), (38, 163), (42, 177), (43, 174), (45, 174), (47, 177), (60, 168), (62, 168), (94, 161), (124, 159), (9766, 157), (15420, 171), (15649, 165), (15676, 168), (15677, 165), (15678, 168), (15934, 171), (31868, 155)] 180 _ = 180; rw [lv_osw h3 (by decide), lv_osw h4 (by decide), lv_osw h5 (by decide), lv_osw h6 (by decide), lv_osw h7 (by decide), lv_osw h8 (by decide), lv_osw h9 (by decide), lv_osw h10 (by decide), lv_osw h11 (by decide), lv_osw h12 (by decide), lv_osw h13 (by decide), lv_osw h14 (by decide), lv_osw h15 (by decide), lv_osw h16 (by decide), lv_osw h17 (by decide), lv_osw h18 (by decide), lv_osw h19 (by decide), lv_osw h20 (by decide)]; rfl) (by decide) ?_
                                        refine lv_iconst (v := 0) hx hb dX13_strength_205 (by decide) ?_
                                        exact W.iret (v := 0) hx hb hr (fun t ht9 hW => ⟨⟨0, v, rfl, ⟨rfl, ⟨zt, (Or.inl ⟨z2, (Or.inr (⟨h3, (Or.inr (⟨h4, (Or.inr (⟨h5, (Or.inr (⟨h6, (Or.inr (⟨h7, (Or.inr (⟨h8, (Or.inr (⟨h9, (Or.inr (⟨h10, (Or.inr (⟨h11, (Or.inr (⟨h12, (Or.inr (⟨h13, (Or.inr (⟨h14, (Or.inr (⟨h15, (Or.inr (⟨h16, (Or.inr (⟨h17, (Or.inr (⟨h18, (Or.inr (⟨h19, (Or.inr (⟨h20, rfl⟩))⟩))⟩))⟩))⟩))⟩))⟩))⟩))⟩))⟩))⟩))⟩))⟩))⟩))⟩))⟩))⟩))⟩))⟩)⟩, (show 0 ≤ (0 : Int32).toInt ∧ (0 : Int32).toInt ≤ 10 by decide)⟩, by rw [ht9]; exact hP, hD⟩, hS.F ht9⟩) hS.2.2 dX13_strength_206
  · have z21 : ((v.1 6) (v.1 0 47).toNatClampNeg).toInt ≠ (5 : Int) := ne_z rfl (show (5 : Int32).toInt = (5 : Int) by decide) h1
    refine lv_iconst (v := 0) hx hb dX13_strength_13 (by decide) ?_
    exact W.iret (v := 0) hx hb hr (fun t ht9 hW => ⟨⟨0, v, rfl, ⟨rfl, ⟨zt, (Or.inr (⟨z21, rfl⟩))⟩, (show 0 ≤ (0 : Int32).toInt ∧ (0 : Int32).toInt ≤ 10 by decide)⟩, by rw [ht9]; exact hP, hD⟩, hS.F ht9⟩) hS.2.2 dX13_strength_14
set_option maxHeartbeats 4000000 in
set_option maxRecDepth 100000 in
theorem c_m_setting (l : Launch) (dC : Nat → ClassId) (dI : Nat → Nat → Nat) (cI cB cZ cJ cR : ClassId) (tb : Nat → Nat) (sz : Nat) (ad : Nat → Nat) (N : Nat) (v : MS)  (zt : 0 ≤ (v.1 0 47).toInt ∧ (v.1 0 47).toInt ≤ 1500) : Met l yX13_setting (Cond.code yX13_setting cX13_setting 5 (some .int) :: tw_W) ({ frames := 0, cells := 0, slots := 0, locals := 0 }) (pc_ (dC, dI) (tyS cI cB cZ cJ cR) tb (mW ad N cI cZ cJ v) sz [.ref (ad 0)]) (qi_ (dC, dI) (mW ad N cI cZ cJ v) sz (fun (r : Int32) (u : MS) => v = u ∧ (Q_m_setting v r)) (fun (u : MS) => (mW ad N cI cZ cJ u))) 0 0 (va_A (mW ad N cI cZ cJ v) sz) := by
  refine Met.ofW (cc := cX13_setting) (maxL := 5) (ret := (some .int)) (by decide) rfl ?_
  intro p e s m args below meth c s₁ B hml hv
  obtain ⟨rfl, hsz, hP, hKK, hD0, hFx⟩ := hv
  have hK := hKK.1
  have hx := B.exec
  have hb := B.bytes
  have hr := B.returns
  have ht : ∀ w ∈ tw_W, w.before _ s = true := fun w h => atoms_spec (ws := Cond.code yX13_setting cX13_setting 5 (some .int) :: tw_W) B.pre w (List.mem_cons_of_mem _ h)
  have hown : s.vm.findClass RX13 = some m.cls := findClass_of_methodNamed B.named
  have hlocks := B.notSynchronized
  subst hsz
  unfold qi_
  have hD := hD0.self (sz := s.heap.size)
  generalize hAe : va_A (mW ad N cI cZ cJ v) s.heap.size = A at hD hFx ⊢
  have hA : ∀ q : Nat, s.heap.size ≤ q → A q := fun q h => by rw [← hAe]; exact Or.inr h
  have hS : va_S A s.heap s.heap [] := va_S.rf
  have hl := lv_entry ([.ref (ad 0)]) (n := 5) (Nat.le_of_ble_eq_true rfl)
  rw [lg_entry_eq]
  generalize (lg_sl ([.ref (ad 0)]) ++ List.replicate (5 - (lg_sl ([.ref (ad 0)])).length) Slot.unset).toArray = ls at hl ⊢
  have hl : lv_has ls 5 [(0, .ref (ad 0))] := hl
  refine lv_aload_n hx hb dX13_setting_0 rfl (lv_at hl 0 rfl) ?_
  refine va_get (D := (dC, dI)) (ci := 16) (fs := mF ad v) (v := .ref (ad 6)) (C := RX13) (T := TX13) (N := 124) hx hb ht itX13 hown hK hP 0 rfl rfl 6 (by decide) (ht _ tw_23) (fun _ h9 => h9) rfl dX13_setting_1 ?_
  refine lv_aload_n hx hb dX13_setting_4 rfl (lv_at hl 0 rfl) ?_
  refine va_get (D := (dC, dI)) (ci := 16) (fs := mF ad v) (v := .int (v.1 0 47)) (C := RX13) (T := TX13) (N := 124) hx hb ht itX13 hown hK hP 0 rfl rfl 47 (by decide) (ht _ tw_24) (fun _ h9 => h9) rfl dX13_setting_5 ?_
  refine va_iald (D := (dC, dI)) (f := (v.1 6)) hx hb hK hP 3 0 rfl rfl (in_y (a := (v.1 0 47).toInt) (b := 4002) rfl (om_0ea0e431d3 zt) (om_449eb7e9bb zt) rfl) dX13_setting_8 ?_
  refine lv_iconst (v := 5) hx hb dX13_setting_9 (by decide) ?_
  refine lv_icmp_eq (tgt := 15) hx hb dX13_setting_10 (by decide) (fun h1 => ?_) (fun h1 => ?_)
  · have z2 : ((v.1 6) (v.1 0 47).toNatClampNeg).toInt = (5 : Int) := eq_z rfl (show (5 : Int32).toInt = (5 : Int) by decide) h1
    refine lv_aload_n hx hb dX13_setting_15 rfl (lv_at hl 0 rfl) ?_
    refine va_get (D := (dC, dI)) (ci := 16) (fs := mF ad v) (v := .ref (ad 9)) (C := RX13) (T := TX13) (N := 124) hx hb ht itX13 hown hK hP 0 rfl rfl 9 (by decide) (ht _ tw_27) (fun _ h9 => h9) rfl dX13_setting_16 ?_
    refine lv_aload_n hx hb dX13_setting_19 rfl (lv_at hl 0 rfl) ?_
    refine va_get (D := (dC, dI)) (ci := 16) (fs := mF ad v) (v := .int (v.1 0 47)) (C := RX13) (T := TX13) (N := 124) hx hb ht itX13 hown hK hP 0 rfl rfl 47 (by decide) (ht _ tw_24) (fun _ h9 => h9) rfl dX13_setting_20 ?_
    refine va_lald (D := (dC, dI)) (f := v.2) hx hb hK hP 6 3 rfl rfl (in_y (a := (v.1 0 47).toInt) (b := 4002) rfl (om_0ea0e431d3 zt) (om_449eb7e9bb zt) rfl) dX13_setting_23 ?_
    refine lv_l2i hx hb dX13_setting_24 rfl ?_
    refine lv_istore_n (lv' := [(1, .int ((v.2 (v.1 0 47).toNatClampNeg).toInt32)), (0, .ref (ad 0))]) hx hb dX13_setting_25 rfl hl (by decide) rfl (fun ls hl => ?_)
    refine lv_iload_n hx hb dX13_setting_26 rfl (lv_at hl 0 rfl) ?_
    refine lv_bipush (v := 61) hx hb dX13_setting_27 (by decide) ?_
    refine lv_icmp_ne (tgt := 34) hx hb dX13_setting_29 (by decide) (fun h3 => ?_) (fun h3 => ?_)
    · have z4 : ((v.2 (v.1 0 47).toNatClampNeg).toInt32).toInt ≠ (61 : Int) := ne_z rfl (show (61 : Int32).toInt = (61 : Int) by decide) h3
      refine lv_iload_n hx hb dX13_setting_34 rfl (lv_at hl 0 rfl) ?_
      refine lv_ldc (v := 4013116) hx hb hown (ht _ tw_56) dX13_setting_35 ?_
      refine lv_icmp_eq (tgt := 46) hx hb dX13_setting_37 (by decide) (fun h5 => ?_) (fun h5 => ?_)
      · have z6 : ((v.2 (v.1 0 47).toNatClampNeg).toInt32).toInt = (4013116 : Int) := eq_z rfl (show (4013116 : Int32).toInt = (4013116 : Int) by decide) h5
        refine lv_iload_n hx hb dX13_setting_46 rfl (lv_at hl 0 rfl) ?_
        refine lv_ldc (v := 65535) hx hb hown (ht _ tw_57) dX13_setting_47 ?_
        refine lv_iand hx hb dX13_setting_49 ?_
        exact W.iret (v := (((v.2 (v.1 0 47).toNatClampNeg).toInt32) &&& (65535 : Int32))) hx hb hr (fun t ht9 hW => ⟨⟨(((v.2 (v.1 0 47).toNatClampNeg).toInt32) &&& (65535 : Int32)), v, rfl, ⟨rfl, ⟨zt, (Or.inl ⟨z2, (Or.inl ⟨z4, (Or.inl ⟨z6, rfl⟩)⟩)⟩)⟩⟩, by rw [ht9]; exact hP, hD⟩, hS.F ht9⟩) hS.2.2 dX13_setting_50
      · have z7 : ((v.2 (v.1 0 47).toNatClampNeg).toInt32).toInt ≠ (4013116 : Int) := ne_z rfl (show (4013116 : Int32).toInt = (4013116 : Int) by decide) h5
        refine lv_iload_n hx hb dX13_setting_40 rfl (lv_at hl 0 rfl) ?_
        refine lv_ldc (v := 4013630) hx hb hown (ht _ tw_58) dX13_setting_41 ?_
        refine lv_icmp_ne (tgt := 51) hx hb dX13_setting_43 (by decide) (fun h8 => ?_) (fun h8 => ?_)
        · have z9 : ((v.2 (v.1 0 47).toNatClampNeg).toInt32).toInt ≠ (4013630 : Int) := ne_z rfl (show (4013630 : Int32).toInt = (4013630 : Int) by decide) h8
          refine lv_iload_n hx hb dX13_setting_51 rfl (lv_at hl 0 rfl) ?_
          refine lv_sipush (v := 255) hx hb dX13_setting_52 (by decide) ?_
          refine lv_iand hx hb dX13_setting_55 ?_
          refine lv_istore_n (lv' := [(2, .int (((v.2 (v.1 0 47).toNatClampNeg).toInt32) &&& (255 : Int32))), (1, .int ((v.2 (v.1 0 47).toNatClampNeg).toInt32)), (0, .ref (ad 0))]) hx hb dX13_setting_56 rfl hl (by decide) rfl (fun ls hl => ?_)
          refine lv_iload_n hx hb dX13_setting_57 rfl (lv_at hl 1 rfl) ?_
          refine lv_bipush (v := 8) hx hb dX13_setting_58 (by decide) ?_
          refine lv_ishr hx hb dX13_setting_60 ?_
          refine lv_bipush (v := 61) hx hb dX13_setting_61 (by decide) ?_
          refine lv_icmp_ne (tgt := 70) hx hb dX13_setting_63 (by decide) (fun h10 => ?_) (fun h10 => ?_)
          · have z11 : (((v.2 (v.1 0 47).toNatClampNeg).toInt32) >>> ((8 : Int32) &&& 31)).toInt ≠ (61 : Int) := ne_z rfl (show (61 : Int32).toInt = (61 : Int) by decide) h10
            refine lv_iconst (v := 0) hx hb dX13_setting_70 (by decide) ?_
            refine lv_istore_n (lv' := [(3, .int 0), (2, .int (((v.2 (v.1 0 47).toNatClampNeg).toInt32) &&& (255 : Int32))), (1, .int ((v.2 (v.1 0 47).toNatClampNeg).toInt32)), (0, .ref (ad 0))]) hx hb dX13_setting_71 rfl hl (by decide) rfl (fun ls hl => ?_)
            refine lv_iload_n hx hb dX13_setting_72 rfl (lv_at hl 0 rfl) ?_
            refine lv_if_eq (tgt := 128) hx hb dX13_setting_73 (by decide) (fun _ => ?_) (fun k12 => absurd k12 (by decide))
            refine lv_iconst (v := 0) hx hb dX13_setting_128 (by decide) ?_
            refine lv_istore (lv' := [(4, .int 0), (3, .int 0), (2, .int (((v.2 (v.1 0 47).toNatClampNeg).toInt32) &&& (255 : Int32))), (1, .int ((v.2 (v.1 0 47).toNatClampNeg).toInt32)), (0, .ref (ad 0))]) hx hb dX13_setting_129 hl (by decide) rfl (fun ls hl => ?_)
            refine lv_iload hx hb dX13_setting_131 (lv_at hl 0 rfl) ?_
            refine lv_if_eq (tgt := 140) hx hb dX13_setting_133 (by decide) (fun _ => ?_) (fun k13 => absurd k13 (by decide))
            refine lv_iconst (v := -1) hx hb dX13_setting_140 (by decide) ?_
            exact W.iret (v := (-1)) hx hb hr (fun t ht9 hW => ⟨⟨(-1), v, rfl, ⟨rfl, ⟨zt, (Or.inl ⟨z2, (Or.inl ⟨z4, (Or.inr (⟨z7, (Or.inl ⟨z9, (Or.inl ⟨z11, rfl⟩)⟩)⟩))⟩)⟩)⟩⟩, by rw [ht9]; exact hP, hD⟩, hS.F ht9⟩) hS.2.2 dX13_setting_141
          · have z14 : (((v.2 (v.1 0 47).toNatClampNeg).toInt32) >>> ((8 : Int32) &&& 31)).toInt = (61 : Int) := eq_z rfl (show (61 : Int32).toInt = (61 : Int) by decide) h10
            refine lv_iconst (v := 1) hx hb dX13_setting_66 (by decide) ?_
            refine lv_goto (tgt := 71) hx hb dX13_setting_67 (by decide) ?_
            refine lv_istore_n (lv' := [(3, .int 1), (2, .int (((v.2 (v.1 0 47).toNatClampNeg).toInt32) &&& (255 : Int32))), (1, .int ((v.2 (v.1 0 47).toNatClampNeg).toInt32)), (0, .ref (ad 0))]) hx hb dX13_setting_71 rfl hl (by decide) rfl (fun ls hl => ?_)
            refine lv_iload_n hx hb dX13_setting_72 rfl (lv_at hl 0 rfl) ?_
            refine lv_if_eq (tgt := 128) hx hb dX13_setting_73 (by decide) (fun k15 => absurd k15 (by decide)) (fun _ => ?_)
            refine lv_iload_n hx hb dX13_setting_76 rfl (lv_at hl 1 rfl) ?_
            refine lv_bipush (v := 43) hx hb dX13_setting_77 (by decide) ?_
            refine lv_icmp_eq (tgt := 124) hx hb dX13_setting_79 (by decide) (fun h16 => ?_) (fun h16 => ?_)
            · have z17 : (((v.2 (v.1 0 47).toNatClampNeg).toInt32) &&& (255 : Int32)).toInt = (43 : Int) := eq_z rfl (show (43 : Int32).toInt = (43 : Int) by decide) h16
              refine lv_iconst (v := 1) hx hb dX13_setting_124 (by decide) ?_
              refine lv_goto (tgt := 129) hx hb dX13_setting_125 (by decide) ?_
              refine lv_istore (lv' := [(4, .int 1), (3, .int 1), (2, .int (((v.2 (v.1 0 47).toNatClampNeg).toInt32) &&& (255 : Int32))), (1, .int ((v.2 (v.1 0 47).toNatClampNeg).toInt32)), (0, .ref (ad 0))]) hx hb dX13_setting_129 hl (by decide) rfl (fun ls hl => ?_)
              refine lv_iload hx hb dX13_setting_131 (lv_at hl 0 rfl) ?_
              refine lv_if_eq (tgt := 140) hx hb dX13_setting_133 (by decide) (fun k18 => absurd k18 (by decide)) (fun _ => ?_)
              refine lv_iload_n hx hb dX13_setting_136 rfl (lv_at hl 2 rfl) ?_
              refine lv_goto (tgt := 141) hx hb dX13_setting_137 (by decide) ?_
              exact W.iret (v := (((v.2 (v.1 0 47).toNatClampNeg).toInt32) &&& (255 : Int32))) hx hb hr (fun t ht9 hW => ⟨⟨(((v.2 (v.1 0 47).toNatClampNeg).toInt32) &&& (255 : Int32)), v, rfl, ⟨rfl, ⟨zt, (Or.inl ⟨z2, (Or.inl ⟨z4, (Or.inr (⟨z7, (Or.inl ⟨z9, (Or.inr (⟨z14, (Or.inl ⟨z17, rfl⟩)⟩))⟩)⟩))⟩)⟩)⟩⟩, by rw [ht9]; exact hP, hD⟩, hS.F ht9⟩) hS.2.2 dX13_setting_141
            · have z19 : (((v.2 (v.1 0 47).toNatClampNeg).toInt32) &&& (255 : Int32)).toInt ≠ (43 : Int) := ne_z rfl (show (43 : Int32).toInt = (43 : Int) by decide) h16
              refine lv_iload_n hx hb dX13_setting_82 rfl (lv_at hl 1 rfl) ?_
              refine lv_bipush (v := 45) hx hb dX13_setting_83 (by decide) ?_
              refine lv_icmp_eq (tgt := 124) hx hb dX13_setting_85 (by decide) (fun h20 => ?_) (fun h20 => ?_)
              · have z21 : (((v.2 (v.1 0 47).toNatClampNeg).toInt32) &&& (255 : Int32)).toInt = (45 : Int) := eq_z rfl (show (45 : Int32).toInt = (45 : Int) by decide) h20
                refine lv_iconst (v := 1) hx hb dX13_setting_124 (by decide) ?_
                refine lv_goto (tgt := 129) hx hb dX13_setting_125 (by decide) ?_
                refine lv_istore (lv' := [(4, .int 1), (3, .int 1), (2, .int (((v.2 (v.1 0 47).toNatClampNeg).toInt32) &&& (255 : Int32))), (1, .int ((v.2 (v.1 0 47).toNatClampNeg).toInt32)), (0, .ref (ad 0))]) hx hb dX13_setting_129 hl (by decide) rfl (fun ls hl => ?_)
                refine lv_iload hx hb dX13_setting_131 (lv_at hl 0 rfl) ?_
                refine lv_if_eq (tgt := 140) hx hb dX13_setting_133 (by decide) (fun k22 => absurd k22 (by decide)) (fun _ => ?_)
                refine lv_iload_n hx hb dX13_setting_136 rfl (lv_at hl 2 rfl) ?_
                refine lv_goto (tgt := 141) hx hb dX13_setting_137 (by decide) ?_
                exact W.iret (v := (((v.2 (v.1 0 47).toNatClampNeg).toInt32) &&& (255 : Int32))) hx hb hr (fun t ht9 hW => ⟨⟨(((v.2 (v.1 0 47).toNatClampNeg).toInt32) &&& (255 : Int32)), v, rfl, ⟨rfl, ⟨zt, (Or.inl ⟨z2, (Or.inl ⟨z4, (Or.inr (⟨z7, (Or.inl ⟨z9, (Or.inr (⟨z14, (Or.inr (⟨z19, (Or.inl ⟨z21, rfl⟩)⟩))⟩))⟩)⟩))⟩)⟩)⟩⟩, by rw [ht9]; exact hP, hD⟩, hS.F ht9⟩) hS.2.2 dX13_setting_141
              · have z23 : (((v.2 (v.1 0 47).toNatClampNeg).toInt32) &&& (255 : Int32)).toInt ≠ (45 : Int) := ne_z rfl (show (45 : Int32).toInt = (45 : Int) by decide) h20
                refine lv_iload_n hx hb dX13_setting_88 rfl (lv_at hl 1 rfl) ?_
                refine lv_bipush (v := 42) hx hb dX13_setting_89 (by decide) ?_
                refine lv_icmp_eq (tgt := 124) hx hb dX13_setting_91 (by decide) (fun h24 => ?_) (fun h24 => ?_)
                · have z25 : (((v.2 (v.1 0 47).toNatClampNeg).toInt32) &&& (255 : Int32)).toInt = (42 : Int) := eq_z rfl (show (42 : Int32).toInt = (42 : Int) by decide) h24
                  refine lv_iconst (v := 1) hx hb dX13_setting_124 (by decide) ?_
                  refine lv_goto (tgt := 129) hx hb dX13_setting_125 (by decide) ?_
                  refine lv_istore (lv' := [(4, .int 1), (3, .int 1), (2, .int (((v.2 (v.1 0 47).toNatClampNeg).toInt32) &&& (255 : Int32))), (1, .int ((v.2 (v.1 0 47).toNatClampNeg).toInt32)), (0, .ref (ad 0))]) hx hb dX13_setting_129 hl (by decide) rfl (fun ls hl => ?_)
                  refine lv_iload hx hb dX13_setting_131 (lv_at hl 0 rfl) ?_
                  refine lv_if_eq (tgt := 140) hx hb dX13_setting_133 (by decide) (fun k26 => absurd k26 (by decide)) (fun _ => ?_)
                  refine lv_iload_n hx hb dX13_setting_136 rfl (lv_at hl 2 rfl) ?_
                  refine lv_goto (tgt := 141) hx hb dX13_setting_137 (by decide) ?_
                  exact W.iret (v := (((v.2 (v.1 0 47).toNatClampNeg).toInt32) &&& (255 : Int32))) hx hb hr (fun t ht9 hW => ⟨⟨(((v.2 (v.1 0 47).toNatClampNeg).toInt32) &&& (255 : Int32)), v, rfl, ⟨rfl, ⟨zt, (Or.inl ⟨z2, (Or.inl ⟨z4, (Or.inr (⟨z7, (Or.inl ⟨z9, (Or.inr (⟨z14, (Or.inr (⟨z19, (Or.inr (⟨z23, (Or.inl ⟨z25, rfl⟩)⟩))⟩))⟩))⟩)⟩))⟩)⟩)⟩⟩, by rw [ht9]; exact hP, hD⟩, hS.F ht9⟩) hS.2.2 dX13_setting_141
                · have z27 : (((v.2 (v.1 0 47).toNatClampNeg).toInt32) &&& (255 : Int32)).toInt ≠ (42 : Int) := ne_z rfl (show (42 : Int32).toInt = (42 : Int) by decide) h24
                  refine lv_iload_n hx hb dX13_setting_94 rfl (lv_at hl 1 rfl) ?_
                  refine lv_bipush (v := 47) hx hb dX13_setting_95 (by decide) ?_
                  refine lv_icmp_eq (tgt := 124) hx hb dX13_setting_97 (by decide) (fun h28 => ?_) (fun h28 => ?_)
                  · have z29 : (((v.2 (v.1 0 47).toNatClampNeg).toInt32) &&& (255 : Int32)).toInt = (47 : Int) := eq_z rfl (show (47 : Int32).toInt = (47 : Int) by decide) h28
                    refine lv_iconst (v := 1) hx hb dX13_setting_124 (by decide) ?_
                    refine lv_goto (tgt := 129) hx hb dX13_setting_125 (by decide) ?_
                    refine lv_istore (lv' := [(4, .int 1), (3, .int 1), (2, .int (((v.2 (v.1 0 47).toNatClampNeg).toInt32) &&& (255 : Int32))), (1, .int ((v.2 (v.1 0 47).toNatClampNeg).toInt32)), (0, .ref (ad 0))]) hx hb dX13_setting_129 hl (by decide) rfl (fun ls hl => ?_)
                    refine lv_iload hx hb dX13_setting_131 (lv_at hl 0 rfl) ?_
                    refine lv_if_eq (tgt := 140) hx hb dX13_setting_133 (by decide) (fun k30 => absurd k30 (by decide)) (fun _ => ?_)
                    refine lv_iload_n hx hb dX13_setting_136 rfl (lv_at hl 2 rfl) ?_
                    refine lv_goto (tgt := 141) hx hb dX13_setting_137 (by decide) ?_
                    exact W.iret (v := (((v.2 (v.1 0 47).toNatClampNeg).toInt32) &&& (255 : Int32))) hx hb hr (fun t ht9 hW => ⟨⟨(((v.2 (v.1 0 47).toNatClampNeg).toInt32) &&& (255 : Int32)), v, rfl, ⟨rfl, ⟨zt, (Or.inl ⟨z2, (Or.inl ⟨z4, (Or.inr (⟨z7, (Or.inl ⟨z9, (Or.inr (⟨z14, (Or.inr (⟨z19, (Or.inr (⟨z23, (Or.inr (⟨z27, (Or.inl ⟨z29, rfl⟩)⟩))⟩))⟩))⟩))⟩)⟩))⟩)⟩)⟩⟩, by rw [ht9]; exact hP, hD⟩, hS.F ht9⟩) hS.2.2 dX13_setting_141
                  · have z31 : (((v.2 (v.1 0 47).toNatClampNeg).toInt32) &&& (255 : Int32)).toInt ≠ (47 : Int) := ne_z rfl (show (47 : Int32).toInt = (47 : Int) by decide) h28
                    refine lv_iload_n hx hb dX13_setting_100 rfl (lv_at hl 1 rfl) ?_
                    refine lv_bipush (v := 37) hx hb dX13_setting_101 (by decide) ?_
                    refine lv_icmp_eq (tgt := 124) hx hb dX13_setting_103 (by decide) (fun h32 => ?_) (fun h32 => ?_)
                    · have z33 : (((v.2 (v.1 0 47).toNatClampNeg).toInt32) &&& (255 : Int32)).toInt = (37 : Int) := eq_z rfl (show (37 : Int32).toInt = (37 : Int) by decide) h32
                      refine lv_iconst (v := 1) hx hb dX13_setting_124 (by decide) ?_
                      refine lv_goto (tgt := 129) hx hb dX13_setting_125 (by decide) ?_
                      refine lv_istore (lv' := [(4, .int 1), (3, .int 1), (2, .int (((v.2 (v.1 0 47).toNatClampNeg).toInt32) &&& (255 : Int32))), (1, .int ((v.2 (v.1 0 47).toNatClampNeg).toInt32)), (0, .ref (ad 0))]) hx hb dX13_setting_129 hl (by decide) rfl (fun ls hl => ?_)
                      refine lv_iload hx hb dX13_setting_131 (lv_at hl 0 rfl) ?_
                      refine lv_if_eq (tgt := 140) hx hb dX13_setting_133 (by decide) (fun k34 => absurd k34 (by decide)) (fun _ => ?_)
                      refine lv_iload_n hx hb dX13_setting_136 rfl (lv_at hl 2 rfl) ?_
                      refine lv_goto (tgt := 141) hx hb dX13_setting_137 (by decide) ?_
                      exact W.iret (v := (((v.2 (v.1 0 47).toNatClampNeg).toInt32) &&& (255 : Int32))) hx hb hr (fun t ht9 hW => ⟨⟨(((v.2 (v.1 0 47).toNatClampNeg).toInt32) &&& (255 : Int32)), v, rfl, ⟨rfl, ⟨zt, (Or.inl ⟨z2, (Or.inl ⟨z4, (Or.inr (⟨z7, (Or.inl ⟨z9, (Or.inr (⟨z14, (Or.inr (⟨z19, (Or.inr (⟨z23, (Or.inr (⟨z27, (Or.inr (⟨z31, (Or.inl ⟨z33, rfl⟩)⟩))⟩))⟩))⟩))⟩))⟩)⟩))⟩)⟩)⟩⟩, by rw [ht9]; exact hP, hD⟩, hS.F ht9⟩) hS.2.2 dX13_setting_141
                    · have z35 : (((v.2 (v.1 0 47).toNatClampNeg).toInt32) &&& (255 : Int32)).toInt ≠ (37 : Int) := ne_z rfl (show (37 : Int32).toInt = (37 : Int) by decide) h32
                      refine lv_iload_n hx hb dX13_setting_106 rfl (lv_at hl 1 rfl) ?_
                      refine lv_bipush (v := 38) hx hb dX13_setting_107 (by decide) ?_
                      refine lv_icmp_eq (tgt := 124) hx hb dX13_setting_109 (by decide) (fun h36 => ?_) (fun h36 => ?_)
                      · have z37 : (((v.2 (v.1 0 47).toNatClampNeg).toInt32) &&& (255 : Int32)).toInt = (38 : Int) := eq_z rfl (show (38 : Int32).toInt = (38 : Int) by decide) h36
                        refine lv_iconst (v := 1) hx hb dX13_setting_124 (by decide) ?_
                        refine lv_goto (tgt := 129) hx hb dX13_setting_125 (by decide) ?_
                        refine lv_istore (lv' := [(4, .int 1), (3, .int 1), (2, .int (((v.2 (v.1 0 47).toNatClampNeg).toInt32) &&& (255 : Int32))), (1, .int ((v.2 (v.1 0 47).toNatClampNeg).toInt32)), (0, .ref (ad 0))]) hx hb dX13_setting_129 hl (by decide) rfl (fun ls hl => ?_)
                        refine lv_iload hx hb dX13_setting_131 (lv_at hl 0 rfl) ?_
                        refine lv_if_eq (tgt := 140) hx hb dX13_setting_133 (by decide) (fun k38 => absurd k38 (by decide)) (fun _ => ?_)
                        refine lv_iload_n hx hb dX13_setting_136 rfl (lv_at hl 2 rfl) ?_
                        refine lv_goto (tgt := 141) hx hb dX13_setting_137 (by decide) ?_
                        exact W.iret (v := (((v.2 (v.1 0 47).toNatClampNeg).toInt32) &&& (255 : Int32))) hx hb hr (fun t ht9 hW => ⟨⟨(((v.2 (v.1 0 47).toNatClampNeg).toInt32) &&& (255 : Int32)), v, rfl, ⟨rfl, ⟨zt, (Or.inl ⟨z2, (Or.inl ⟨z4, (Or.inr (⟨z7, (Or.inl ⟨z9, (Or.inr (⟨z14, (Or.inr (⟨z19, (Or.inr (⟨z23, (Or.inr (⟨z27, (Or.inr (⟨z31, (Or.inr (⟨z35, (Or.inl ⟨z37, rfl⟩)⟩))⟩))⟩))⟩))⟩))⟩))⟩)⟩))⟩)⟩)⟩⟩, by rw [ht9]; exact hP, hD⟩, hS.F ht9⟩) hS.2.2 dX13_setting_141
                      · have z39 : (((v.2 (v.1 0 47).toNatClampNeg).toInt32) &&& (255 : Int32)).toInt ≠ (38 : Int) := ne_z rfl (show (38 : Int32).toInt = (38 : Int) by decide) h36
                        refine lv_iload_n hx hb dX13_setting_112 rfl (lv_at hl 1 rfl) ?_
                        refine lv_bipush (v := 124) hx hb dX13_setting_113 (by decide) ?_
                        refine lv_icmp_eq (tgt := 124) hx hb dX13_setting_115 (by decide) (fun h40 => ?_) (fun h40 => ?_)
                        · have z41 : (((v.2 (v.1 0 47).toNatClampNeg).toInt32) &&& (255 : Int32)).toInt = (124 : Int) := eq_z rfl (show (124 : Int32).toInt = (124 : Int) by decide) h40
                          refine lv_iconst (v := 1) hx hb dX13_setting_124 (by decide) ?_
                          refine lv_goto (tgt := 129) hx hb dX13_setting_125 (by decide) ?_
                          refine lv_istore (lv' := [(4, .int 1), (3, .int 1), (2, .int (((v.2 (v.1 0 47).toNatClampNeg).toInt32) &&& (255 : Int32))), (1, .int ((v.2 (v.1 0 47).toNatClampNeg).toInt32)), (0, .ref (ad 0))]) hx hb dX13_setting_129 hl (by decide) rfl (fun ls hl => ?_)
                          refine lv_iload hx hb dX13_setting_131 (lv_at hl 0 rfl) ?_
                          refine lv_if_eq (tgt := 140) hx hb dX13_setting_133 (by decide) (fun k42 => absurd k42 (by decide)) (fun _ => ?_)
                          refine lv_iload_n hx hb dX13_setting_136 rfl (lv_at hl 2 rfl) ?_
                          refine lv_goto (tgt := 141) hx hb dX13_setting_137 (by decide) ?_
                          exact W.iret (v := (((v.2 (v.1 0 47).toNatClampNeg).toInt32) &&& (255 : Int32))) hx hb hr (fun t ht9 hW => ⟨⟨(((v.2 (v.1 0 47).toNatClampNeg).toInt32) &&& (255 : Int32)), v, rfl, ⟨rfl, ⟨zt, (Or.inl ⟨z2, (Or.inl ⟨z4, (Or.inr (⟨z7, (Or.inl ⟨z9, (Or.inr (⟨z14, (Or.inr (⟨z19, (Or.inr (⟨z23, (Or.inr (⟨z27, (Or.inr (⟨z31, (Or.inr (⟨z35, (Or.inr (⟨z39, (Or.inl ⟨z41, rfl⟩)⟩))⟩))⟩))⟩))⟩))⟩))⟩))⟩)⟩))⟩)⟩)⟩⟩, by rw [ht9]; exact hP, hD⟩, hS.F ht9⟩) hS.2.2 dX13_setting_141
                        · have z43 : (((v.2 (v.1 0 47).toNatClampNeg).toInt32) &&& (255 : Int32)).toInt ≠ (124 : Int) := ne_z rfl (show (124 : Int32).toInt = (124 : Int) by decide) h40
                          refine lv_iload_n hx hb dX13_setting_118 rfl (lv_at hl 1 rfl) ?_
                          refine lv_bipush (v := 94) hx hb dX13_setting_119 (by decide) ?_
                          refine lv_icmp_ne (tgt := 128) hx hb dX13_setting_121 (by decide) (fun h44 => ?_) (fun h44 => ?_)
                          · have z45 : (((v.2 (v.1 0 47).toNatClampNeg).toInt32) &&& (255 : Int32)).toInt ≠ (94 : Int) := ne_z rfl (show (94 : Int32).toInt = (94 : Int) by decide) h44
                            refine lv_iconst (v := 0) hx hb dX13_setting_128 (by decide) ?_
                            refine lv_istore (lv' := [(4, .int 0), (3, .int 1), (2, .int (((v.2 (v.1 0 47).toNatClampNeg).toInt32) &&& (255 : Int32))), (1, .int ((v.2 (v.1 0 47).toNatClampNeg).toInt32)), (0, .ref (ad 0))]) hx hb dX13_setting_129 hl (by decide) rfl (fun ls hl => ?_)
                            refine lv_iload hx hb dX13_setting_131 (lv_at hl 0 rfl) ?_
                            refine lv_if_eq (tgt := 140) hx hb dX13_setting_133 (by decide) (fun _ => ?_) (fun k46 => absurd k46 (by decide))
                            refine lv_iconst (v := -1) hx hb dX13_setting_140 (by decide) ?_
                            exact W.iret (v := (-1)) hx hb hr (fun t ht9 hW => ⟨⟨(-1), v, rfl, ⟨rfl, ⟨zt, (Or.inl ⟨z2, (Or.inl ⟨z4, (Or.inr (⟨z7, (Or.inl ⟨z9, (Or.inr (⟨z14, (Or.inr (⟨z19, (Or.inr (⟨z23, (Or.inr (⟨z27, (Or.inr (⟨z31, (Or.inr (⟨z35, (Or.inr (⟨z39, (Or.inr (⟨z43, (Or.inl ⟨z45, rfl⟩)⟩))⟩))⟩))⟩))⟩))⟩))⟩))⟩))⟩)⟩))⟩)⟩)⟩⟩, by rw [ht9]; exact hP, hD⟩, hS.F ht9⟩) hS.2.2 dX13_setting_141
                          · have z47 : (((v.2 (v.1 0 47).toNatClampNeg).toInt32) &&& (255 : Int32)).toInt = (94 : Int) := eq_z rfl (show (94 : Int32).toInt = (94 : Int) by decide) h44
                            refine lv_iconst (v := 1) hx hb dX13_setting_124 (by decide) ?_
                            refine lv_goto (tgt := 129) hx hb dX13_setting_125 (by decide) ?_
                            refine lv_istore (lv' := [(4, .int 1), (3, .int 1), (2, .int (((v.2 (v.1 0 47).toNatClampNeg).toInt32) &&& (255 : Int32))), (1, .int ((v.2 (v.1 0 47).toNatClampNeg).toInt32)), (0, .ref (ad 0))]) hx hb dX13_setting_129 hl (by decide) rfl (fun ls hl => ?_)
                            refine lv_iload hx hb dX13_setting_131 (lv_at hl 0 rfl) ?_
                            refine lv_if_eq (tgt := 140) hx hb dX13_setting_133 (by decide) (fun k48 => absurd k48 (by decide)) (fun _ => ?_)
                            refine lv_iload_n hx hb dX13_setting_136 rfl (lv_at hl 2 rfl) ?_
                            refine lv_goto (tgt := 141) hx hb dX13_setting_137 (by decide) ?_
                            exact W.iret (v := (((v.2 (v.1 0 47).toNatClampNeg).toInt32) &&& (255 : Int32))) hx hb hr (fun t ht9 hW => ⟨⟨(((v.2 (v.1 0 47).toNatClampNeg).toInt32) &&& (255 : Int32)), v, rfl, ⟨rfl, ⟨zt, (Or.inl ⟨z2, (Or.inl ⟨z4, (Or.inr (⟨z7, (Or.inl ⟨z9, (Or.inr (⟨z14, (Or.inr (⟨z19, (Or.inr (⟨z23, (Or.inr (⟨z27, (Or.inr (⟨z31, (Or.inr (⟨z35, (Or.inr (⟨z39, (Or.inr (⟨z43, (Or.inr (⟨z47, rfl⟩))⟩))⟩))⟩))⟩))⟩))⟩))⟩))⟩))⟩)⟩))⟩)⟩)⟩⟩, by rw [ht9]; exact hP, hD⟩, hS.F ht9⟩) hS.2.2 dX13_setting_141
        · have z49 : ((v.2 (v.1 0 47).toNatClampNeg).toInt32).toInt = (4013630 : Int) := eq_z rfl (show (4013630 : Int32).toInt = (4013630 : Int) by decide) h8
          refine lv_iload_n hx hb dX13_setting_46 rfl (lv_at hl 0 rfl) ?_
          refine lv_ldc (v := 65535) hx hb hown (ht _ tw_57) dX13_setting_47 ?_
          refine lv_iand hx hb dX13_setting_49 ?_
          exact W.iret (v := (((v.2 (v.1 0 47).toNatClampNeg).toInt32) &&& (65535 : Int32))) hx hb hr (fun t ht9 hW => ⟨⟨(((v.2 (v.1 0 47).toNatClampNeg).toInt32) &&& (65535 : Int32)), v, rfl, ⟨rfl, ⟨zt, (Or.inl ⟨z2, (Or.inl ⟨z4, (Or.inr (⟨z7, (Or.inr (⟨z49, rfl⟩))⟩))⟩)⟩)⟩⟩, by rw [ht9]; exact hP, hD⟩, hS.F ht9⟩) hS.2.2 dX13_setting_50
    · have z50 : ((v.2 (v.1 0 47).toNatClampNeg).toInt32).toInt = (61 : Int) := eq_z rfl (show (61 : Int32).toInt = (61 : Int) by decide) h3
      refine lv_iconst (v := 0) hx hb dX13_setting_32 (by decide) ?_
      exact W.iret (v := 0) hx hb hr (fun t ht9 hW => ⟨⟨0, v, rfl, ⟨rfl, ⟨zt, (Or.inl ⟨z2, (Or.inr (⟨z50, rfl⟩))⟩)⟩⟩, by rw [ht9]; exact hP, hD⟩, hS.F ht9⟩) hS.2.2 dX13_setting_33
  · have z51 : ((v.1 6) (v.1 0 47).toNatClampNeg).toInt ≠ (5 : Int) := ne_z rfl (show (5 : Int32).toInt = (5 : Int) by decide) h1
    refine lv_iconst (v := -1) hx hb dX13_setting_13 (by decide) ?_
    exact W.iret (v := (-1)) hx hb hr (fun t ht9 hW => ⟨⟨(-1), v, rfl, ⟨rfl, ⟨zt, (Or.inr (⟨z51, rfl⟩))⟩⟩, by rw [ht9]; exact hP, hD⟩, hS.F ht9⟩) hS.2.2 dX13_setting_14
theorem om_0f34b291e9 : (0 : Int) ≤ (1 : Int) := by omega
theorem om_434853ee4d {x0 : Int} (h0 : 0 ≤ x0 ∧ x0 ≤ 15980) : 0 ≤ x0 ∧ x0 < 16000 := by omega
theorem om_725afa629b {x0 : Int} (h0 : 0 ≤ x0 ∧ x0 ≤ 15980) : -2147483648 ≤ (x0) + (1 : Int) := by omega
theorem om_58344aeddd {x0 : Int} (h0 : 0 ≤ x0 ∧ x0 ≤ 15980) : (x0) + (1 : Int) < 2147483648 := by omega
theorem om_2ab3f6b9f5 {x0 : Int} (h0 : 0 ≤ x0 ∧ x0 ≤ 15980) : 0 ≤ x0 := by omega
theorem om_007919dbf5 : (1 : Int) ≤ (1 : Int) := by omega
theorem om_bd95b2e5c4 {x0 : Int} (h0 : 0 ≤ x0 ∧ x0 ≤ 23980) : 0 ≤ x0 ∧ x0 < 24000 := by omega
theorem om_6650f37474 {x0 : Int} (h0 : 0 ≤ x0 ∧ x0 ≤ 23980) : -2147483648 ≤ (x0) + (1 : Int) := by omega
theorem om_8ddb6642ab {x0 : Int} (h0 : 0 ≤ x0 ∧ x0 ≤ 23980) : (x0) + (1 : Int) < 2147483648 := by omega
theorem om_d1ed3ade5a {x0 x1 : Int} (h0 : 0 ≤ x0 ∧ x0 ≤ 23980) (h1 : x1 = (x0) + (1 : Int)) : 0 ≤ x1 ∧ x1 < 24000 := by omega
theorem om_13df27bb56 {x0 : Int} (h0 : 0 ≤ x0 ∧ x0 ≤ 23980) : -2147483648 ≤ ((x0) + (1 : Int)) + (1 : Int) := by omega
theorem om_d9744998dd {x0 : Int} (h0 : 0 ≤ x0 ∧ x0 ≤ 23980) : ((x0) + (1 : Int)) + (1 : Int) < 2147483648 := by omega
theorem om_8eef6f3bb2 {x0 x1 : Int} (h0 : x0 = ((x1) + (1 : Int)) + (1 : Int)) : x1 ≤ x0 ∧ x0 ≤ x1 + 2 := by omega
theorem om_0f6ec7af46 {x0 x1 : Int} (h0 : 0 ≤ x0 ∧ x0 ≤ 23980) (h1 : x1 = (x0) + (1 : Int)) : 0 ≤ x1 := by omega
theorem om_56bf42079b {x0 x1 : Int} {n2 : Nat} (h0 : x0 = (x1) + (1 : Int)) (h1 : (n2 : Int) < x1) : (n2 : Int) < x0 := by omega
theorem om_4842074e86 {x0 : Int} (h0 : 0 ≤ x0 ∧ x0 ≤ 23980) : 0 ≤ x0 := by omega
theorem om_4fe904e9bf {x1 : Int} {n0 : Nat} (h0 : (n0 : Int) < x1) : (n0 : Int) < x1 := by omega
theorem om_94fe09417a {x0 x1 : Int} (h0 : x0 = (x1) + (1 : Int)) : x1 ≤ x0 ∧ x0 ≤ x1 + 2 := by omega
set_option maxHeartbeats 4000000 in
set_option maxRecDepth 100000 in
theorem c_m_loads (l : Launch) (dC : Nat → ClassId) (dI : Nat → Nat → Nat) (cI cB cZ cJ cR : ClassId) (tb : Nat → Nat) (sz : Nat) (ad : Nat → Nat) (N : Nat) (v : MS) (pa : Int32) (zw : 0 ≤ (v.1 0 12).toInt ∧ (v.1 0 12).toInt ≤ 23980) (zo : 0 ≤ (v.1 0 15).toInt ∧ (v.1 0 15).toInt ≤ 15980) : Met l yX13_loads (Cond.code yX13_loads cX13_loads 2 none :: tw_W) ({ frames := 2, cells := 0, slots := 0, locals := 46 }) (pc_ (dC, dI) (tyS cI cB cZ cJ cR) tb (mW ad N cI cZ cJ v) sz [.ref (ad 0), .int pa]) (qv_ (dC, dI) (mW ad N cI cZ cJ v) sz (fun (u : MS) => FG [12, 15] [0, 11, 13, 14] v u ∧ (Q_m_loads v pa u) ∧ ((v.1 0 12).toInt ≤ (u.1 0 12).toInt ∧ (u.1 0 12).toInt ≤ (v.1 0 12).toInt + 2) ∧ ((u.1 0 15).toInt = (v.1 0 15).toInt + 1) ∧ (∀ j : Nat, (j : Int) < (v.1 0 12).toInt → (u.1 11) j = (v.1 11) j) ∧ (∀ j : Nat, (j : Int) < (v.1 0 15).toInt → (u.1 13) j = (v.1 13) j) ∧ (∀ j : Nat, (j : Int) < (v.1 0 15).toInt → (u.1 14) j = (v.1 14) j) ∧ (SGE (v.1 0 30).toInt (v.1 0 28).toInt (v.1 0 27).toInt (u.1 13) (u.1 14) (u.1 36) (u.1 38) (v.1 0 15).toNatClampNeg (u.1 0 15).toNatClampNeg (v.1 0 39).toNatClampNeg (u.1 0 39).toNatClampNeg [] [false] ((1 : Int)) [])) (fun (u : MS) => (mW ad N cI cZ cJ u))) 0 0 (va_A (mW ad N cI cZ cJ v) sz) := by
  refine Met.ofW (cc := cX13_loads) (maxL := 2) (ret := none) (by decide) rfl ?_
  intro p e s m args below meth c s₁ B hml hv
  obtain ⟨rfl, hsz, hP, hKK, hD0, hFx⟩ := hv
  have hK := hKK.1
  have hx := B.exec
  have hb := B.bytes
  have hr := B.returns
  have ht : ∀ w ∈ tw_W, w.before _ s = true := fun w h => atoms_spec (ws := Cond.code yX13_loads cX13_loads 2 none :: tw_W) B.pre w (List.mem_cons_of_mem _ h)
  have hown : s.vm.findClass RX13 = some m.cls := findClass_of_methodNamed B.named
  have hlocks := B.notSynchronized
  subst hsz
  unfold qv_
  have hD := hD0.self (sz := s.heap.size)
  generalize hAe : va_A (mW ad N cI cZ cJ v) s.heap.size = A at hD hFx ⊢
  have hA : ∀ q : Nat, s.heap.size ≤ q → A q := fun q h => by rw [← hAe]; exact Or.inr h
  have hS : va_S A s.heap s.heap [] := va_S.rf
  have hl := lv_entry ([.ref (ad 0), .int pa]) (n := 2) (Nat.le_of_ble_eq_true rfl)
  rw [lg_entry_eq]
  generalize (lg_sl ([.ref (ad 0), .int pa]) ++ List.replicate (2 - (lg_sl ([.ref (ad 0), .int pa])).length) Slot.unset).toArray = ls at hl ⊢
  have hl : lv_has ls 2 [(0, .ref (ad 0)), (1, .int pa)] := hl
  have sg1 : SGE (v.1 0 30).toInt (v.1 0 28).toInt (v.1 0 27).toInt (v.1 13) (v.1 14) (v.1 36) (v.1 38) (v.1 0 15).toNatClampNeg (v.1 0 15).toNatClampNeg (v.1 0 39).toNatClampNeg (v.1 0 39).toNatClampNeg [] [] ((1 : Int)) [] := SGE.nil rfl (lenle (0 : Int) (by decide) om_0f34b291e9)
  refine lv_aload_n hx hb dX13_loads_0 rfl (lv_at hl 0 rfl) ?_
  refine lv_iconst (v := 0) hx hb dX13_loads_1 (by decide) ?_
  refine lv_iload_n hx hb dX13_loads_2 rfl (lv_at hl 1 rfl) ?_
  refine cu_i (rn_V (n := 2) (As := [.int 0, .int pa]) (rest := []) hx hb hml hown ht hKK hFx hP hD hS hA (c_m_say l dC dI cI cB cZ cJ cR tb s.heap.size ad N v (0 : Int32) pa (show 0 ≤ (v.1 0 15).toInt ∧ (v.1 0 15).toInt < 16000 from (om_434853ee4d zo))) tw_59 tw_60 (by decide +kernel) rfl rfl ⟨Nat.le_of_ble_eq_true rfl, Nat.le_of_ble_eq_true rfl⟩ (List.range (mW ad N cI cZ cJ v).length) (rg_map _) (mW_nd _ _ _ _ _ _) rfl rfl rfl rfl hl.1 rfl (Nat.le_of_ble_eq_true rfl) dX13_loads_3 ⟨Nat.le_of_ble_eq_true rfl, Nat.le_of_ble_eq_true rfl⟩) hP hD hS hA (fun r4 u3 H locs hw2 hP hD hS => ?_)
  obtain ⟨rfl, rfl⟩ := hw2
  have z5 : ((v.1 0 15) + (1 : Int32)).toInt = ((v.1 0 15).toInt) + (1 : Int) := add_z rfl (show (1 : Int32).toInt = (1 : Int) by decide) (om_725afa629b zo) (om_58344aeddd zo)
  have hP : va_P (dC, dI) vwCl (mW ad N cI cZ cJ (wA (wA (wA v 13 ((v.1 0 15).toNatClampNeg) (0 : Int32)) 14 ((v.1 0 15).toNatClampNeg) pa) 0 15 ((v.1 0 15) + (1 : Int32)))) H := hP
  have hD : va_D A (mW ad N cI cZ cJ (wA (wA (wA v 13 ((v.1 0 15).toNatClampNeg) (0 : Int32)) 14 ((v.1 0 15).toNatClampNeg) pa) 0 15 ((v.1 0 15) + (1 : Int32)))) := hD
  refine tp_i (y := (v.1 0 15)) (rfl) ?_
  have sg6 : SGE (v.1 0 30).toInt (v.1 0 28).toInt (v.1 0 27).toInt (upd (v.1 13) ((v.1 0 15).toNatClampNeg) (0 : Int32)) (upd (v.1 14) ((v.1 0 15).toNatClampNeg) pa) (v.1 36) (v.1 38) (v.1 0 15).toNatClampNeg ((v.1 0 15) + (1 : Int32)).toNatClampNeg (v.1 0 39).toNatClampNeg (v.1 0 39).toNatClampNeg [] [false] ((1 : Int)) [] := SGE.say1 (x := (v.1 0 15)) (y := ((v.1 0 15) + (1 : Int32))) sg1 (show 0 ≤ (v.1 0 15).toInt from (om_2ab3f6b9f5 zo)) (show ((v.1 0 15) + (1 : Int32)).toInt = (v.1 0 15).toInt + 1 from (om_5bccfc38cf z5)) (show (1 : Int) ≤ (1 : Int) from om_007919dbf5) (lenle (1 : Int) (by decide) om_007919dbf5) (ft_num (by decide)) (by decide) (by decide)
  refine W.widen (k := 0) (n := 0) (Nat.le_refl _) (Nat.le_refl _) ?_
  refine lv_pop hx hb dX13_loads_6 rfl ?_
  refine lv_iload_n hx hb dX13_loads_7 rfl (lv_at hl 1 rfl) ?_
  refine lv_sipush (v := -2048) hx hb dX13_loads_8 (by decide) ?_
  refine lv_icmp_lt (tgt := 36) hx hb dX13_loads_11 (by decide) (fun h7 => ?_) (fun h7 => ?_)
  · have z8 : pa.toInt < (-2048 : Int) := lt_z rfl (show ((-2048) : Int32).toInt = (-2048 : Int) by decide) h7
    refine lv_aload_n hx hb dX13_loads_36 rfl (lv_at hl 0 rfl) ?_
    refine lv_bipush (v := 10) hx hb dX13_loads_37 (by decide) ?_
    refine lv_iload_n hx hb dX13_loads_39 rfl (lv_at hl 1 rfl) ?_
    refine cu_s (mW_nd _ _ _ _ _ _) (rn_S (n := 1) (As := [.int pa]) (rest := [.int 10, .ref (ad 0)]) hx hb hml hown ht hKK hFx hP hD hS hA (c_m_hi l dC dI cI cB cZ cJ cR tb H.size pa ) tw_0 tw_1 (by decide +kernel) rfl rfl ⟨Nat.le_of_ble_eq_true rfl, Nat.le_of_ble_eq_true rfl⟩ [] rfl rfl rfl hl.1 rfl (Nat.le_of_ble_eq_true rfl) dX13_loads_40 ⟨Nat.le_of_ble_eq_true rfl, Nat.le_of_ble_eq_true rfl⟩) hP hD hS hA (fun r11 H locs hw9 hP hD hS => ?_)
    have ex9 := hw9
    refine W.widen (k := 0) (n := 0) (Nat.le_refl _) (Nat.le_refl _) ?_
    refine cu_s (mW_nd _ _ _ _ _ _) (rn_S (n := 2) (As := [.int 10, .int r11]) (rest := [.ref (ad 0)]) hx hb hml hown ht hKK hFx hP hD hS hA (c_m_lui l dC dI cI cB cZ cJ cR tb H.size (10 : Int32) r11 ) tw_61 tw_62 (by decide +kernel) rfl rfl ⟨Nat.le_of_ble_eq_true rfl, Nat.le_of_ble_eq_true rfl⟩ [] rfl rfl rfl hl.1 rfl (Nat.le_of_ble_eq_true rfl) dX13_loads_43 ⟨Nat.le_of_ble_eq_true rfl, Nat.le_of_ble_eq_true rfl⟩) hP hD hS hA (fun r14 H locs hw12 hP hD hS => ?_)
    have ex12 := hw12
    refine W.widen (k := 0) (n := 0) (Nat.le_refl _) (Nat.le_refl _) ?_
    refine cu_i (rn_V (n := 1) (As := [.int r14]) (rest := []) hx hb hml hown ht hKK hFx hP hD hS hA (c_m_emit l dC dI cI cB cZ cJ cR tb H.size ad N (wA (wA (wA v 13 ((v.1 0 15).toNatClampNeg) (0 : Int32)) 14 ((v.1 0 15).toNatClampNeg) pa) 0 15 ((v.1 0 15) + (1 : Int32))) r14 (show 0 ≤ (v.1 0 12).toInt ∧ (v.1 0 12).toInt < 24000 from (om_bd95b2e5c4 zw))) tw_8 tw_9 (by decide +kernel) rfl rfl ⟨Nat.le_of_ble_eq_true rfl, Nat.le_of_ble_eq_true rfl⟩ (List.range (mW ad N cI cZ cJ (wA (wA (wA v 13 ((v.1 0 15).toNatClampNeg) (0 : Int32)) 14 ((v.1 0 15).toNatClampNeg) pa) 0 15 ((v.1 0 15) + (1 : Int32)))).length) (rg_map _) (mW_nd _ _ _ _ _ _) rfl rfl rfl rfl hl.1 rfl (Nat.le_of_ble_eq_true rfl) dX13_loads_46 ⟨Nat.le_of_ble_eq_true rfl, Nat.le_of_ble_eq_true rfl⟩) hP hD hS hA (fun r17 u16 H locs hw15 hP hD hS => ?_)
    obtain ⟨rfl, rfl⟩ := hw15
    have z18 : ((v.1 0 12) + (1 : Int32)).toInt = ((v.1 0 12).toInt) + (1 : Int) := add_z rfl (show (1 : Int32).toInt = (1 : Int) by decide) (om_6650f37474 zw) (om_8ddb6642ab zw)
    have hP : va_P (dC, dI) vwCl (mW ad N cI cZ cJ (wA (wA (wA (wA (wA v 13 ((v.1 0 15).toNatClampNeg) (0 : Int32)) 14 ((v.1 0 15).toNatClampNeg) pa) 0 15 ((v.1 0 15) + (1 : Int32))) 11 ((v.1 0 12).toNatClampNeg) r14) 0 12 ((v.1 0 12) + (1 : Int32)))) H := hP
    have hD : va_D A (mW ad N cI cZ cJ (wA (wA (wA (wA (wA v 13 ((v.1 0 15).toNatClampNeg) (0 : Int32)) 14 ((v.1 0 15).toNatClampNeg) pa) 0 15 ((v.1 0 15) + (1 : Int32))) 11 ((v.1 0 12).toNatClampNeg) r14) 0 12 ((v.1 0 12) + (1 : Int32)))) := hD
    refine tp_i (y := (v.1 0 12)) (rfl) ?_
    refine W.widen (k := 0) (n := 0) (Nat.le_refl _) (Nat.le_refl _) ?_
    refine lv_pop hx hb dX13_loads_49 rfl ?_
    refine lv_aload_n hx hb dX13_loads_50 rfl (lv_at hl 0 rfl) ?_
    refine lv_bipush (v := 10) hx hb dX13_loads_51 (by decide) ?_
    refine lv_bipush (v := 10) hx hb dX13_loads_53 (by decide) ?_
    refine lv_iload_n hx hb dX13_loads_55 rfl (lv_at hl 1 rfl) ?_
    refine cu_s (mW_nd _ _ _ _ _ _) (rn_S (n := 1) (As := [.int pa]) (rest := [.int 10, .int 10, .ref (ad 0)]) hx hb hml hown ht hKK hFx hP hD hS hA (c_m_lo l dC dI cI cB cZ cJ cR tb H.size pa ) tw_63 tw_64 (by decide +kernel) rfl rfl ⟨Nat.le_of_ble_eq_true rfl, Nat.le_of_ble_eq_true rfl⟩ [] rfl rfl rfl hl.1 rfl (Nat.le_of_ble_eq_true rfl) dX13_loads_56 ⟨Nat.le_of_ble_eq_true rfl, Nat.le_of_ble_eq_true rfl⟩) hP hD hS hA (fun r21 H locs hw19 hP hD hS => ?_)
    have ex19 := hw19
    refine W.widen (k := 0) (n := 0) (Nat.le_refl _) (Nat.le_refl _) ?_
    refine cu_s (mW_nd _ _ _ _ _ _) (rn_S (n := 3) (As := [.int 10, .int 10, .int r21]) (rest := [.ref (ad 0)]) hx hb hml hown ht hKK hFx hP hD hS hA (c_m_addi l dC dI cI cB cZ cJ cR tb H.size (10 : Int32) (10 : Int32) r21 ) tw_65 tw_66 (by decide +kernel) rfl rfl ⟨Nat.le_of_ble_eq_true rfl, Nat.le_of_ble_eq_true rfl⟩ [] rfl rfl rfl hl.1 rfl (Nat.le_of_ble_eq_true rfl) dX13_loads_59 ⟨Nat.le_of_ble_eq_true rfl, Nat.le_of_ble_eq_true rfl⟩) hP hD hS hA (fun r24 H locs hw22 hP hD hS => ?_)
    have ex22 := hw22
    refine W.widen (k := 0) (n := 0) (Nat.le_refl _) (Nat.le_refl _) ?_
    refine cu_i (rn_V (n := 1) (As := [.int r24]) (rest := []) hx hb hml hown ht hKK hFx hP hD hS hA (c_m_emit l dC dI cI cB cZ cJ cR tb H.size ad N (wA (wA (wA (wA (wA v 13 ((v.1 0 15).toNatClampNeg) (0 : Int32)) 14 ((v.1 0 15).toNatClampNeg) pa) 0 15 ((v.1 0 15) + (1 : Int32))) 11 ((v.1 0 12).toNatClampNeg) r14) 0 12 ((v.1 0 12) + (1 : Int32))) r24 (show 0 ≤ ((v.1 0 12) + (1 : Int32)).toInt ∧ ((v.1 0 12) + (1 : Int32)).toInt < 24000 from (om_d1ed3ade5a zw z18))) tw_8 tw_9 (by decide +kernel) rfl rfl ⟨Nat.le_of_ble_eq_true rfl, Nat.le_of_ble_eq_true rfl⟩ (List.range (mW ad N cI cZ cJ (wA (wA (wA (wA (wA v 13 ((v.1 0 15).toNatClampNeg) (0 : Int32)) 14 ((v.1 0 15).toNatClampNeg) pa) 0 15 ((v.1 0 15) + (1 : Int32))) 11 ((v.1 0 12).toNatClampNeg) r14) 0 12 ((v.1 0 12) + (1 : Int32)))).length) (rg_map _) (mW_nd _ _ _ _ _ _) rfl rfl rfl rfl hl.1 rfl (Nat.le_of_ble_eq_true rfl) dX13_loads_62 ⟨Nat.le_of_ble_eq_true rfl, Nat.le_of_ble_eq_true rfl⟩) hP hD hS hA (fun r27 u26 H locs hw25 hP hD hS => ?_)
    obtain ⟨rfl, rfl⟩ := hw25
    have z28 : (((v.1 0 12) + (1 : Int32)) + (1 : Int32)).toInt = (((v.1 0 12).toInt) + (1 : Int)) + (1 : Int) := add_z z18 (show (1 : Int32).toInt = (1 : Int) by decide) (om_13df27bb56 zw) (om_d9744998dd zw)
    have hP : va_P (dC, dI) vwCl (mW ad N cI cZ cJ (wA (wA (wA (wA (wA (wA (wA v 13 ((v.1 0 15).toNatClampNeg) (0 : Int32)) 14 ((v.1 0 15).toNatClampNeg) pa) 0 15 ((v.1 0 15) + (1 : Int32))) 11 ((v.1 0 12).toNatClampNeg) r14) 0 12 ((v.1 0 12) + (1 : Int32))) 11 (((v.1 0 12) + (1 : Int32)).toNatClampNeg) r24) 0 12 (((v.1 0 12) + (1 : Int32)) + (1 : Int32)))) H := hP
    have hD : va_D A (mW ad N cI cZ cJ (wA (wA (wA (wA (wA (wA (wA v 13 ((v.1 0 15).toNatClampNeg) (0 : Int32)) 14 ((v.1 0 15).toNatClampNeg) pa) 0 15 ((v.1 0 15) + (1 : Int32))) 11 ((v.1 0 12).toNatClampNeg) r14) 0 12 ((v.1 0 12) + (1 : Int32))) 11 (((v.1 0 12) + (1 : Int32)).toNatClampNeg) r24) 0 12 (((v.1 0 12) + (1 : Int32)) + (1 : Int32)))) := hD
    refine tp_i (y := ((v.1 0 12) + (1 : Int32))) (rfl) ?_
    refine W.widen (k := 0) (n := 0) (Nat.le_refl _) (Nat.le_refl _) ?_
    refine lv_pop hx hb dX13_loads_65 rfl ?_
    exact W.vret hx hb hr (fun t ht9 hW => ⟨⟨(wA (wA (wA (wA (wA (wA (wA v 13 ((v.1 0 15).toNatClampNeg) (0 : Int32)) 14 ((v.1 0 15).toNatClampNeg) pa) 0 15 ((v.1 0 15) + (1 : Int32))) 11 ((v.1 0 12).toNatClampNeg) r14) 0 12 ((v.1 0 12) + (1 : Int32))) 11 (((v.1 0 12) + (1 : Int32)).toNatClampNeg) r24) 0 12 (((v.1 0 12) + (1 : Int32)) + (1 : Int32))), rfl, ⟨(FG.f (FG.a (FG.f (FG.a (FG.f (FG.a (FG.a (FG.rf _) ((v.1 0 15).toNatClampNeg) (0 : Int32) (by decide) (by decide)) ((v.1 0 15).toNatClampNeg) pa (by decide) (by decide)) ((v.1 0 15) + (1 : Int32)) (by decide)) ((v.1 0 12).toNatClampNeg) r14 (by decide) (by decide)) ((v.1 0 12) + (1 : Int32)) (by decide)) (((v.1 0 12) + (1 : Int32)).toNatClampNeg) r24 (by decide) (by decide)) (((v.1 0 12) + (1 : Int32)) + (1 : Int32)) (by decide)), ⟨zw, zo, (Or.inl ⟨z8, r11, ex9, r14, ex12, r21, ex19, r24, ex22, rfl⟩)⟩, (show (v.1 0 12).toInt ≤ (((v.1 0 12) + (1 : Int32)) + (1 : Int32)).toInt ∧ (((v.1 0 12) + (1 : Int32)) + (1 : Int32)).toInt ≤ (v.1 0 12).toInt + 2 from (om_8eef6f3bb2 z28)), (show ((v.1 0 15) + (1 : Int32)).toInt = (v.1 0 15).toInt + 1 from (om_5bccfc38cf z5)), (fun (j9 : Nat) hj9 => (Eq.trans (pk_un3 (a := ((v.1 0 12) + (1 : Int32)).toInt) rfl (om_0f6ec7af46 zw z18) (om_56bf42079b z18 hj9)) (pk_un3 (a := (v.1 0 12).toInt) rfl (om_4842074e86 zw) (om_4fe904e9bf hj9)))), (fun (j9 : Nat) hj9 => (pk_un3 (a := (v.1 0 15).toInt) rfl (om_2ab3f6b9f5 zo) (om_4fe904e9bf hj9))), (fun (j9 : Nat) hj9 => (pk_un3 (a := (v.1 0 15).toInt) rfl (om_2ab3f6b9f5 zo) (om_4fe904e9bf hj9))), (SGE.mono (SGE.setB sg6 rfl) (show (1 : Int) ≤ (1 : Int) from om_007919dbf5))⟩, by rw [ht9]; exact hP, hD⟩, hS.F ht9⟩) hS.2.2 dX13_loads_66
  · have z29 : (-2048 : Int) ≤ pa.toInt := nlt_z rfl (show ((-2048) : Int32).toInt = (-2048 : Int) by decide) h7
    refine lv_iload_n hx hb dX13_loads_14 rfl (lv_at hl 1 rfl) ?_
    refine lv_sipush (v := 2047) hx hb dX13_loads_15 (by decide) ?_
    refine lv_icmp_gt (tgt := 36) hx hb dX13_loads_18 (by decide) (fun h30 => ?_) (fun h30 => ?_)
    · have z31 : (2047 : Int) < pa.toInt := lt_z (show (2047 : Int32).toInt = (2047 : Int) by decide) rfl h30
      refine lv_aload_n hx hb dX13_loads_36 rfl (lv_at hl 0 rfl) ?_
      refine lv_bipush (v := 10) hx hb dX13_loads_37 (by decide) ?_
      refine lv_iload_n hx hb dX13_loads_39 rfl (lv_at hl 1 rfl) ?_
      refine cu_s (mW_nd _ _ _ _ _ _) (rn_S (n := 1) (As := [.int pa]) (rest := [.int 10, .ref (ad 0)]) hx hb hml hown ht hKK hFx hP hD hS hA (c_m_hi l dC dI cI cB cZ cJ cR tb H.size pa ) tw_0 tw_1 (by decide +kernel) rfl rfl ⟨Nat.le_of_ble_eq_true rfl, Nat.le_of_ble_eq_true rfl⟩ [] rfl rfl rfl hl.1 rfl (Nat.le_of_ble_eq_true rfl) dX13_loads_40 ⟨Nat.le_of_ble_eq_true rfl, Nat.le_of_ble_eq_true rfl⟩) hP hD hS hA (fun r34 H locs hw32 hP hD hS => ?_)
      have ex32 := hw32
      refine W.widen (k := 0) (n := 0) (Nat.le_refl _) (Nat.le_refl _) ?_
      refine cu_s (mW_nd _ _ _ _ _ _) (rn_S (n := 2) (As := [.int 10, .int r34]) (rest := [.ref (ad 0)]) hx hb hml hown ht hKK hFx hP hD hS hA (c_m_lui l dC dI cI cB cZ cJ cR tb H.size (10 : Int32) r34 ) tw_61 tw_62 (by decide +kernel) rfl rfl ⟨Nat.le_of_ble_eq_true rfl, Nat.le_of_ble_eq_true rfl⟩ [] rfl rfl rfl hl.1 rfl (Nat.le_of_ble_eq_true rfl) dX13_loads_43 ⟨Nat.le_of_ble_eq_true rfl, Nat.le_of_ble_eq_true rfl⟩) hP hD hS hA (fun r37 H locs hw35 hP hD hS => ?_)
      have ex35 := hw35
      refine W.widen (k := 0) (n := 0) (Nat.le_refl _) (Nat.le_refl _) ?_
      refine cu_i (rn_V (n := 1) (As := [.int r37]) (rest := []) hx hb hml hown ht hKK hFx hP hD hS hA (c_m_emit l dC dI cI cB cZ cJ cR tb H.size ad N (wA (wA (wA v 13 ((v.1 0 15).toNatClampNeg) (0 : Int32)) 14 ((v.1 0 15).toNatClampNeg) pa) 0 15 ((v.1 0 15) + (1 : Int32))) r37 (show 0 ≤ (v.1 0 12).toInt ∧ (v.1 0 12).toInt < 24000 from (om_bd95b2e5c4 zw))) tw_8 tw_9 (by decide +kernel) rfl rfl ⟨Nat.le_of_ble_eq_true rfl, Nat.le_of_ble_eq_true rfl⟩ (List.range (mW ad N cI cZ cJ (wA (wA (wA v 13 ((v.1 0 15).toNatClampNeg) (0 : Int32)) 14 ((v.1 0 15).toNatClampNeg) pa) 0 15 ((v.1 0 15) + (1 : Int32)))).length) (rg_map _) (mW_nd _ _ _ _ _ _) rfl rfl rfl rfl hl.1 rfl (Nat.le_of_ble_eq_true rfl) dX13_loads_46 ⟨Nat.le_of_ble_eq_true rfl, Nat.le_of_ble_eq_true rfl⟩) hP hD hS hA (fun r40 u39 H locs hw38 hP hD hS => ?_)
      obtain ⟨rfl, rfl⟩ := hw38
      have z41 : ((v.1 0 12) + (1 : Int32)).toInt = ((v.1 0 12).toInt) + (1 : Int) := add_z rfl (show (1 : Int32).toInt = (1 : Int) by decide) (om_6650f37474 zw) (om_8ddb6642ab zw)
      have hP : va_P (dC, dI) vwCl (mW ad N cI cZ cJ (wA (wA (wA (wA (wA v 13 ((v.1 0 15).toNatClampNeg) (0 : Int32)) 14 ((v.1 0 15).toNatClampNeg) pa) 0 15 ((v.1 0 15) + (1 : Int32))) 11 ((v.1 0 12).toNatClampNeg) r37) 0 12 ((v.1 0 12) + (1 : Int32)))) H := hP
      have hD : va_D A (mW ad N cI cZ cJ (wA (wA (wA (wA (wA v 13 ((v.1 0 15).toNatClampNeg) (0 : Int32)) 14 ((v.1 0 15).toNatClampNeg) pa) 0 15 ((v.1 0 15) + (1 : Int32))) 11 ((v.1 0 12).toNatClampNeg) r37) 0 12 ((v.1 0 12) + (1 : Int32)))) := hD
      refine tp_i (y := (v.1 0 12)) (rfl) ?_
      refine W.widen (k := 0) (n := 0) (Nat.le_refl _) (Nat.le_refl _) ?_
      refine lv_pop hx hb dX13_loads_49 rfl ?_
      refine lv_aload_n hx hb dX13_loads_50 rfl (lv_at hl 0 rfl) ?_
      refine lv_bipush (v := 10) hx hb dX13_loads_51 (by decide) ?_
      refine lv_bipush (v := 10) hx hb dX13_loads_53 (by decide) ?_
      refine lv_iload_n hx hb dX13_loads_55 rfl (lv_at hl 1 rfl) ?_
      refine cu_s (mW_nd _ _ _ _ _ _) (rn_S (n := 1) (As := [.int pa]) (rest := [.int 10, .int 10, .ref (ad 0)]) hx hb hml hown ht hKK hFx hP hD hS hA (c_m_lo l dC dI cI cB cZ cJ cR tb H.size pa ) tw_63 tw_64 (by decide +kernel) rfl rfl ⟨Nat.le_of_ble_eq_true rfl, Nat.le_of_ble_eq_true rfl⟩ [] rfl rfl rfl hl.1 rfl (Nat.le_of_ble_eq_true rfl) dX13_loads_56 ⟨Nat.le_of_ble_eq_true rfl, Nat.le_of_ble_eq_true rfl⟩) hP hD hS hA (fun r44 H locs hw42 hP hD hS => ?_)
      have ex42 := hw42
      refine W.widen (k := 0) (n := 0) (Nat.le_refl _) (Nat.le_refl _) ?_
      refine cu_s (mW_nd _ _ _ _ _ _) (rn_S (n := 3) (As := [.int 10, .int 10, .int r44]) (rest := [.ref (ad 0)]) hx hb hml hown ht hKK hFx hP hD hS hA (c_m_addi l dC dI cI cB cZ cJ cR tb H.size (10 : Int32) (10 : Int32) r44 ) tw_65 tw_66 (by decide +kernel) rfl rfl ⟨Nat.le_of_ble_eq_true rfl, Nat.le_of_ble_eq_true rfl⟩ [] rfl rfl rfl hl.1 rfl (Nat.le_of_ble_eq_true rfl) dX13_loads_59 ⟨Nat.le_of_ble_eq_true rfl, Nat.le_of_ble_eq_true rfl⟩) hP hD hS hA (fun r47 H locs hw45 hP hD hS => ?_)
      have ex45 := hw45
      refine W.widen (k := 0) (n := 0) (Nat.le_refl _) (Nat.le_refl _) ?_
      refine cu_i (rn_V (n := 1) (As := [.int r47]) (rest := []) hx hb hml hown ht hKK hFx hP hD hS hA (c_m_emit l dC dI cI cB cZ cJ cR tb H.size ad N (wA (wA (wA (wA (wA v 13 ((v.1 0 15).toNatClampNeg) (0 : Int32)) 14 ((v.1 0 15).toNatClampNeg) pa) 0 15 ((v.1 0 15) + (1 : Int32))) 11 ((v.1 0 12).toNatClampNeg) r37) 0 12 ((v.1 0 12) + (1 : Int32))) r47 (show 0 ≤ ((v.1 0 12) + (1 : Int32)).toInt ∧ ((v.1 0 12) + (1 : Int32)).toInt < 24000 from (om_d1ed3ade5a zw z41))) tw_8 tw_9 (by decide +kernel) rfl rfl ⟨Nat.le_of_ble_eq_true rfl, Nat.le_of_ble_eq_true rfl⟩ (List.range (mW ad N cI cZ cJ (wA (wA (wA (wA (wA v 13 ((v.1 0 15).toNatClampNeg) (0 : Int32)) 14 ((v.1 0 15).toNatClampNeg) pa) 0 15 ((v.1 0 15) + (1 : Int32))) 11 ((v.1 0 12).toNatClampNeg) r37) 0 12 ((v.1 0 12) + (1 : Int32)))).length) (rg_map _) (mW_nd _ _ _ _ _ _) rfl rfl rfl rfl hl.1 rfl (Nat.le_of_ble_eq_true rfl) dX13_loads_62 ⟨Nat.le_of_ble_eq_true rfl, Nat.le_of_ble_eq_true rfl⟩) hP hD hS hA (fun r50 u49 H locs hw48 hP hD hS => ?_)
      obtain ⟨rfl, rfl⟩ := hw48
      have z51 : (((v.1 0 12) + (1 : Int32)) + (1 : Int32)).toInt = (((v.1 0 12).toInt) + (1 : Int)) + (1 : Int) := add_z z41 (show (1 : Int32).toInt = (1 : Int) by decide) (om_13df27bb56 zw) (om_d9744998dd zw)
      have hP : va_P (dC, dI) vwCl (mW ad N cI cZ cJ (wA (wA (wA (wA (wA (wA (wA v 13 ((v.1 0 15).toNatClampNeg) (0 : Int32)) 14 ((v.1 0 15).toNatClampNeg) pa) 0 15 ((v.1 0 15) + (1 : Int32))) 11 ((v.1 0 12).toNatClampNeg) r37) 0 12 ((v.1 0 12) + (1 : Int32))) 11 (((v.1 0 12) + (1 : Int32)).toNatClampNeg) r47) 0 12 (((v.1 0 12) + (1 : Int32)) + (1 : Int32)))) H := hP
      have hD : va_D A (mW ad N cI cZ cJ (wA (wA (wA (wA (wA (wA (wA v 13 ((v.1 0 15).toNatClampNeg) (0 : Int32)) 14 ((v.1 0 15).toNatClampNeg) pa) 0 15 ((v.1 0 15) + (1 : Int32))) 11 ((v.1 0 12).toNatClampNeg) r37) 0 12 ((v.1 0 12) + (1 : Int32))) 11 (((v.1 0 12) + (1 : Int32)).toNatClampNeg) r47) 0 12 (((v.1 0 12) + (1 : Int32)) + (1 : Int32)))) := hD
      refine tp_i (y := ((v.1 0 12) + (1 : Int32))) (rfl) ?_
      refine W.widen (k := 0) (n := 0) (Nat.le_refl _) (Nat.le_refl _) ?_
      refine lv_pop hx hb dX13_loads_65 rfl ?_
      exact W.vret hx hb hr (fun t ht9 hW => ⟨⟨(wA (wA (wA (wA (wA (wA (wA v 13 ((v.1 0 15).toNatClampNeg) (0 : Int32)) 14 ((v.1 0 15).toNatClampNeg) pa) 0 15 ((v.1 0 15) + (1 : Int32))) 11 ((v.1 0 12).toNatClampNeg) r37) 0 12 ((v.1 0 12) + (1 : Int32))) 11 (((v.1 0 12) + (1 : Int32)).toNatClampNeg) r47) 0 12 (((v.1 0 12) + (1 : Int32)) + (1 : Int32))), rfl, ⟨(FG.f (FG.a (FG.f (FG.a (FG.f (FG.a (FG.a (FG.rf _) ((v.1 0 15).toNatClampNeg) (0 : Int32) (by decide) (by decide)) ((v.1 0 15).toNatClampNeg) pa (by decide) (by decide)) ((v.1 0 15) + (1 : Int32)) (by decide)) ((v.1 0 12).toNatClampNeg) r37 (by decide) (by decide)) ((v.1 0 12) + (1 : Int32)) (by decide)) (((v.1 0 12) + (1 : Int32)).toNatClampNeg) r47 (by decide) (by decide)) (((v.1 0 12) + (1 : Int32)) + (1 : Int32)) (by decide)), ⟨zw, zo, (Or.inr (⟨z29, (Or.inl ⟨z31, r34, ex32, r37, ex35, r44, ex42, r47, ex45, rfl⟩)⟩))⟩, (show (v.1 0 12).toInt ≤ (((v.1 0 12) + (1 : Int32)) + (1 : Int32)).toInt ∧ (((v.1 0 12) + (1 : Int32)) + (1 : Int32)).toInt ≤ (v.1 0 12).toInt + 2 from (om_8eef6f3bb2 z51)), (show ((v.1 0 15) + (1 : Int32)).toInt = (v.1 0 15).toInt + 1 from (om_5bccfc38cf z5)), (fun (j9 : Nat) hj9 => (Eq.trans (pk_un3 (a := ((v.1 0 12) + (1 : Int32)).toInt) rfl (om_0f6ec7af46 zw z41) (om_56bf42079b z41 hj9)) (pk_un3 (a := (v.1 0 12).toInt) rfl (om_4842074e86 zw) (om_4fe904e9bf hj9)))), (fun (j9 : Nat) hj9 => (pk_un3 (a := (v.1 0 15).toInt) rfl (om_2ab3f6b9f5 zo) (om_4fe904e9bf hj9))), (fun (j9 : Nat) hj9 => (pk_un3 (a := (v.1 0 15).toInt) rfl (om_2ab3f6b9f5 zo) (om_4fe904e9bf hj9))), (SGE.mono (SGE.setB sg6 rfl) (show (1 : Int) ≤ (1 : Int) from om_007919dbf5))⟩, by rw [ht9]; exact hP, hD⟩, hS.F ht9⟩) hS.2.2 dX13_loads_66
    · have z52 : pa.toInt ≤ (2047 : Int) := nlt_z (show (2047 : Int32).toInt = (2047 : Int) by decide) rfl h30
      refine lv_aload_n hx hb dX13_loads_21 rfl (lv_at hl 0 rfl) ?_
      refine lv_bipush (v := 10) hx hb dX13_loads_22 (by decide) ?_
      refine lv_iconst (v := 0) hx hb dX13_loads_24 (by decide) ?_
      refine lv_iload_n hx hb dX13_loads_25 rfl (lv_at hl 1 rfl) ?_
      refine cu_s (mW_nd _ _ _ _ _ _) (rn_S (n := 3) (As := [.int 10, .int 0, .int pa]) (rest := [.ref (ad 0)]) hx hb hml hown ht hKK hFx hP hD hS hA (c_m_addi l dC dI cI cB cZ cJ cR tb H.size (10 : Int32) (0 : Int32) pa ) tw_65 tw_66 (by decide +kernel) rfl rfl ⟨Nat.le_of_ble_eq_true rfl, Nat.le_of_ble_eq_true rfl⟩ [] rfl rfl rfl hl.1 rfl (Nat.le_of_ble_eq_true rfl) dX13_loads_26 ⟨Nat.le_of_ble_eq_true rfl, Nat.le_of_ble_eq_true rfl⟩) hP hD hS hA (fun r55 H locs hw53 hP hD hS => ?_)
      have ex53 := hw53
      refine W.widen (k := 0) (n := 0) (Nat.le_refl _) (Nat.le_refl _) ?_
      refine cu_i (rn_V (n := 1) (As := [.int r55]) (rest := []) hx hb hml hown ht hKK hFx hP hD hS hA (c_m_emit l dC dI cI cB cZ cJ cR tb H.size ad N (wA (wA (wA v 13 ((v.1 0 15).toNatClampNeg) (0 : Int32)) 14 ((v.1 0 15).toNatClampNeg) pa) 0 15 ((v.1 0 15) + (1 : Int32))) r55 (show 0 ≤ (v.1 0 12).toInt ∧ (v.1 0 12).toInt < 24000 from (om_bd95b2e5c4 zw))) tw_8 tw_9 (by decide +kernel) rfl rfl ⟨Nat.le_of_ble_eq_true rfl, Nat.le_of_ble_eq_true rfl⟩ (List.range (mW ad N cI cZ cJ (wA (wA (wA v 13 ((v.1 0 15).toNatClampNeg) (0 : Int32)) 14 ((v.1 0 15).toNatClampNeg) pa) 0 15 ((v.1 0 15) + (1 : Int32)))).length) (rg_map _) (mW_nd _ _ _ _ _ _) rfl rfl rfl rfl hl.1 rfl (Nat.le_of_ble_eq_true rfl) dX13_loads_29 ⟨Nat.le_of_ble_eq_true rfl, Nat.le_of_ble_eq_true rfl⟩) hP hD hS hA (fun r58 u57 H locs hw56 hP hD hS => ?_)
      obtain ⟨rfl, rfl⟩ := hw56
      have z59 : ((v.1 0 12) + (1 : Int32)).toInt = ((v.1 0 12).toInt) + (1 : Int) := add_z rfl (show (1 : Int32).toInt = (1 : Int) by decide) (om_6650f37474 zw) (om_8ddb6642ab zw)
      have hP : va_P (dC, dI) vwCl (mW ad N cI cZ cJ (wA (wA (wA (wA (wA v 13 ((v.1 0 15).toNatClampNeg) (0 : Int32)) 14 ((v.1 0 15).toNatClampNeg) pa) 0 15 ((v.1 0 15) + (1 : Int32))) 11 ((v.1 0 12).toNatClampNeg) r55) 0 12 ((v.1 0 12) + (1 : Int32)))) H := hP
      have hD : va_D A (mW ad N cI cZ cJ (wA (wA (wA (wA (wA v 13 ((v.1 0 15).toNatClampNeg) (0 : Int32)) 14 ((v.1 0 15).toNatClampNeg) pa) 0 15 ((v.1 0 15) + (1 : Int32))) 11 ((v.1 0 12).toNatClampNeg) r55) 0 12 ((v.1 0 12) + (1 : Int32)))) := hD
      refine tp_i (y := (v.1 0 12)) (rfl) ?_
      refine W.widen (k := 0) (n := 0) (Nat.le_refl _) (Nat.le_refl _) ?_
      refine lv_pop hx hb dX13_loads_32 rfl ?_
      refine lv_goto (tgt := 66) hx hb dX13_loads_33 (by decide) ?_
      exact W.vret hx hb hr (fun t ht9 hW => ⟨⟨(wA (wA (wA (wA (wA v 13 ((v.1 0 15).toNatClampNeg) (0 : Int32)) 14 ((v.1 0 15).toNatClampNeg) pa) 0 15 ((v.1 0 15) + (1 : Int32))) 11 ((v.1 0 12).toNatClampNeg) r55) 0 12 ((v.1 0 12) + (1 : Int32))), rfl, ⟨(FG.f (FG.a (FG.f (FG.a (FG.a (FG.rf _) ((v.1 0 15).toNatClampNeg) (0 : Int32) (by decide) (by decide)) ((v.1 0 15).toNatClampNeg) pa (by decide) (by decide)) ((v.1 0 15) + (1 : Int32)) (by decide)) ((v.1 0 12).toNatClampNeg) r55 (by decide) (by decide)) ((v.1 0 12) + (1 : Int32)) (by decide)), ⟨zw, zo, (Or.inr (⟨z29, (Or.inr (⟨z52, r55, ex53, rfl⟩))⟩))⟩, (show (v.1 0 12).toInt ≤ ((v.1 0 12) + (1 : Int32)).toInt ∧ ((v.1 0 12) + (1 : Int32)).toInt ≤ (v.1 0 12).toInt + 2 from (om_94fe09417a z59)), (show ((v.1 0 15) + (1 : Int32)).toInt = (v.1 0 15).toInt + 1 from (om_5bccfc38cf z5)), (fun (j9 : Nat) hj9 => (pk_un3 (a := (v.1 0 12).toInt) rfl (om_4842074e86 zw) (om_4fe904e9bf hj9))), (fun (j9 : Nat) hj9 => (pk_un3 (a := (v.1 0 15).toInt) rfl (om_2ab3f6b9f5 zo) (om_4fe904e9bf hj9))), (fun (j9 : Nat) hj9 => (pk_un3 (a := (v.1 0 15).toInt) rfl (om_2ab3f6b9f5 zo) (om_4fe904e9bf hj9))), (SGE.mono (SGE.setB sg6 rfl) (show (1 : Int) ≤ (1 : Int) from om_007919dbf5))⟩, by rw [ht9]; exact hP, hD⟩, hS.F ht9⟩) hS.2.2 dX13_loads_66
