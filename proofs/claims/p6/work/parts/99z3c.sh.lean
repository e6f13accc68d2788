theorem xdX4_kindOf_0 : decode cX4_kindOf 0 = .ok (.iload_n 0, 1) := by decide +kernel
theorem xdX4_kindOf_1 : decode cX4_kindOf 1 = .ok (.bipush 12, 2) := by decide +kernel
theorem xdX4_kindOf_3 : decode cX4_kindOf 3 = .ok (.iushr, 1) := by decide +kernel
theorem xdX4_kindOf_4 : decode cX4_kindOf 4 = .ok (.bipush 7, 2) := by decide +kernel
theorem xdX4_kindOf_6 : decode cX4_kindOf 6 = .ok (.iand, 1) := by decide +kernel
theorem xdX4_kindOf_7 : decode cX4_kindOf 7 = .ok (.istore_n 1, 1) := by decide +kernel
theorem xdX4_kindOf_8 : decode cX4_kindOf 8 = .ok (.iload_n 0, 1) := by decide +kernel
theorem xdX4_kindOf_9 : decode cX4_kindOf 9 = .ok (.bipush 127, 2) := by decide +kernel
theorem xdX4_kindOf_11 : decode cX4_kindOf 11 = .ok (.iand, 1) := by decide +kernel
theorem xdX4_kindOf_12 : decode cX4_kindOf 12 = .ok (.lookupswitch 190 #[(3, 123), (15, 153), (19, 135), (23, 102), (35, 129), (51, 144), (55, 100), (99, 117), (103, 106), (111, 104), (115, 165)], 100) := by decide +kernel
theorem xdX4_kindOf_135 : decode cX4_kindOf 135 = .ok (.getstatic 13, 3) := by decide +kernel
theorem xw_91 : (.fieldLink RX4 13 "PocketCompiler$Instruction" "LOADS" "[I" : Cond) ∈ tw_W := tw_in (t8_6 (List.mem_of_getElem? (i := 52) rfl)) rfl
theorem xdX4_kindOf_138 : decode cX4_kindOf 138 = .ok (.iload_n 1, 1) := by decide +kernel
theorem xdX4_kindOf_139 : decode cX4_kindOf 139 = .ok (.iaload, 1) := by decide +kernel
theorem xdX4_kindOf_140 : decode cX4_kindOf 140 = .ok (.ireturn, 1) := by decide +kernel
theorem xdX4_kindOf_165 : decode cX4_kindOf 165 = .ok (.iload_n 1, 1) := by decide +kernel
theorem xdX4_kindOf_166 : decode cX4_kindOf 166 = .ok (.ifCond .ne 8, 3) := by decide +kernel
theorem xdX4_kindOf_174 : decode cX4_kindOf 174 = .ok (.bipush 40, 2) := by decide +kernel
theorem xdX4_kindOf_176 : decode cX4_kindOf 176 = .ok (.ireturn, 1) := by decide +kernel
theorem xdX4_kindOf_169 : decode cX4_kindOf 169 = .ok (.bipush 37, 2) := by decide +kernel
theorem xdX4_kindOf_171 : decode cX4_kindOf 171 = .ok (.goto 5, 3) := by decide +kernel
theorem xdX4_kindOf_147 : decode cX4_kindOf 147 = .ok (.iload_n 1, 1) := by decide +kernel
theorem xdX4_kindOf_148 : decode cX4_kindOf 148 = .ok (.iload_n 0, 1) := by decide +kernel
theorem xdX4_kindOf_149 : decode cX4_kindOf 149 = .ok (.bipush 25, 2) := by decide +kernel
theorem xdX4_kindOf_151 : decode cX4_kindOf 151 = .ok (.iushr, 1) := by decide +kernel
theorem xdX4_kindOf_152 : decode cX4_kindOf 152 = .ok (.invokestatic 19, 3) := by decide +kernel
theorem xdX4_numberedKind_0 : decode cX4_numberedKind 0 = .ok (.iload_n 0, 1) := by decide +kernel
theorem xdX4_numberedKind_1 : decode cX4_numberedKind 1 = .ok (.iconst 1, 1) := by decide +kernel
theorem xdX4_numberedKind_2 : decode cX4_numberedKind 2 = .ok (.if_icmp .eq 8, 3) := by decide +kernel
theorem xdX4_numberedKind_10 : decode cX4_numberedKind 10 = .ok (.iconst 1, 1) := by decide +kernel
theorem xdX4_numberedKind_11 : decode cX4_numberedKind 11 = .ok (.goto 4, 3) := by decide +kernel
theorem xdX4_numberedKind_15 : decode cX4_numberedKind 15 = .ok (.istore_n 2, 1) := by decide +kernel
theorem xdX4_numberedKind_16 : decode cX4_numberedKind 16 = .ok (.iload_n 2, 1) := by decide +kernel
theorem xdX4_numberedKind_17 : decode cX4_numberedKind 17 = .ok (.ifCond .eq 7, 3) := by decide +kernel
theorem xdX4_numberedKind_20 : decode cX4_numberedKind 20 = .ok (.iload_n 1, 1) := by decide +kernel
theorem xdX4_numberedKind_21 : decode cX4_numberedKind 21 = .ok (.ifCond .ne 12, 3) := by decide +kernel
theorem xdX4_numberedKind_33 : decode cX4_numberedKind 33 = .ok (.iload_n 0, 1) := by decide +kernel
theorem xdX4_numberedKind_34 : decode cX4_numberedKind 34 = .ok (.iconst 5, 1) := by decide +kernel
theorem xdX4_numberedKind_35 : decode cX4_numberedKind 35 = .ok (.if_icmp .ne 14, 3) := by decide +kernel
theorem xdX4_numberedKind_49 : decode cX4_numberedKind 49 = .ok (.bipush 40, 2) := by decide +kernel
theorem xdX4_numberedKind_51 : decode cX4_numberedKind 51 = .ok (.ireturn, 1) := by decide +kernel
theorem xdX4_numberedKind_24 : decode cX4_numberedKind 24 = .ok (.getstatic 27, 3) := by decide +kernel
theorem xw_92 : (.fieldLink RX4 27 "PocketCompiler$Instruction" "NUMBERED" "[I" : Cond) ∈ tw_W := tw_in (t8_6 (List.mem_of_getElem? (i := 59) rfl)) rfl
theorem xdX4_numberedKind_27 : decode cX4_numberedKind 27 = .ok (.iload_n 0, 1) := by decide +kernel
theorem xdX4_numberedKind_28 : decode cX4_numberedKind 28 = .ok (.bipush 7, 2) := by decide +kernel
theorem xdX4_numberedKind_30 : decode cX4_numberedKind 30 = .ok (.iand, 1) := by decide +kernel
theorem xdX4_numberedKind_31 : decode cX4_numberedKind 31 = .ok (.iaload, 1) := by decide +kernel
theorem xdX4_numberedKind_32 : decode cX4_numberedKind 32 = .ok (.ireturn, 1) := by decide +kernel
theorem xdX4_numberedKind_5 : decode cX4_numberedKind 5 = .ok (.iload_n 0, 1) := by decide +kernel
theorem xdX4_numberedKind_6 : decode cX4_numberedKind 6 = .ok (.iconst 5, 1) := by decide +kernel
theorem xdX4_numberedKind_7 : decode cX4_numberedKind 7 = .ok (.if_icmp .ne 7, 3) := by decide +kernel
theorem xdX4_numberedKind_14 : decode cX4_numberedKind 14 = .ok (.iconst 0, 1) := by decide +kernel
theorem xdX4_numberedKind_38 : decode cX4_numberedKind 38 = .ok (.iload_n 1, 1) := by decide +kernel
theorem xdX4_numberedKind_39 : decode cX4_numberedKind 39 = .ok (.bipush 32, 2) := by decide +kernel
theorem xdX4_numberedKind_41 : decode cX4_numberedKind 41 = .ok (.if_icmp .ne 8, 3) := by decide +kernel
theorem xdX4_numberedKind_44 : decode cX4_numberedKind 44 = .ok (.bipush 26, 2) := by decide +kernel
theorem xdX4_numberedKind_46 : decode cX4_numberedKind 46 = .ok (.goto 5, 3) := by decide +kernel
theorem xw_93 : (.code yX4_numberedKind cX4_numberedKind 3 (some .int) : Cond) ∈ tw_W := tw_in (t8_6 (List.mem_of_getElem? (i := 58) rfl)) rfl
theorem xw_94 : ∀ w ∈ ([.methodLink RX4 19 yX4_numberedKind, .static yX4_numberedKind, .initialized yX4_numberedKind.cls] : List Cond), w ∈ tw_W := al_c (tw_in (t8_6 (List.mem_of_getElem? (i := 56) rfl)) rfl) (al_c (tw_in (t8_6 (List.mem_of_getElem? (i := 57) rfl)) rfl) (al_c (tw_in (t8_1 (List.mem_of_getElem? (i := 29) rfl)) rfl) al_n))
theorem xdX4_kindOf_155 : decode cX4_kindOf 155 = .ok (.ireturn, 1) := by decide +kernel
theorem xdX4_kindOf_114 : decode cX4_kindOf 114 = .ok (.iconst 1, 1) := by decide +kernel
theorem xdX4_kindOf_115 : decode cX4_kindOf 115 = .ok (.ireturn, 1) := by decide +kernel
theorem xdX4_kindOf_141 : decode cX4_kindOf 141 = .ok (.getstatic 16, 3) := by decide +kernel
theorem xw_95 : (.fieldLink RX4 16 "PocketCompiler$Instruction" "STORES" "[I" : Cond) ∈ tw_W := tw_in (t8_6 (List.mem_of_getElem? (i := 54) rfl)) rfl
theorem xdX4_kindOf_144 : decode cX4_kindOf 144 = .ok (.iload_n 1, 1) := by decide +kernel
theorem xdX4_kindOf_145 : decode cX4_kindOf 145 = .ok (.iaload, 1) := by decide +kernel
theorem xdX4_kindOf_146 : decode cX4_kindOf 146 = .ok (.ireturn, 1) := by decide +kernel
theorem xdX4_kindOf_156 : decode cX4_kindOf 156 = .ok (.iload_n 1, 1) := by decide +kernel
theorem xdX4_kindOf_157 : decode cX4_kindOf 157 = .ok (.iload_n 0, 1) := by decide +kernel
theorem xdX4_kindOf_158 : decode cX4_kindOf 158 = .ok (.bipush 25, 2) := by decide +kernel
theorem xdX4_kindOf_160 : decode cX4_kindOf 160 = .ok (.iushr, 1) := by decide +kernel
theorem xdX4_kindOf_161 : decode cX4_kindOf 161 = .ok (.invokestatic 23, 3) := by decide +kernel
theorem xdX4_plainKind_0 : decode cX4_plainKind 0 = .ok (.iload_n 1, 1) := by decide +kernel
theorem xdX4_plainKind_1 : decode cX4_plainKind 1 = .ok (.ifCond .ne 12, 3) := by decide +kernel
theorem xdX4_plainKind_13 : decode cX4_plainKind 13 = .ok (.iload_n 1, 1) := by decide +kernel
theorem xdX4_plainKind_14 : decode cX4_plainKind 14 = .ok (.bipush 32, 2) := by decide +kernel
theorem xdX4_plainKind_16 : decode cX4_plainKind 16 = .ok (.if_icmp .eq 6, 3) := by decide +kernel
theorem xdX4_plainKind_22 : decode cX4_plainKind 22 = .ok (.iload_n 0, 1) := by decide +kernel
theorem xdX4_plainKind_23 : decode cX4_plainKind 23 = .ok (.ifCond .ne 8, 3) := by decide +kernel
theorem xdX4_plainKind_31 : decode cX4_plainKind 31 = .ok (.iload_n 0, 1) := by decide +kernel
theorem xdX4_plainKind_32 : decode cX4_plainKind 32 = .ok (.iconst 5, 1) := by decide +kernel
theorem xdX4_plainKind_33 : decode cX4_plainKind 33 = .ok (.if_icmp .ne 8, 3) := by decide +kernel
theorem xdX4_plainKind_41 : decode cX4_plainKind 41 = .ok (.bipush 40, 2) := by decide +kernel
theorem xdX4_plainKind_43 : decode cX4_plainKind 43 = .ok (.ireturn, 1) := by decide +kernel
theorem xdX4_plainKind_36 : decode cX4_plainKind 36 = .ok (.bipush 34, 2) := by decide +kernel
theorem xdX4_plainKind_38 : decode cX4_plainKind 38 = .ok (.goto 5, 3) := by decide +kernel
theorem xdX4_plainKind_26 : decode cX4_plainKind 26 = .ok (.bipush 28, 2) := by decide +kernel
theorem xdX4_plainKind_28 : decode cX4_plainKind 28 = .ok (.goto 15, 3) := by decide +kernel
theorem xdX4_plainKind_19 : decode cX4_plainKind 19 = .ok (.bipush 40, 2) := by decide +kernel
theorem xdX4_plainKind_21 : decode cX4_plainKind 21 = .ok (.ireturn, 1) := by decide +kernel
theorem xdX4_plainKind_4 : decode cX4_plainKind 4 = .ok (.getstatic 30, 3) := by decide +kernel
theorem xw_96 : (.fieldLink RX4 30 "PocketCompiler$Instruction" "PLAIN" "[I" : Cond) ∈ tw_W := tw_in (t8_6 (List.mem_of_getElem? (i := 64) rfl)) rfl
theorem xdX4_plainKind_7 : decode cX4_plainKind 7 = .ok (.iload_n 0, 1) := by decide +kernel
theorem xdX4_plainKind_8 : decode cX4_plainKind 8 = .ok (.bipush 7, 2) := by decide +kernel
theorem xdX4_plainKind_10 : decode cX4_plainKind 10 = .ok (.iand, 1) := by decide +kernel
theorem xdX4_plainKind_11 : decode cX4_plainKind 11 = .ok (.iaload, 1) := by decide +kernel
theorem xdX4_plainKind_12 : decode cX4_plainKind 12 = .ok (.ireturn, 1) := by decide +kernel
theorem xw_97 : (.code yX4_plainKind cX4_plainKind 2 (some .int) : Cond) ∈ tw_W := tw_in (t8_6 (List.mem_of_getElem? (i := 63) rfl)) rfl
theorem xw_98 : ∀ w ∈ ([.methodLink RX4 23 yX4_plainKind, .static yX4_plainKind, .initialized yX4_plainKind.cls] : List Cond), w ∈ tw_W := al_c (tw_in (t8_6 (List.mem_of_getElem? (i := 61) rfl)) rfl) (al_c (tw_in (t8_6 (List.mem_of_getElem? (i := 62) rfl)) rfl) (al_c (tw_in (t8_1 (List.mem_of_getElem? (i := 29) rfl)) rfl) al_n))
theorem xdX4_kindOf_164 : decode cX4_kindOf 164 = .ok (.ireturn, 1) := by decide +kernel
theorem xdX4_kindOf_112 : decode cX4_kindOf 112 = .ok (.iconst 0, 1) := by decide +kernel
theorem xdX4_kindOf_113 : decode cX4_kindOf 113 = .ok (.ireturn, 1) := by decide +kernel
theorem xdX4_kindOf_129 : decode cX4_kindOf 129 = .ok (.getstatic 9, 3) := by decide +kernel
theorem xw_99 : (.fieldLink RX4 9 "PocketCompiler$Instruction" "BRANCHES" "[I" : Cond) ∈ tw_W := tw_in (t8_6 (List.mem_of_getElem? (i := 50) rfl)) rfl
theorem xdX4_kindOf_132 : decode cX4_kindOf 132 = .ok (.iload_n 1, 1) := by decide +kernel
theorem xdX4_kindOf_133 : decode cX4_kindOf 133 = .ok (.iaload, 1) := by decide +kernel
theorem xdX4_kindOf_134 : decode cX4_kindOf 134 = .ok (.ireturn, 1) := by decide +kernel
theorem xdX4_kindOf_118 : decode cX4_kindOf 118 = .ok (.iload_n 1, 1) := by decide +kernel
theorem xdX4_kindOf_119 : decode cX4_kindOf 119 = .ok (.ifCond .ne 7, 3) := by decide +kernel
theorem xdX4_kindOf_126 : decode cX4_kindOf 126 = .ok (.bipush 40, 2) := by decide +kernel
theorem xdX4_kindOf_128 : decode cX4_kindOf 128 = .ok (.ireturn, 1) := by decide +kernel
theorem xdX4_kindOf_122 : decode cX4_kindOf 122 = .ok (.iconst 3, 1) := by decide +kernel
theorem xdX4_kindOf_123 : decode cX4_kindOf 123 = .ok (.goto 5, 3) := by decide +kernel
theorem xdX4_kindOf_116 : decode cX4_kindOf 116 = .ok (.iconst 2, 1) := by decide +kernel
theorem xdX4_kindOf_117 : decode cX4_kindOf 117 = .ok (.ireturn, 1) := by decide +kernel
theorem xdX4_kindOf_177 : decode cX4_kindOf 177 = .ok (.iload_n 0, 1) := by decide +kernel
theorem xdX4_kindOf_178 : decode cX4_kindOf 178 = .ok (.bipush 115, 2) := by decide +kernel
theorem xdX4_kindOf_180 : decode cX4_kindOf 180 = .ok (.if_icmp .ne 8, 3) := by decide +kernel
theorem xdX4_kindOf_188 : decode cX4_kindOf 188 = .ok (.iload_n 0, 1) := by decide +kernel
theorem xdX4_kindOf_189 : decode cX4_kindOf 189 = .ok (.ldc 26, 2) := by decide +kernel
theorem xw_100 : (.constant RX4 26 (1048691) : Cond) ∈ tw_W := tw_in (t8_6 (List.mem_of_getElem? (i := 66) rfl)) rfl
theorem xdX4_kindOf_191 : decode cX4_kindOf 191 = .ok (.if_icmp .ne 8, 3) := by decide +kernel
theorem xdX4_kindOf_199 : decode cX4_kindOf 199 = .ok (.bipush 40, 2) := by decide +kernel
theorem xdX4_kindOf_201 : decode cX4_kindOf 201 = .ok (.ireturn, 1) := by decide +kernel
theorem xdX4_kindOf_194 : decode cX4_kindOf 194 = .ok (.bipush 39, 2) := by decide +kernel
theorem xdX4_kindOf_196 : decode cX4_kindOf 196 = .ok (.goto 5, 3) := by decide +kernel
theorem xdX4_kindOf_183 : decode cX4_kindOf 183 = .ok (.bipush 38, 2) := by decide +kernel
theorem xdX4_kindOf_185 : decode cX4_kindOf 185 = .ok (.goto 16, 3) := by decide +kernel
theorem xdX4_kindOf_202 : decode cX4_kindOf 202 = .ok (.bipush 40, 2) := by decide +kernel
theorem xdX4_kindOf_204 : decode cX4_kindOf 204 = .ok (.ireturn, 1) := by decide +kernel
theorem xdX4_number_0 : decode cX4_number 0 = .ok (.iload_n 1, 1) := by decide +kernel
theorem xdX4_number_1 : decode cX4_number 1 = .ok (.ifCond .eq 8, 3) := by decide +kernel
theorem xdX4_number_9 : decode cX4_number 9 = .ok (.iload_n 0, 1) := by decide +kernel
theorem xdX4_number_10 : decode cX4_number 10 = .ok (.sipush (-4096), 3) := by decide +kernel
theorem xdX4_number_13 : decode cX4_number 13 = .ok (.iand, 1) := by decide +kernel
theorem xdX4_number_14 : decode cX4_number 14 = .ok (.ireturn, 1) := by decide +kernel
theorem xdX4_number_4 : decode cX4_number 4 = .ok (.iload_n 1, 1) := by decide +kernel
theorem xdX4_number_5 : decode cX4_number 5 = .ok (.iconst 1, 1) := by decide +kernel
theorem xdX4_number_6 : decode cX4_number 6 = .ok (.if_icmp .ne 9, 3) := by decide +kernel
theorem xdX4_number_15 : decode cX4_number 15 = .ok (.iload_n 1, 1) := by decide +kernel
theorem xdX4_number_16 : decode cX4_number 16 = .ok (.iconst 2, 1) := by decide +kernel
theorem xdX4_number_17 : decode cX4_number 17 = .ok (.if_icmp .ne 44, 3) := by decide +kernel
theorem xdX4_number_61 : decode cX4_number 61 = .ok (.iload_n 1, 1) := by decide +kernel
theorem xdX4_number_62 : decode cX4_number 62 = .ok (.iconst 4, 1) := by decide +kernel
theorem xdX4_number_63 : decode cX4_number 63 = .ok (.if_icmp .lt 47, 3) := by decide +kernel
theorem xdX4_number_110 : decode cX4_number 110 = .ok (.iload_n 1, 1) := by decide +kernel
theorem xdX4_number_111 : decode cX4_number 111 = .ok (.bipush 15, 2) := by decide +kernel
theorem xdX4_number_113 : decode cX4_number 113 = .ok (.if_icmp .lt 24, 3) := by decide +kernel
theorem xdX4_number_137 : decode cX4_number 137 = .ok (.iload_n 1, 1) := by decide +kernel
theorem xdX4_number_138 : decode cX4_number 138 = .ok (.bipush 24, 2) := by decide +kernel
theorem xdX4_number_140 : decode cX4_number 140 = .ok (.if_icmp .lt 16, 3) := by decide +kernel
theorem xdX4_number_156 : decode cX4_number 156 = .ok (.iload_n 0, 1) := by decide +kernel
theorem xdX4_number_157 : decode cX4_number 157 = .ok (.bipush 20, 2) := by decide +kernel
theorem xdX4_number_159 : decode cX4_number 159 = .ok (.ishr, 1) := by decide +kernel
theorem xdX4_number_160 : decode cX4_number 160 = .ok (.ireturn, 1) := by decide +kernel
theorem xdX4_number_66 : decode cX4_number 66 = .ok (.iload_n 1, 1) := by decide +kernel
theorem xdX4_number_67 : decode cX4_number 67 = .ok (.bipush 9, 2) := by decide +kernel
theorem xdX4_number_69 : decode cX4_number 69 = .ok (.if_icmp .gt 41, 3) := by decide +kernel
theorem xdX4_number_116 : decode cX4_number 116 = .ok (.iload_n 1, 1) := by decide +kernel
theorem xdX4_number_117 : decode cX4_number 117 = .ok (.bipush 17, 2) := by decide +kernel
theorem xdX4_number_119 : decode cX4_number 119 = .ok (.if_icmp .gt 18, 3) := by decide +kernel
theorem xdX4_number_143 : decode cX4_number 143 = .ok (.iload_n 1, 1) := by decide +kernel
theorem xdX4_number_144 : decode cX4_number 144 = .ok (.bipush 26, 2) := by decide +kernel
theorem xdX4_number_146 : decode cX4_number 146 = .ok (.if_icmp .gt 10, 3) := by decide +kernel
theorem xdX4_number_149 : decode cX4_number 149 = .ok (.iload_n 0, 1) := by decide +kernel
theorem xdX4_number_150 : decode cX4_number 150 = .ok (.invokestatic 33, 3) := by decide +kernel
theorem xdX4_second_0 : decode cX4_second 0 = .ok (.iload_n 0, 1) := by decide +kernel
theorem xdX4_second_1 : decode cX4_second 1 = .ok (.bipush 20, 2) := by decide +kernel
theorem xdX4_second_3 : decode cX4_second 3 = .ok (.iushr, 1) := by decide +kernel
theorem xdX4_second_4 : decode cX4_second 4 = .ok (.bipush 31, 2) := by decide +kernel
theorem xdX4_second_6 : decode cX4_second 6 = .ok (.iand, 1) := by decide +kernel
theorem xdX4_second_7 : decode cX4_second 7 = .ok (.ireturn, 1) := by decide +kernel
theorem xw_101 : (.code yX4_second cX4_second 1 (some .int) : Cond) ∈ tw_W := tw_in (t8_6 (List.mem_of_getElem? (i := 80) rfl)) rfl
theorem xw_102 : ∀ w ∈ ([.methodLink RX4 33 yX4_second, .static yX4_second, .initialized yX4_second.cls] : List Cond), w ∈ tw_W := al_c (tw_in (t8_6 (List.mem_of_getElem? (i := 84) rfl)) rfl) (al_c (tw_in (t8_6 (List.mem_of_getElem? (i := 79) rfl)) rfl) (al_c (tw_in (t8_1 (List.mem_of_getElem? (i := 29) rfl)) rfl) al_n))
theorem xdX4_number_153 : decode cX4_number 153 = .ok (.goto 7, 3) := by decide +kernel
theorem xdX4_number_122 : decode cX4_number 122 = .ok (.iload_n 0, 1) := by decide +kernel
theorem xdX4_number_123 : decode cX4_number 123 = .ok (.bipush 25, 2) := by decide +kernel
theorem xdX4_number_125 : decode cX4_number 125 = .ok (.ishr, 1) := by decide +kernel
theorem xdX4_number_126 : decode cX4_number 126 = .ok (.iconst 5, 1) := by decide +kernel
theorem xdX4_number_127 : decode cX4_number 127 = .ok (.ishl, 1) := by decide +kernel
theorem xdX4_number_128 : decode cX4_number 128 = .ok (.iload_n 0, 1) := by decide +kernel
theorem xdX4_number_129 : decode cX4_number 129 = .ok (.bipush 7, 2) := by decide +kernel
theorem xdX4_number_131 : decode cX4_number 131 = .ok (.iushr, 1) := by decide +kernel
theorem xdX4_number_132 : decode cX4_number 132 = .ok (.bipush 31, 2) := by decide +kernel
theorem xdX4_number_134 : decode cX4_number 134 = .ok (.iand, 1) := by decide +kernel
theorem xdX4_number_135 : decode cX4_number 135 = .ok (.ior, 1) := by decide +kernel
theorem xdX4_number_136 : decode cX4_number 136 = .ok (.ireturn, 1) := by decide +kernel
theorem xdX4_number_72 : decode cX4_number 72 = .ok (.iload_n 0, 1) := by decide +kernel
theorem xdX4_number_73 : decode cX4_number 73 = .ok (.bipush 31, 2) := by decide +kernel
theorem xdX4_number_75 : decode cX4_number 75 = .ok (.ishr, 1) := by decide +kernel
theorem xdX4_number_76 : decode cX4_number 76 = .ok (.bipush 12, 2) := by decide +kernel
theorem xdX4_number_78 : decode cX4_number 78 = .ok (.ishl, 1) := by decide +kernel
theorem xdX4_number_79 : decode cX4_number 79 = .ok (.iload_n 0, 1) := by decide +kernel
theorem xdX4_number_80 : decode cX4_number 80 = .ok (.bipush 7, 2) := by decide +kernel
theorem xdX4_number_82 : decode cX4_number 82 = .ok (.iushr, 1) := by decide +kernel
theorem xdX4_number_83 : decode cX4_number 83 = .ok (.iconst 1, 1) := by decide +kernel
theorem xdX4_number_84 : decode cX4_number 84 = .ok (.iand, 1) := by decide +kernel
theorem xdX4_number_85 : decode cX4_number 85 = .ok (.bipush 11, 2) := by decide +kernel
theorem xdX4_number_87 : decode cX4_number 87 = .ok (.ishl, 1) := by decide +kernel
theorem xdX4_number_88 : decode cX4_number 88 = .ok (.ior, 1) := by decide +kernel
theorem xdX4_number_89 : decode cX4_number 89 = .ok (.iload_n 0, 1) := by decide +kernel
theorem xdX4_number_90 : decode cX4_number 90 = .ok (.bipush 25, 2) := by decide +kernel
theorem xdX4_number_92 : decode cX4_number 92 = .ok (.iushr, 1) := by decide +kernel
theorem xdX4_number_93 : decode cX4_number 93 = .ok (.bipush 63, 2) := by decide +kernel
theorem xdX4_number_95 : decode cX4_number 95 = .ok (.iand, 1) := by decide +kernel
theorem xdX4_number_96 : decode cX4_number 96 = .ok (.iconst 5, 1) := by decide +kernel
theorem xdX4_number_97 : decode cX4_number 97 = .ok (.ishl, 1) := by decide +kernel
theorem xdX4_number_98 : decode cX4_number 98 = .ok (.ior, 1) := by decide +kernel
theorem xdX4_number_99 : decode cX4_number 99 = .ok (.iload_n 0, 1) := by decide +kernel
theorem xdX4_number_100 : decode cX4_number 100 = .ok (.bipush 8, 2) := by decide +kernel
theorem xdX4_number_102 : decode cX4_number 102 = .ok (.iushr, 1) := by decide +kernel
theorem xdX4_number_103 : decode cX4_number 103 = .ok (.bipush 15, 2) := by decide +kernel
theorem xdX4_number_105 : decode cX4_number 105 = .ok (.iand, 1) := by decide +kernel
theorem xdX4_number_106 : decode cX4_number 106 = .ok (.iconst 1, 1) := by decide +kernel
theorem xdX4_number_107 : decode cX4_number 107 = .ok (.ishl, 1) := by decide +kernel
theorem xdX4_number_108 : decode cX4_number 108 = .ok (.ior, 1) := by decide +kernel
theorem xdX4_number_109 : decode cX4_number 109 = .ok (.ireturn, 1) := by decide +kernel
theorem xdX4_number_20 : decode cX4_number 20 = .ok (.iload_n 0, 1) := by decide +kernel
theorem xdX4_number_21 : decode cX4_number 21 = .ok (.bipush 31, 2) := by decide +kernel
theorem xdX4_number_23 : decode cX4_number 23 = .ok (.ishr, 1) := by decide +kernel
theorem xdX4_number_24 : decode cX4_number 24 = .ok (.bipush 20, 2) := by decide +kernel
theorem xdX4_number_26 : decode cX4_number 26 = .ok (.ishl, 1) := by decide +kernel
theorem xdX4_number_27 : decode cX4_number 27 = .ok (.iload_n 0, 1) := by decide +kernel
theorem xdX4_number_28 : decode cX4_number 28 = .ok (.bipush 12, 2) := by decide +kernel
theorem xdX4_number_30 : decode cX4_number 30 = .ok (.iushr, 1) := by decide +kernel
theorem xdX4_number_31 : decode cX4_number 31 = .ok (.sipush 255, 3) := by decide +kernel
theorem xdX4_number_34 : decode cX4_number 34 = .ok (.iand, 1) := by decide +kernel
theorem xdX4_number_35 : decode cX4_number 35 = .ok (.bipush 12, 2) := by decide +kernel
theorem xdX4_number_37 : decode cX4_number 37 = .ok (.ishl, 1) := by decide +kernel
theorem xdX4_number_38 : decode cX4_number 38 = .ok (.ior, 1) := by decide +kernel
theorem xdX4_number_39 : decode cX4_number 39 = .ok (.iload_n 0, 1) := by decide +kernel
theorem xdX4_number_40 : decode cX4_number 40 = .ok (.bipush 20, 2) := by decide +kernel
theorem xdX4_number_42 : decode cX4_number 42 = .ok (.iushr, 1) := by decide +kernel
theorem xdX4_number_43 : decode cX4_number 43 = .ok (.iconst 1, 1) := by decide +kernel
theorem xdX4_number_44 : decode cX4_number 44 = .ok (.iand, 1) := by decide +kernel
theorem xdX4_number_45 : decode cX4_number 45 = .ok (.bipush 11, 2) := by decide +kernel
theorem xdX4_number_47 : decode cX4_number 47 = .ok (.ishl, 1) := by decide +kernel
theorem xdX4_number_48 : decode cX4_number 48 = .ok (.ior, 1) := by decide +kernel
theorem xdX4_number_49 : decode cX4_number 49 = .ok (.iload_n 0, 1) := by decide +kernel
theorem xdX4_number_50 : decode cX4_number 50 = .ok (.bipush 21, 2) := by decide +kernel
theorem xdX4_number_52 : decode cX4_number 52 = .ok (.iushr, 1) := by decide +kernel
theorem xdX4_number_53 : decode cX4_number 53 = .ok (.sipush 1023, 3) := by decide +kernel
theorem xdX4_number_56 : decode cX4_number 56 = .ok (.iand, 1) := by decide +kernel
theorem xdX4_number_57 : decode cX4_number 57 = .ok (.iconst 1, 1) := by decide +kernel
theorem xdX4_number_58 : decode cX4_number 58 = .ok (.ishl, 1) := by decide +kernel
theorem xdX4_number_59 : decode cX4_number 59 = .ok (.ior, 1) := by decide +kernel
theorem xdX4_number_60 : decode cX4_number 60 = .ok (.ireturn, 1) := by decide +kernel
theorem xdX4_target_0 : decode cX4_target 0 = .ok (.iload_n 0, 1) := by decide +kernel
theorem xdX4_target_1 : decode cX4_target 1 = .ok (.bipush 7, 2) := by decide +kernel
theorem xdX4_target_3 : decode cX4_target 3 = .ok (.iushr, 1) := by decide +kernel
theorem xdX4_target_4 : decode cX4_target 4 = .ok (.bipush 31, 2) := by decide +kernel
theorem xdX4_target_6 : decode cX4_target 6 = .ok (.iand, 1) := by decide +kernel
theorem xdX4_target_7 : decode cX4_target 7 = .ok (.ireturn, 1) := by decide +kernel
theorem xdX4_first_0 : decode cX4_first 0 = .ok (.iload_n 0, 1) := by decide +kernel
theorem xdX4_first_1 : decode cX4_first 1 = .ok (.bipush 15, 2) := by decide +kernel
theorem xdX4_first_3 : decode cX4_first 3 = .ok (.iushr, 1) := by decide +kernel
theorem xdX4_first_4 : decode cX4_first 4 = .ok (.bipush 31, 2) := by decide +kernel
theorem xdX4_first_6 : decode cX4_first 6 = .ok (.iand, 1) := by decide +kernel
theorem xdX4_first_7 : decode cX4_first 7 = .ok (.ireturn, 1) := by decide +kernel
theorem xdX8_addRegister_0 : decode cX8_addRegister 0 = .ok (.aload_n 0, 1) := by decide +kernel
theorem xdX8_addRegister_1 : decode cX8_addRegister 1 = .ok (.getfield 12, 3) := by decide +kernel
theorem xw_103 : (.fieldLink RX8 12 "PocketCompiler$Shower" "text" "Ljava/lang/StringBuilder;" : Cond) ∈ tw_W := tw_in (t8_1 (List.mem_of_getElem? (i := 100) rfl)) rfl
theorem xiX8 : ∀ w ∈ wsX80, w ∈ tw_W := tw_all (by decide +kernel)
theorem xdX8_addRegister_4 : decode cX8_addRegister 4 = .ok (.bipush 120, 2) := by decide +kernel
theorem xdX8_addRegister_6 : decode cX8_addRegister 6 = .ok (.invokevirtual 42, 3) := by decide +kernel
theorem xw_104 : (.code yJ4_append_cf468 cJ4_append_cf468 2 (some (.object "java/lang/StringBuilder")) : Cond) ∈ tw_W := tw_in (t8_7 (List.mem_of_getElem? (i := 190) rfl)) rfl
theorem xw_105 : ∀ w ∈ ([.methodLink RX8 42 yJ4_append_cf468, .instanceMethod yJ4_append_cf468, .selects RJ4 yJ4_append_cf468 yJ4_append_cf468, .initialized RJ4] : List Cond), w ∈ tw_W := al_c (tw_in (t8_7 (List.mem_of_getElem? (i := 187) rfl)) rfl) (al_c (tw_in (t8_7 (List.mem_of_getElem? (i := 188) rfl)) rfl) (al_c (tw_in (t8_7 (List.mem_of_getElem? (i := 189) rfl)) rfl) (al_c (tw_in (t8_1 (List.mem_of_getElem? (i := 5) rfl)) rfl) al_n)))
theorem xdX8_addRegister_9 : decode cX8_addRegister 9 = .ok (.pop, 1) := by decide +kernel
theorem xdX8_addRegister_10 : decode cX8_addRegister 10 = .ok (.aload_n 0, 1) := by decide +kernel
theorem xdX8_addRegister_11 : decode cX8_addRegister 11 = .ok (.getfield 12, 3) := by decide +kernel
theorem xdX8_addRegister_14 : decode cX8_addRegister 14 = .ok (.iload_n 1, 1) := by decide +kernel
theorem xdX8_addRegister_15 : decode cX8_addRegister 15 = .ok (.invokevirtual 88, 3) := by decide +kernel
theorem xw_106 : (.code yJ4_append_bf812 cJ4_append_bf812 2 (some (.object "java/lang/StringBuilder")) : Cond) ∈ tw_W := tw_in (t8_7 (List.mem_of_getElem? (i := 30) rfl)) rfl
theorem xw_107 : ∀ w ∈ ([.methodLink RX8 88 yJ4_append_bf812, .instanceMethod yJ4_append_bf812, .selects RJ4 yJ4_append_bf812 yJ4_append_bf812, .initialized RJ4] : List Cond), w ∈ tw_W := al_c (tw_in (t8_7 (List.mem_of_getElem? (i := 223) rfl)) rfl) (al_c (tw_in (t8_7 (List.mem_of_getElem? (i := 28) rfl)) rfl) (al_c (tw_in (t8_7 (List.mem_of_getElem? (i := 29) rfl)) rfl) (al_c (tw_in (t8_1 (List.mem_of_getElem? (i := 5) rfl)) rfl) al_n)))
theorem xdX8_addRegister_18 : decode cX8_addRegister 18 = .ok (.pop, 1) := by decide +kernel
theorem xdX8_addRegister_19 : decode cX8_addRegister 19 = .ok (.return_, 1) := by decide +kernel
theorem xdX8_addPair_0 : decode cX8_addPair 0 = .ok (.aload_n 0, 1) := by decide +kernel
theorem xdX8_addPair_1 : decode cX8_addPair 1 = .ok (.iload_n 1, 1) := by decide +kernel
theorem xdX8_addPair_2 : decode cX8_addPair 2 = .ok (.invokevirtual 83, 3) := by decide +kernel
theorem xw_108 : (.code yX8_addRegister cX8_addRegister 2 none : Cond) ∈ tw_W := tw_in (t8_7 (List.mem_of_getElem? (i := 222) rfl)) rfl
theorem xw_109 : ∀ w ∈ ([.methodLink RX8 83 yX8_addRegister, .instanceMethod yX8_addRegister, .selects RX8 yX8_addRegister yX8_addRegister, .initialized RX8] : List Cond), w ∈ tw_W := al_c (tw_in (t8_7 (List.mem_of_getElem? (i := 219) rfl)) rfl) (al_c (tw_in (t8_7 (List.mem_of_getElem? (i := 221) rfl)) rfl) (al_c (tw_in (t7_6 (q := (yX8_addRegister, 1)) (List.mem_of_getElem? (i := 8) rfl)) rfl) (al_c (tw_in (t8_1 (List.mem_of_getElem? (i := 3) rfl)) rfl) al_n)))
theorem xdX8_addPair_5 : decode cX8_addPair 5 = .ok (.aload_n 0, 1) := by decide +kernel
theorem xdX8_addPair_6 : decode cX8_addPair 6 = .ok (.getfield 12, 3) := by decide +kernel
theorem xdX8_addPair_9 : decode cX8_addPair 9 = .ok (.ldc 86, 2) := by decide +kernel
theorem xdX8_addPair_11 : decode cX8_addPair 11 = .ok (.invokevirtual 58, 3) := by decide +kernel
theorem xw_110 : (.code yJ4_append_15ec4 cJ4_append_15ec4 2 (some (.object "java/lang/StringBuilder")) : Cond) ∈ tw_W := tw_in (t8_6 (List.mem_of_getElem? (i := 175) rfl)) rfl
theorem xw_111 : ∀ w ∈ ([.methodLink RX8 58 yJ4_append_15ec4, .instanceMethod yJ4_append_15ec4, .selects RJ4 yJ4_append_15ec4 yJ4_append_15ec4, .initialized RJ4] : List Cond), w ∈ tw_W := al_c (tw_in (t8_7 (List.mem_of_getElem? (i := 205) rfl)) rfl) (al_c (tw_in (t8_6 (List.mem_of_getElem? (i := 173) rfl)) rfl) (al_c (tw_in (t8_6 (List.mem_of_getElem? (i := 174) rfl)) rfl) (al_c (tw_in (t8_1 (List.mem_of_getElem? (i := 5) rfl)) rfl) al_n)))
theorem xdX8_addPair_14 : decode cX8_addPair 14 = .ok (.pop, 1) := by decide +kernel
theorem xdX8_addPair_15 : decode cX8_addPair 15 = .ok (.aload_n 0, 1) := by decide +kernel
theorem xdX8_addPair_16 : decode cX8_addPair 16 = .ok (.getfield 12, 3) := by decide +kernel
theorem xdX8_addPair_19 : decode cX8_addPair 19 = .ok (.iload_n 2, 1) := by decide +kernel
theorem xdX8_addPair_20 : decode cX8_addPair 20 = .ok (.invokevirtual 88, 3) := by decide +kernel
theorem xdX8_addPair_23 : decode cX8_addPair 23 = .ok (.pop, 1) := by decide +kernel
theorem xdX8_addPair_24 : decode cX8_addPair 24 = .ok (.return_, 1) := by decide +kernel
theorem xdX8_addReach_0 : decode cX8_addReach 0 = .ok (.aload_n 0, 1) := by decide +kernel
theorem xdX8_addReach_1 : decode cX8_addReach 1 = .ok (.iload_n 1, 1) := by decide +kernel
theorem xdX8_addReach_2 : decode cX8_addReach 2 = .ok (.iload_n 2, 1) := by decide +kernel
theorem xdX8_addReach_3 : decode cX8_addReach 3 = .ok (.invokevirtual 76, 3) := by decide +kernel
theorem xw_112 : (.code yX8_addPair cX8_addPair 3 none : Cond) ∈ tw_W := tw_in (t8_7 (List.mem_of_getElem? (i := 218) rfl)) rfl
theorem xw_113 : ∀ w ∈ ([.methodLink RX8 76 yX8_addPair, .instanceMethod yX8_addPair, .selects RX8 yX8_addPair yX8_addPair, .initialized RX8] : List Cond), w ∈ tw_W := al_c (tw_in (t8_7 (List.mem_of_getElem? (i := 215) rfl)) rfl) (al_c (tw_in (t8_7 (List.mem_of_getElem? (i := 217) rfl)) rfl) (al_c (tw_in (t7_6 (q := (yX8_addPair, 1)) (List.mem_of_getElem? (i := 7) rfl)) rfl) (al_c (tw_in (t8_1 (List.mem_of_getElem? (i := 3) rfl)) rfl) al_n)))
theorem xdX8_addReach_6 : decode cX8_addReach 6 = .ok (.aload_n 0, 1) := by decide +kernel
theorem xdX8_addReach_7 : decode cX8_addReach 7 = .ok (.getfield 12, 3) := by decide +kernel
theorem xdX8_addReach_10 : decode cX8_addReach 10 = .ok (.bipush 40, 2) := by decide +kernel
theorem xdX8_addReach_12 : decode cX8_addReach 12 = .ok (.invokevirtual 42, 3) := by decide +kernel
theorem xdX8_addReach_15 : decode cX8_addReach 15 = .ok (.pop, 1) := by decide +kernel
theorem xdX8_addReach_16 : decode cX8_addReach 16 = .ok (.aload_n 0, 1) := by decide +kernel
theorem xdX8_addReach_17 : decode cX8_addReach 17 = .ok (.iload_n 3, 1) := by decide +kernel
theorem xdX8_addReach_18 : decode cX8_addReach 18 = .ok (.invokevirtual 83, 3) := by decide +kernel
theorem xdX8_addReach_21 : decode cX8_addReach 21 = .ok (.aload_n 0, 1) := by decide +kernel
theorem xdX8_addReach_22 : decode cX8_addReach 22 = .ok (.getfield 12, 3) := by decide +kernel
theorem xdX8_addReach_25 : decode cX8_addReach 25 = .ok (.bipush 41, 2) := by decide +kernel
theorem xdX8_addReach_27 : decode cX8_addReach 27 = .ok (.invokevirtual 42, 3) := by decide +kernel
theorem xdX8_addReach_30 : decode cX8_addReach 30 = .ok (.pop, 1) := by decide +kernel
theorem xdX8_addReach_31 : decode cX8_addReach 31 = .ok (.return_, 1) := by decide +kernel
theorem xdX8_addName_0 : decode cX8_addName 0 = .ok (.iload_n 1, 1) := by decide +kernel
theorem xdX8_addName_1 : decode cX8_addName 1 = .ok (.bipush 6, 2) := by decide +kernel
theorem xdX8_addName_3 : decode cX8_addName 3 = .ok (.imul, 1) := by decide +kernel
theorem xdX8_addName_4 : decode cX8_addName 4 = .ok (.istore_n 2, 1) := by decide +kernel
theorem xdX8_addName_5 : decode cX8_addName 5 = .ok (.iload_n 2, 1) := by decide +kernel
theorem xdX8_addName_6 : decode cX8_addName 6 = .ok (.istore_n 3, 1) := by decide +kernel
theorem xdX8_addName_7 : decode cX8_addName 7 = .ok (.iload_n 3, 1) := by decide +kernel
theorem xdX8_addName_8 : decode cX8_addName 8 = .ok (.iload_n 2, 1) := by decide +kernel
theorem xdX8_addName_9 : decode cX8_addName 9 = .ok (.bipush 6, 2) := by decide +kernel
theorem xdX8_addName_11 : decode cX8_addName 11 = .ok (.iadd, 1) := by decide +kernel
theorem xdX8_addName_12 : decode cX8_addName 12 = .ok (.if_icmp .ge 47, 3) := by decide +kernel
theorem xdX8_addName_15 : decode cX8_addName 15 = .ok (.iload_n 3, 1) := by decide +kernel
theorem xdX8_addName_16 : decode cX8_addName 16 = .ok (.ldc 50, 2) := by decide +kernel
theorem xdX8_addName_18 : decode cX8_addName 18 = .ok (.invokevirtual 52, 3) := by decide +kernel
theorem xw_114 : ∀ w ∈ ([.methodLink RX8 52 yJ0_length_8abf5, .instanceMethod yJ0_length_8abf5, .selects "java/lang/String" yJ0_length_8abf5 yJ0_length_8abf5, .initialized "java/lang/String"] : List Cond), w ∈ tw_W := al_c (tw_in (t8_7 (List.mem_of_getElem? (i := 185) rfl)) rfl) (al_c (tw_in (t8_3 (List.mem_of_getElem? (i := 12) rfl)) rfl) (al_c (tw_in (t8_3 (List.mem_of_getElem? (i := 13) rfl)) rfl) (al_c (tw_in (t8_1 (List.mem_of_getElem? (i := 6) rfl)) rfl) al_n)))
theorem xdX8_addName_21 : decode cX8_addName 21 = .ok (.if_icmp .ge 38, 3) := by decide +kernel
theorem xdX8_addName_24 : decode cX8_addName 24 = .ok (.iload_n 3, 1) := by decide +kernel
theorem xdX8_addName_25 : decode cX8_addName 25 = .ok (.ifCond .lt 28, 3) := by decide +kernel
theorem xdX8_addName_28 : decode cX8_addName 28 = .ok (.ldc 50, 2) := by decide +kernel
theorem xdX8_addName_30 : decode cX8_addName 30 = .ok (.iload_n 3, 1) := by decide +kernel
theorem xdX8_addName_31 : decode cX8_addName 31 = .ok (.invokevirtual 55, 3) := by decide +kernel
theorem xw_115 : (.code yJ0_charAt_5068e cJ0_charAt_5068e 2 (some .char) : Cond) ∈ tw_W := tw_in (t8_3 (List.mem_of_getElem? (i := 27) rfl)) rfl
theorem xw_116 : ∀ w ∈ ([.methodLink RX8 55 yJ0_charAt_5068e, .instanceMethod yJ0_charAt_5068e, .selects "java/lang/String" yJ0_charAt_5068e yJ0_charAt_5068e, .initialized "java/lang/String"] : List Cond), w ∈ tw_W := al_c (tw_in (t8_7 (List.mem_of_getElem? (i := 186) rfl)) rfl) (al_c (tw_in (t8_3 (List.mem_of_getElem? (i := 25) rfl)) rfl) (al_c (tw_in (t8_3 (List.mem_of_getElem? (i := 26) rfl)) rfl) (al_c (tw_in (t8_1 (List.mem_of_getElem? (i := 6) rfl)) rfl) al_n)))
theorem xdX8_addName_34 : decode cX8_addName 34 = .ok (.bipush 32, 2) := by decide +kernel
theorem xdX8_addName_36 : decode cX8_addName 36 = .ok (.if_icmp .eq 17, 3) := by decide +kernel
theorem xdX8_addName_53 : decode cX8_addName 53 = .ok (.iinc 3 1, 3) := by decide +kernel
theorem xdX8_addName_56 : decode cX8_addName 56 = .ok (.goto (-49), 3) := by decide +kernel
theorem xdX8_addName_39 : decode cX8_addName 39 = .ok (.aload_n 0, 1) := by decide +kernel
theorem xdX8_addName_40 : decode cX8_addName 40 = .ok (.getfield 12, 3) := by decide +kernel
theorem xdX8_addName_43 : decode cX8_addName 43 = .ok (.ldc 50, 2) := by decide +kernel
theorem xdX8_addName_45 : decode cX8_addName 45 = .ok (.iload_n 3, 1) := by decide +kernel
theorem xdX8_addName_46 : decode cX8_addName 46 = .ok (.invokevirtual 55, 3) := by decide +kernel
theorem xdX8_addName_49 : decode cX8_addName 49 = .ok (.invokevirtual 42, 3) := by decide +kernel
theorem xdX8_addName_52 : decode cX8_addName 52 = .ok (.pop, 1) := by decide +kernel
theorem xdX8_addName_59 : decode cX8_addName 59 = .ok (.return_, 1) := by decide +kernel
theorem xdX8_addHex_0 : decode cX8_addHex 0 = .ok (.aload_n 0, 1) := by decide +kernel
theorem xdX8_addHex_1 : decode cX8_addHex 1 = .ok (.getfield 12, 3) := by decide +kernel
theorem xdX8_addHex_4 : decode cX8_addHex 4 = .ok (.ldc 56, 2) := by decide +kernel
theorem xdX8_addHex_6 : decode cX8_addHex 6 = .ok (.invokevirtual 58, 3) := by decide +kernel
theorem xdX8_addHex_9 : decode cX8_addHex 9 = .ok (.pop, 1) := by decide +kernel
theorem xdX8_addHex_10 : decode cX8_addHex 10 = .ok (.bipush 28, 2) := by decide +kernel
theorem xdX8_addHex_12 : decode cX8_addHex 12 = .ok (.istore_n 2, 1) := by decide +kernel
theorem xdX8_addHex_13 : decode cX8_addHex 13 = .ok (.iload_n 2, 1) := by decide +kernel
theorem xdX8_addHex_14 : decode cX8_addHex 14 = .ok (.ifCond .lt 28, 3) := by decide +kernel
theorem xdX8_addHex_17 : decode cX8_addHex 17 = .ok (.aload_n 0, 1) := by decide +kernel
theorem xdX8_addHex_18 : decode cX8_addHex 18 = .ok (.getfield 12, 3) := by decide +kernel
theorem xdX8_addHex_21 : decode cX8_addHex 21 = .ok (.ldc 61, 2) := by decide +kernel
theorem xdX8_addHex_23 : decode cX8_addHex 23 = .ok (.iload_n 1, 1) := by decide +kernel
theorem xdX8_addHex_24 : decode cX8_addHex 24 = .ok (.iload_n 2, 1) := by decide +kernel
theorem xdX8_addHex_25 : decode cX8_addHex 25 = .ok (.iushr, 1) := by decide +kernel
theorem xdX8_addHex_26 : decode cX8_addHex 26 = .ok (.bipush 15, 2) := by decide +kernel
theorem xdX8_addHex_28 : decode cX8_addHex 28 = .ok (.iand, 1) := by decide +kernel
theorem xdX8_addHex_29 : decode cX8_addHex 29 = .ok (.invokevirtual 55, 3) := by decide +kernel
theorem xdX8_addHex_32 : decode cX8_addHex 32 = .ok (.invokevirtual 42, 3) := by decide +kernel
theorem xdX8_addHex_35 : decode cX8_addHex 35 = .ok (.pop, 1) := by decide +kernel
theorem xdX8_addHex_36 : decode cX8_addHex 36 = .ok (.iinc 2 (-4), 3) := by decide +kernel
theorem xdX8_addHex_39 : decode cX8_addHex 39 = .ok (.goto (-26), 3) := by decide +kernel
theorem xdX8_addHex_42 : decode cX8_addHex 42 = .ok (.return_, 1) := by decide +kernel
/-! the class's Shower -/
def cntN (kd : Nat) : Nat → Nat
  | 0 => 0
  | i + 1 => cntN kd i + (if chN 9 (kd * 6 + i) = 32 then 0 else 1)
theorem cntN_le (kd i : Nat) : cntN kd i ≤ i := by
  induction i with
  | zero => exact Nat.le_refl _
  | succ i ih =>
    show cntN kd i + (if chN 9 (kd * 6 + i) = 32 then 0 else 1) ≤ i + 1
    split <;> omega
/-- pieces of a text -/
def rgT (x : Int32) : List Int32 := [chB 120] ++ decT x
def pairT (x y : Int32) : List Int32 := (rgT x ++ strT 12) ++ decT y
def reachT (x y v : Int32) : List Int32 := ((pairT x y ++ [chB 40]) ++ rgT v) ++ [chB 41]
def nmT (kd : Nat) : Nat → List Int32
  | 0 => []
  | i + 1 => nmT kd i ++ (if chN 9 (kd * 6 + i) = 32 then [] else [chB (chN 9 (kd * 6 + i))])
def hxT (K : Nat) (X : Nat → Int32) : Nat → List Int32
  | 0 => []
  | i + 1 => hxT K X i ++ [chB (chN K ((X i &&& 15).toNatClampNeg))]
set_option maxHeartbeats 4000000 in
set_option maxRecDepth 100000 in
theorem c_sx_X4_numberedKind (l : Launch) (dC : Nat → ClassId) (dI : Nat → Nat → Nat) (cI cB cZ cJ cR : ClassId) (tb : Nat → Nat) (sz : Nat) (x0_ : Int32)  : Met l yX4_numberedKind (Cond.code yX4_numberedKind cX4_numberedKind 3 (some .int) :: tw_W) ({ frames := 0, cells := 0, slots := 0, locals := 0 }) (pc_ (dC, dI) (tyS cI cB cZ cJ cR) tb [] sz [.int (((x0_.toUInt32 >>> ((12 : Int32).toUInt32 &&& Int32.toUInt32 31)).toInt32) &&& 7), .int ((x0_.toUInt32 >>> ((25 : Int32).toUInt32 &&& Int32.toUInt32 31)).toInt32)]) (qi_ (dC, dI) [] sz (fun (r : Int32) (u : Unit) => r = (if (((x0_.toUInt32 >>> ((12 : Int32).toUInt32 &&& Int32.toUInt32 31)).toInt32) &&& 7) = 1 then (if ((x0_.toUInt32 >>> ((25 : Int32).toUInt32 &&& Int32.toUInt32 31)).toInt32) = 0 then ([18, 24, 19, 20, 21, 25, 22, 23].getD ((((x0_.toUInt32 >>> ((12 : Int32).toUInt32 &&& Int32.toUInt32 31)).toInt32) &&& 7) &&& 7).toNatClampNeg 0) else 40) else (if (((x0_.toUInt32 >>> ((12 : Int32).toUInt32 &&& Int32.toUInt32 31)).toInt32) &&& 7) = 5 then (if ((x0_.toUInt32 >>> ((25 : Int32).toUInt32 &&& Int32.toUInt32 31)).toInt32) = 0 then ([18, 24, 19, 20, 21, 25, 22, 23].getD ((((x0_.toUInt32 >>> ((12 : Int32).toUInt32 &&& Int32.toUInt32 31)).toInt32) &&& 7) &&& 7).toNatClampNeg 0) else (if ((x0_.toUInt32 >>> ((25 : Int32).toUInt32 &&& Int32.toUInt32 31)).toInt32) = 32 then 26 else 40)) else ([18, 24, 19, 20, 21, 25, 22, 23].getD ((((x0_.toUInt32 >>> ((12 : Int32).toUInt32 &&& Int32.toUInt32 31)).toInt32) &&& 7) &&& 7).toNatClampNeg 0)))) (fun (u : Unit) => [])) 0 0 (va_A [] sz) := by
  refine Met.ofW (cc := cX4_numberedKind) (maxL := 3) (ret := (some .int)) (by decide) rfl ?_
  intro p e s m args below meth c s₁ B hml hv
  obtain ⟨rfl, hsz, hP, hKK, hD0, hFx⟩ := hv
  have hK := hKK.1
  have hx := B.exec
  have hb := B.bytes
  have hr := B.returns
  have ht : ∀ w ∈ tw_W, w.before _ s = true := fun w h => atoms_spec (ws := Cond.code yX4_numberedKind cX4_numberedKind 3 (some .int) :: tw_W) B.pre w (List.mem_cons_of_mem _ h)
  have hown : s.vm.findClass RX4 = some m.cls := findClass_of_methodNamed B.named
  have hlocks := B.notSynchronized
  subst hsz
  unfold qi_
  have hD := hD0.self (sz := s.heap.size)
  generalize hAe : va_A [] s.heap.size = A at hD hFx ⊢
  have hA : ∀ q : Nat, s.heap.size ≤ q → A q := fun q h => by rw [← hAe]; exact Or.inr h
  have hS : va_S A s.heap s.heap [] := va_S.rf
  have hP : va_P (dC, dI) vwCl [] s.heap := hP
  have hl := lv_entry ([.int (((x0_.toUInt32 >>> ((12 : Int32).toUInt32 &&& Int32.toUInt32 31)).toInt32) &&& 7), .int ((x0_.toUInt32 >>> ((25 : Int32).toUInt32 &&& Int32.toUInt32 31)).toInt32)]) (n := 3) (Nat.le_of_ble_eq_true rfl)
  rw [lg_entry_eq]
  generalize (lg_sl ([.int (((x0_.toUInt32 >>> ((12 : Int32).toUInt32 &&& Int32.toUInt32 31)).toInt32) &&& 7), .int ((x0_.toUInt32 >>> ((25 : Int32).toUInt32 &&& Int32.toUInt32 31)).toInt32)]) ++ List.replicate (3 - (lg_sl ([.int (((x0_.toUInt32 >>> ((12 : Int32).toUInt32 &&& Int32.toUInt32 31)).toInt32) &&& 7), .int ((x0_.toUInt32 >>> ((25 : Int32).toUInt32 &&& Int32.toUInt32 31)).toInt32)])).length) Slot.unset).toArray = ls at hl ⊢
  have hl : lv_has ls 3 [(0, .int (((x0_.toUInt32 >>> ((12 : Int32).toUInt32 &&& Int32.toUInt32 31)).toInt32) &&& 7)), (1, .int ((x0_.toUInt32 >>> ((25 : Int32).toUInt32 &&& Int32.toUInt32 31)).toInt32))] := hl
  refine lv_iload_n hx hb xdX4_numberedKind_0 rfl (lv_at hl 0 rfl) ?_
  refine lv_iconst (v := 1) hx hb xdX4_numberedKind_1 (by decide) ?_
  refine lv_icmp_eq (tgt := 10) hx hb xdX4_numberedKind_2 (by decide) (fun h1 => ?_) (fun h1 => ?_)
  · refine lv_iconst (v := 1) hx hb xdX4_numberedKind_10 (by decide) ?_
    refine lv_goto (tgt := 15) hx hb xdX4_numberedKind_11 (by decide) ?_
    refine lv_istore_n (lv' := [(2, .int 1), (0, .int (((x0_.toUInt32 >>> ((12 : Int32).toUInt32 &&& Int32.toUInt32 31)).toInt32) &&& 7)), (1, .int ((x0_.toUInt32 >>> ((25 : Int32).toUInt32 &&& Int32.toUInt32 31)).toInt32))]) hx hb xdX4_numberedKind_15 rfl hl (by decide) rfl (fun ls hl => ?_)
    refine lv_iload_n hx hb xdX4_numberedKind_16 rfl (lv_at hl 0 rfl) ?_
    refine lv_if_eq (tgt := 24) hx hb xdX4_numberedKind_17 (by decide) (fun k2 => absurd k2 (by decide)) (fun _ => ?_)
    refine lv_iload_n hx hb xdX4_numberedKind_20 rfl (lv_at hl 2 rfl) ?_
    refine lv_if_ne (tgt := 33) hx hb xdX4_numberedKind_21 (by decide) (fun h3 => ?_) (fun h3 => ?_)
    · refine lv_iload_n hx hb xdX4_numberedKind_33 rfl (lv_at hl 1 rfl) ?_
      refine lv_iconst (v := 5) hx hb xdX4_numberedKind_34 (by decide) ?_
      refine lv_icmp_ne (tgt := 49) hx hb xdX4_numberedKind_35 (by decide) (fun _ => ?_) (fun k4 => False.elim (by rw [← Int32.toInt_inj] at h1; rw [← Int32.toInt_inj] at k4; have : (1 : Int32).toInt = 1 := (by decide); have : (5 : Int32).toInt = 5 := (by decide); omega))
      refine lv_bipush (v := 40) hx hb xdX4_numberedKind_49 (by decide) ?_
      have hP9 := hP.sub (ws' := []) [] rfl
      have hD9 := hD.sub (ws' := []) [] (by decide) rfl
      refine W.widen (k := 0) (n := 0) (by omega) (by omega) ?_
      exact W.iret (v := 40) hx hb hr (fun t ht9 hW => ⟨⟨40, (), rfl, (by rw [if_pos h1, if_neg h3]), by rw [ht9]; exact hP9, hD9⟩, hS.F ht9⟩) hS.2.2 xdX4_numberedKind_51
    · refine va_gets hx hb (hFx.2.1 3 _ rfl).1 hS hown (ht _ xw_92) (fun _ h9 => h9) xdX4_numberedKind_24 ?_
      refine lv_iload_n hx hb xdX4_numberedKind_27 rfl (lv_at hl 1 rfl) ?_
      refine lv_bipush (v := 7) hx hb xdX4_numberedKind_28 (by decide) ?_
      refine lv_iand hx hb xdX4_numberedKind_30 ?_
      refine va_ti (v := .int ([18, 24, 19, 20, 21, 25, 22, 23].getD ((((x0_.toUInt32 >>> ((12 : Int32).toUInt32 &&& Int32.toUInt32 31)).toInt32) &&& 7) &&& 7).toNatClampNeg 0)) hx hb (hFx.2.1 3 _ rfl).2 hS (pk_andIn (((x0_.toUInt32 >>> ((12 : Int32).toUInt32 &&& Int32.toUInt32 31)).toInt32) &&& 7) 3 (by decide) (by decide)) rfl xdX4_numberedKind_31 ?_
      have hP9 := hP.sub (ws' := []) [] rfl
      have hD9 := hD.sub (ws' := []) [] (by decide) rfl
      refine W.widen (k := 0) (n := 0) (by omega) (by omega) ?_
      exact W.iret (v := ([18, 24, 19, 20, 21, 25, 22, 23].getD ((((x0_.toUInt32 >>> ((12 : Int32).toUInt32 &&& Int32.toUInt32 31)).toInt32) &&& 7) &&& 7).toNatClampNeg 0)) hx hb hr (fun t ht9 hW => ⟨⟨([18, 24, 19, 20, 21, 25, 22, 23].getD ((((x0_.toUInt32 >>> ((12 : Int32).toUInt32 &&& Int32.toUInt32 31)).toInt32) &&& 7) &&& 7).toNatClampNeg 0), (), rfl, (by rw [if_pos h1, if_pos h3]), by rw [ht9]; exact hP9, hD9⟩, hS.F ht9⟩) hS.2.2 xdX4_numberedKind_32
  · refine lv_iload_n hx hb xdX4_numberedKind_5 rfl (lv_at hl 0 rfl) ?_
    refine lv_iconst (v := 5) hx hb xdX4_numberedKind_6 (by decide) ?_
    refine lv_icmp_ne (tgt := 14) hx hb xdX4_numberedKind_7 (by decide) (fun h5 => ?_) (fun h5 => ?_)
    · refine lv_iconst (v := 0) hx hb xdX4_numberedKind_14 (by decide) ?_
      refine lv_istore_n (lv' := [(2, .int 0), (0, .int (((x0_.toUInt32 >>> ((12 : Int32).toUInt32 &&& Int32.toUInt32 31)).toInt32) &&& 7)), (1, .int ((x0_.toUInt32 >>> ((25 : Int32).toUInt32 &&& Int32.toUInt32 31)).toInt32))]) hx hb xdX4_numberedKind_15 rfl hl (by decide) rfl (fun ls hl => ?_)
      refine lv_iload_n hx hb xdX4_numberedKind_16 rfl (lv_at hl 0 rfl) ?_
      refine lv_if_eq (tgt := 24) hx hb xdX4_numberedKind_17 (by decide) (fun _ => ?_) (fun k6 => absurd k6 (by decide))
      refine va_gets hx hb (hFx.2.1 3 _ rfl).1 hS hown (ht _ xw_92) (fun _ h9 => h9) xdX4_numberedKind_24 ?_
      refine lv_iload_n hx hb xdX4_numberedKind_27 rfl (lv_at hl 1 rfl) ?_
      refine lv_bipush (v := 7) hx hb xdX4_numberedKind_28 (by decide) ?_
      refine lv_iand hx hb xdX4_numberedKind_30 ?_
      refine va_ti (v := .int ([18, 24, 19, 20, 21, 25, 22, 23].getD ((((x0_.toUInt32 >>> ((12 : Int32).toUInt32 &&& Int32.toUInt32 31)).toInt32) &&& 7) &&& 7).toNatClampNeg 0)) hx hb (hFx.2.1 3 _ rfl).2 hS (pk_andIn (((x0_.toUInt32 >>> ((12 : Int32).toUInt32 &&& Int32.toUInt32 31)).toInt32) &&& 7) 3 (by decide) (by decide)) rfl xdX4_numberedKind_31 ?_
      have hP9 := hP.sub (ws' := []) [] rfl
      have hD9 := hD.sub (ws' := []) [] (by decide) rfl
      refine W.widen (k := 0) (n := 0) (by omega) (by omega) ?_
      exact W.iret (v := ([18, 24, 19, 20, 21, 25, 22, 23].getD ((((x0_.toUInt32 >>> ((12 : Int32).toUInt32 &&& Int32.toUInt32 31)).toInt32) &&& 7) &&& 7).toNatClampNeg 0)) hx hb hr (fun t ht9 hW => ⟨⟨([18, 24, 19, 20, 21, 25, 22, 23].getD ((((x0_.toUInt32 >>> ((12 : Int32).toUInt32 &&& Int32.toUInt32 31)).toInt32) &&& 7) &&& 7).toNatClampNeg 0), (), rfl, (by rw [if_neg h1, if_neg h5]), by rw [ht9]; exact hP9, hD9⟩, hS.F ht9⟩) hS.2.2 xdX4_numberedKind_32
    · refine lv_iconst (v := 1) hx hb xdX4_numberedKind_10 (by decide) ?_
      refine lv_goto (tgt := 15) hx hb xdX4_numberedKind_11 (by decide) ?_
      refine lv_istore_n (lv' := [(2, .int 1), (0, .int (((x0_.toUInt32 >>> ((12 : Int32).toUInt32 &&& Int32.toUInt32 31)).toInt32) &&& 7)), (1, .int ((x0_.toUInt32 >>> ((25 : Int32).toUInt32 &&& Int32.toUInt32 31)).toInt32))]) hx hb xdX4_numberedKind_15 rfl hl (by decide) rfl (fun ls hl => ?_)
      refine lv_iload_n hx hb xdX4_numberedKind_16 rfl (lv_at hl 0 rfl) ?_
      refine lv_if_eq (tgt := 24) hx hb xdX4_numberedKind_17 (by decide) (fun k7 => absurd k7 (by decide)) (fun _ => ?_)
      refine lv_iload_n hx hb xdX4_numberedKind_20 rfl (lv_at hl 2 rfl) ?_
      refine lv_if_ne (tgt := 33) hx hb xdX4_numberedKind_21 (by decide) (fun h8 => ?_) (fun h8 => ?_)
      · refine lv_iload_n hx hb xdX4_numberedKind_33 rfl (lv_at hl 1 rfl) ?_
        refine lv_iconst (v := 5) hx hb xdX4_numberedKind_34 (by decide) ?_
        refine lv_icmp_ne (tgt := 49) hx hb xdX4_numberedKind_35 (by decide) (fun k9 => False.elim (by rw [← Int32.toInt_inj] at h1; rw [← Int32.toInt_inj] at h5; rw [← Int32.toInt_inj] at k9; have : (1 : Int32).toInt = 1 := (by decide); have : (5 : Int32).toInt = 5 := (by decide); omega)) (fun _ => ?_)
        refine lv_iload_n hx hb xdX4_numberedKind_38 rfl (lv_at hl 2 rfl) ?_
        refine lv_bipush (v := 32) hx hb xdX4_numberedKind_39 (by decide) ?_
        refine lv_icmp_ne (tgt := 49) hx hb xdX4_numberedKind_41 (by decide) (fun h10 => ?_) (fun h10 => ?_)
        · refine lv_bipush (v := 40) hx hb xdX4_numberedKind_49 (by decide) ?_
          have hP9 := hP.sub (ws' := []) [] rfl
          have hD9 := hD.sub (ws' := []) [] (by decide) rfl
          refine W.widen (k := 0) (n := 0) (by omega) (by omega) ?_
          exact W.iret (v := 40) hx hb hr (fun t ht9 hW => ⟨⟨40, (), rfl, (by rw [if_neg h1, if_pos h5, if_neg h8, if_neg h10]), by rw [ht9]; exact hP9, hD9⟩, hS.F ht9⟩) hS.2.2 xdX4_numberedKind_51
        · refine lv_bipush (v := 26) hx hb xdX4_numberedKind_44 (by decide) ?_
          refine lv_goto (tgt := 51) hx hb xdX4_numberedKind_46 (by decide) ?_
          have hP9 := hP.sub (ws' := []) [] rfl
          have hD9 := hD.sub (ws' := []) [] (by decide) rfl
          refine W.widen (k := 0) (n := 0) (by omega) (by omega) ?_
          exact W.iret (v := 26) hx hb hr (fun t ht9 hW => ⟨⟨26, (), rfl, (by rw [if_neg h1, if_pos h5, if_neg h8, if_pos h10]), by rw [ht9]; exact hP9, hD9⟩, hS.F ht9⟩) hS.2.2 xdX4_numberedKind_51
      · refine va_gets hx hb (hFx.2.1 3 _ rfl).1 hS hown (ht _ xw_92) (fun _ h9 => h9) xdX4_numberedKind_24 ?_
        refine lv_iload_n hx hb xdX4_numberedKind_27 rfl (lv_at hl 1 rfl) ?_
        refine lv_bipush (v := 7) hx hb xdX4_numberedKind_28 (by decide) ?_
        refine lv_iand hx hb xdX4_numberedKind_30 ?_
        refine va_ti (v := .int ([18, 24, 19, 20, 21, 25, 22, 23].getD ((((x0_.toUInt32 >>> ((12 : Int32).toUInt32 &&& Int32.toUInt32 31)).toInt32) &&& 7) &&& 7).toNatClampNeg 0)) hx hb (hFx.2.1 3 _ rfl).2 hS (pk_andIn (((x0_.toUInt32 >>> ((12 : Int32).toUInt32 &&& Int32.toUInt32 31)).toInt32) &&& 7) 3 (by decide) (by decide)) rfl xdX4_numberedKind_31 ?_
        have hP9 := hP.sub (ws' := []) [] rfl
        have hD9 := hD.sub (ws' := []) [] (by decide) rfl
        refine W.widen (k := 0) (n := 0) (by omega) (by omega) ?_
        exact W.iret (v := ([18, 24, 19, 20, 21, 25, 22, 23].getD ((((x0_.toUInt32 >>> ((12 : Int32).toUInt32 &&& Int32.toUInt32 31)).toInt32) &&& 7) &&& 7).toNatClampNeg 0)) hx hb hr (fun t ht9 hW => ⟨⟨([18, 24, 19, 20, 21, 25, 22, 23].getD ((((x0_.toUInt32 >>> ((12 : Int32).toUInt32 &&& Int32.toUInt32 31)).toInt32) &&& 7) &&& 7).toNatClampNeg 0), (), rfl, (by rw [if_neg h1, if_pos h5, if_pos h8]), by rw [ht9]; exact hP9, hD9⟩, hS.F ht9⟩) hS.2.2 xdX4_numberedKind_32
set_option maxHeartbeats 4000000 in
set_option maxRecDepth 100000 in
theorem c_sx_X4_plainKind (l : Launch) (dC : Nat → ClassId) (dI : Nat → Nat → Nat) (cI cB cZ cJ cR : ClassId) (tb : Nat → Nat) (sz : Nat) (x0_ : Int32)  : Met l yX4_plainKind (Cond.code yX4_plainKind cX4_plainKind 2 (some .int) :: tw_W) ({ frames := 0, cells := 0, slots := 0, locals := 0 }) (pc_ (dC, dI) (tyS cI cB cZ cJ cR) tb [] sz [.int (((x0_.toUInt32 >>> ((12 : Int32).toUInt32 &&& Int32.toUInt32 31)).toInt32) &&& 7), .int ((x0_.toUInt32 >>> ((25 : Int32).toUInt32 &&& Int32.toUInt32 31)).toInt32)]) (qi_ (dC, dI) [] sz (fun (r : Int32) (u : Unit) => r = (if ((x0_.toUInt32 >>> ((25 : Int32).toUInt32 &&& Int32.toUInt32 31)).toInt32) = 0 then ([27, 29, 30, 31, 32, 33, 35, 36].getD ((((x0_.toUInt32 >>> ((12 : Int32).toUInt32 &&& Int32.toUInt32 31)).toInt32) &&& 7) &&& 7).toNatClampNeg 0) else (if ((x0_.toUInt32 >>> ((25 : Int32).toUInt32 &&& Int32.toUInt32 31)).toInt32) = 32 then (if (((x0_.toUInt32 >>> ((12 : Int32).toUInt32 &&& Int32.toUInt32 31)).toInt32) &&& 7) = 0 then 28 else (if (((x0_.toUInt32 >>> ((12 : Int32).toUInt32 &&& Int32.toUInt32 31)).toInt32) &&& 7) = 5 then 34 else 40)) else 40))) (fun (u : Unit) => [])) 0 0 (va_A [] sz) := by
  refine Met.ofW (cc := cX4_plainKind) (maxL := 2) (ret := (some .int)) (by decide) rfl ?_
  intro p e s m args below meth c s₁ B hml hv
  obtain ⟨rfl, hsz, hP, hKK, hD0, hFx⟩ := hv
  have hK := hKK.1
  have hx := B.exec
  have hb := B.bytes
  have hr := B.returns
  have ht : ∀ w ∈ tw_W, w.before _ s = true := fun w h => atoms_spec (ws := Cond.code yX4_plainKind cX4_plainKind 2 (some .int) :: tw_W) B.pre w (List.mem_cons_of_mem _ h)
  have hown : s.vm.findClass RX4 = some m.cls := findClass_of_methodNamed B.named
  have hlocks := B.notSynchronized
  subst hsz
  unfold qi_
  have hD := hD0.self (sz := s.heap.size)
  generalize hAe : va_A [] s.heap.size = A at hD hFx ⊢
  have hA : ∀ q : Nat, s.heap.size ≤ q → A q := fun q h => by rw [← hAe]; exact Or.inr h
  have hS : va_S A s.heap s.heap [] := va_S.rf
  have hP : va_P (dC, dI) vwCl [] s.heap := hP
  have hl := lv_entry ([.int (((x0_.toUInt32 >>> ((12 : Int32).toUInt32 &&& Int32.toUInt32 31)).toInt32) &&& 7), .int ((x0_.toUInt32 >>> ((25 : Int32).toUInt32 &&& Int32.toUInt32 31)).toInt32)]) (n := 2) (Nat.le_of_ble_eq_true rfl)
  rw [lg_entry_eq]
  generalize (lg_sl ([.int (((x0_.toUInt32 >>> ((12 : Int32).toUInt32 &&& Int32.toUInt32 31)).toInt32) &&& 7), .int ((x0_.toUInt32 >>> ((25 : Int32).toUInt32 &&& Int32.toUInt32 31)).toInt32)]) ++ List.replicate (2 - (lg_sl ([.int (((x0_.toUInt32 >>> ((12 : Int32).toUInt32 &&& Int32.toUInt32 31)).toInt32) &&& 7), .int ((x0_.toUInt32 >>> ((25 : Int32).toUInt32 &&& Int32.toUInt32 31)).toInt32)])).length) Slot.unset).toArray = ls at hl ⊢
  have hl : lv_has ls 2 [(0, .int (((x0_.toUInt32 >>> ((12 : Int32).toUInt32 &&& Int32.toUInt32 31)).toInt32) &&& 7)), (1, .int ((x0_.toUInt32 >>> ((25 : Int32).toUInt32 &&& Int32.toUInt32 31)).toInt32))] := hl
  refine lv_iload_n hx hb xdX4_plainKind_0 rfl (lv_at hl 1 rfl) ?_
  refine lv_if_ne (tgt := 13) hx hb xdX4_plainKind_1 (by decide) (fun h1 => ?_) (fun h1 => ?_)
  · refine lv_iload_n hx hb xdX4_plainKind_13 rfl (lv_at hl 1 rfl) ?_
    refine lv_bipush (v := 32) hx hb xdX4_plainKind_14 (by decide) ?_
    refine lv_icmp_eq (tgt := 22) hx hb xdX4_plainKind_16 (by decide) (fun h2 => ?_) (fun h2 => ?_)
    · refine lv_iload_n hx hb xdX4_plainKind_22 rfl (lv_at hl 0 rfl) ?_
      refine lv_if_ne (tgt := 31) hx hb xdX4_plainKind_23 (by decide) (fun h3 => ?_) (fun h3 => ?_)
      · refine lv_iload_n hx hb xdX4_plainKind_31 rfl (lv_at hl 0 rfl) ?_
        refine lv_iconst (v := 5) hx hb xdX4_plainKind_32 (by decide) ?_
        refine lv_icmp_ne (tgt := 41) hx hb xdX4_plainKind_33 (by decide) (fun h4 => ?_) (fun h4 => ?_)
        · refine lv_bipush (v := 40) hx hb xdX4_plainKind_41 (by decide) ?_
          have hP9 := hP.sub (ws' := []) [] rfl
          have hD9 := hD.sub (ws' := []) [] (by decide) rfl
          refine W.widen (k := 0) (n := 0) (by omega) (by omega) ?_
          exact W.iret (v := 40) hx hb hr (fun t ht9 hW => ⟨⟨40, (), rfl, (by rw [if_neg h1, if_pos h2, if_neg h3, if_neg h4]), by rw [ht9]; exact hP9, hD9⟩, hS.F ht9⟩) hS.2.2 xdX4_plainKind_43
        · refine lv_bipush (v := 34) hx hb xdX4_plainKind_36 (by decide) ?_
          refine lv_goto (tgt := 43) hx hb xdX4_plainKind_38 (by decide) ?_
          have hP9 := hP.sub (ws' := []) [] rfl
          have hD9 := hD.sub (ws' := []) [] (by decide) rfl
          refine W.widen (k := 0) (n := 0) (by omega) (by omega) ?_
          exact W.iret (v := 34) hx hb hr (fun t ht9 hW => ⟨⟨34, (), rfl, (by rw [if_neg h1, if_pos h2, if_neg h3, if_pos h4]), by rw [ht9]; exact hP9, hD9⟩, hS.F ht9⟩) hS.2.2 xdX4_plainKind_43
      · refine lv_bipush (v := 28) hx hb xdX4_plainKind_26 (by decide) ?_
        refine lv_goto (tgt := 43) hx hb xdX4_plainKind_28 (by decide) ?_
        have hP9 := hP.sub (ws' := []) [] rfl
        have hD9 := hD.sub (ws' := []) [] (by decide) rfl
        refine W.widen (k := 0) (n := 0) (by omega) (by omega) ?_
        exact W.iret (v := 28) hx hb hr (fun t ht9 hW => ⟨⟨28, (), rfl, (by rw [if_neg h1, if_pos h2, if_pos h3]), by rw [ht9]; exact hP9, hD9⟩, hS.F ht9⟩) hS.2.2 xdX4_plainKind_43
    · refine lv_bipush (v := 40) hx hb xdX4_plainKind_19 (by decide) ?_
      have hP9 := hP.sub (ws' := []) [] rfl
      have hD9 := hD.sub (ws' := []) [] (by decide) rfl
      refine W.widen (k := 0) (n := 0) (by omega) (by omega) ?_
      exact W.iret (v := 40) hx hb hr (fun t ht9 hW => ⟨⟨40, (), rfl, (by rw [if_neg h1, if_neg h2]), by rw [ht9]; exact hP9, hD9⟩, hS.F ht9⟩) hS.2.2 xdX4_plainKind_21
  · refine va_gets hx hb (hFx.2.1 4 _ rfl).1 hS hown (ht _ xw_96) (fun _ h9 => h9) xdX4_plainKind_4 ?_
    refine lv_iload_n hx hb xdX4_plainKind_7 rfl (lv_at hl 0 rfl) ?_
    refine lv_bipush (v := 7) hx hb xdX4_plainKind_8 (by decide) ?_
    refine lv_iand hx hb xdX4_plainKind_10 ?_
    refine va_ti (v := .int ([27, 29, 30, 31, 32, 33, 35, 36].getD ((((x0_.toUInt32 >>> ((12 : Int32).toUInt32 &&& Int32.toUInt32 31)).toInt32) &&& 7) &&& 7).toNatClampNeg 0)) hx hb (hFx.2.1 4 _ rfl).2 hS (pk_andIn (((x0_.toUInt32 >>> ((12 : Int32).toUInt32 &&& Int32.toUInt32 31)).toInt32) &&& 7) 3 (by decide) (by decide)) rfl xdX4_plainKind_11 ?_
    have hP9 := hP.sub (ws' := []) [] rfl
    have hD9 := hD.sub (ws' := []) [] (by decide) rfl
    refine W.widen (k := 0) (n := 0) (by omega) (by omega) ?_
    exact W.iret (v := ([27, 29, 30, 31, 32, 33, 35, 36].getD ((((x0_.toUInt32 >>> ((12 : Int32).toUInt32 &&& Int32.toUInt32 31)).toInt32) &&& 7) &&& 7).toNatClampNeg 0)) hx hb hr (fun t ht9 hW => ⟨⟨([27, 29, 30, 31, 32, 33, 35, 36].getD ((((x0_.toUInt32 >>> ((12 : Int32).toUInt32 &&& Int32.toUInt32 31)).toInt32) &&& 7) &&& 7).toNatClampNeg 0), (), rfl, (by rw [if_pos h1]), by rw [ht9]; exact hP9, hD9⟩, hS.F ht9⟩) hS.2.2 xdX4_plainKind_12
set_option maxHeartbeats 4000000 in
set_option maxRecDepth 100000 in
/-- Instruction.kindOf -/
theorem c_sx_kindOf (l : Launch) (dC : Nat → ClassId) (dI : Nat → Nat → Nat) (cI cB cZ cJ cR : ClassId) (tb : Nat → Nat) (sz : Nat) (w : Int32)  : Met l yX4_kindOf (Cond.code yX4_kindOf cX4_kindOf 2 (some .int) :: tw_W) ({ frames := 1, cells := 0, slots := 0, locals := 22 }) (pc_ (dC, dI) (tyS cI cB cZ cJ cR) tb [] sz [.int w]) (qi_ (dC, dI) [] sz (fun (r : Int32) (u : Unit) => r = (if (w &&& 127) = 3 then ([10, 11, 12, 40, 13, 14, 40, 40].getD (((w.toUInt32 >>> ((12 : Int32).toUInt32 &&& Int32.toUInt32 31)).toInt32) &&& 7).toNatClampNeg 0) else (if (w &&& 127) = 15 then (if (((w.toUInt32 >>> ((12 : Int32).toUInt32 &&& Int32.toUInt32 31)).toInt32) &&& 7) = 0 then 37 else 40) else (if (w &&& 127) = 19 then (if (((w.toUInt32 >>> ((12 : Int32).toUInt32 &&& Int32.toUInt32 31)).toInt32) &&& 7) = 1 then (if ((w.toUInt32 >>> ((25 : Int32).toUInt32 &&& Int32.toUInt32 31)).toInt32) = 0 then ([18, 24, 19, 20, 21, 25, 22, 23].getD ((((w.toUInt32 >>> ((12 : Int32).toUInt32 &&& Int32.toUInt32 31)).toInt32) &&& 7) &&& 7).toNatClampNeg 0) else 40) else (if (((w.toUInt32 >>> ((12 : Int32).toUInt32 &&& Int32.toUInt32 31)).toInt32) &&& 7) = 5 then (if ((w.toUInt32 >>> ((25 : Int32).toUInt32 &&& Int32.toUInt32 31)).toInt32) = 0 then ([18, 24, 19, 20, 21, 25, 22, 23].getD ((((w.toUInt32 >>> ((12 : Int32).toUInt32 &&& Int32.toUInt32 31)).toInt32) &&& 7) &&& 7).toNatClampNeg 0) else (if ((w.toUInt32 >>> ((25 : Int32).toUInt32 &&& Int32.toUInt32 31)).toInt32) = 32 then 26 else 40)) else ([18, 24, 19, 20, 21, 25, 22, 23].getD ((((w.toUInt32 >>> ((12 : Int32).toUInt32 &&& Int32.toUInt32 31)).toInt32) &&& 7) &&& 7).toNatClampNeg 0))) else (if (w &&& 127) = 23 then 1 else (if (w &&& 127) = 35 then ([15, 16, 17, 40, 40, 40, 40, 40].getD (((w.toUInt32 >>> ((12 : Int32).toUInt32 &&& Int32.toUInt32 31)).toInt32) &&& 7).toNatClampNeg 0) else (if (w &&& 127) = 51 then (if ((w.toUInt32 >>> ((25 : Int32).toUInt32 &&& Int32.toUInt32 31)).toInt32) = 0 then ([27, 29, 30, 31, 32, 33, 35, 36].getD ((((w.toUInt32 >>> ((12 : Int32).toUInt32 &&& Int32.toUInt32 31)).toInt32) &&& 7) &&& 7).toNatClampNeg 0) else (if ((w.toUInt32 >>> ((25 : Int32).toUInt32 &&& Int32.toUInt32 31)).toInt32) = 32 then (if (((w.toUInt32 >>> ((12 : Int32).toUInt32 &&& Int32.toUInt32 31)).toInt32) &&& 7) = 0 then 28 else (if (((w.toUInt32 >>> ((12 : Int32).toUInt32 &&& Int32.toUInt32 31)).toInt32) &&& 7) = 5 then 34 else 40)) else 40)) else (if (w &&& 127) = 55 then 0 else (if (w &&& 127) = 99 then ([4, 5, 40, 40, 6, 7, 8, 9].getD (((w.toUInt32 >>> ((12 : Int32).toUInt32 &&& Int32.toUInt32 31)).toInt32) &&& 7).toNatClampNeg 0) else (if (w &&& 127) = 103 then (if (((w.toUInt32 >>> ((12 : Int32).toUInt32 &&& Int32.toUInt32 31)).toInt32) &&& 7) = 0 then 3 else 40) else (if (w &&& 127) = 111 then 2 else (if (w &&& 127) = 115 then (if w = 115 then 38 else (if w = 1048691 then 39 else 40)) else 40)))))))))))) (fun (u : Unit) => [])) 0 0 (va_A [] sz) := by
  refine Met.ofW (cc := cX4_kindOf) (maxL := 2) (ret := (some .int)) (by decide) rfl ?_
  intro p e s m args below meth c s₁ B hml hv
  obtain ⟨rfl, hsz, hP, hKK, hD0, hFx⟩ := hv
  have hK := hKK.1
  have hx := B.exec
  have hb := B.bytes
  have hr := B.returns
  have ht : ∀ w ∈ tw_W, w.before _ s = true := fun w h => atoms_spec (ws := Cond.code yX4_kindOf cX4_kindOf 2 (some .int) :: tw_W) B.pre w (List.mem_cons_of_mem _ h)
  have hown : s.vm.findClass RX4 = some m.cls := findClass_of_methodNamed B.named
  have hlocks := B.notSynchronized
  subst hsz
  unfold qi_
  have hD := hD0.self (sz := s.heap.size)
  generalize hAe : va_A [] s.heap.size = A at hD hFx ⊢
  have hA : ∀ q : Nat, s.heap.size ≤ q → A q := fun q h => by rw [← hAe]; exact Or.inr h
  have hS : va_S A s.heap s.heap [] := va_S.rf
  have hP : va_P (dC, dI) vwCl [] s.heap := hP
  have hl := lv_entry ([.int w]) (n := 2) (Nat.le_of_ble_eq_true rfl)
  rw [lg_entry_eq]
  generalize (lg_sl ([.int w]) ++ List.replicate (2 - (lg_sl ([.int w])).length) Slot.unset).toArray = ls at hl ⊢
  have hl : lv_has ls 2 [(0, .int w)] := hl
  refine lv_iload_n hx hb xdX4_kindOf_0 rfl (lv_at hl 0 rfl) ?_
  refine lv_bipush (v := 12) hx hb xdX4_kindOf_1 (by decide) ?_
  refine lv_iushr hx hb xdX4_kindOf_3 rfl ?_
  refine lv_bipush (v := 7) hx hb xdX4_kindOf_4 (by decide) ?_
  refine lv_iand hx hb xdX4_kindOf_6 ?_
  refine lv_istore_n (lv' := [(1, .int (((w.toUInt32 >>> ((12 : Int32).toUInt32 &&& Int32.toUInt32 31)).toInt32) &&& 7)), (0, .int w)]) hx hb xdX4_kindOf_7 rfl hl (by decide) rfl (fun ls hl => ?_)
  refine lv_iload_n hx hb xdX4_kindOf_8 rfl (lv_at hl 1 rfl) ?_
  refine lv_bipush (v := 127) hx hb xdX4_kindOf_9 (by decide) ?_
  refine lv_iand hx hb xdX4_kindOf_11 ?_
  by_cases h1 : (w &&& 127) = 3
  · refine lv_lookup (off := 123) (tgt := 135) hx hb xdX4_kindOf_12 (by decide) (by rw [h1]; decide) (by decide) ?_
    refine va_gets hx hb (hFx.2.1 1 _ rfl).1 hS hown (ht _ xw_91) (fun _ h9 => h9) xdX4_kindOf_135 ?_
    refine lv_iload_n hx hb xdX4_kindOf_138 rfl (lv_at hl 0 rfl) ?_
    refine va_ti (v := .int ([10, 11, 12, 40, 13, 14, 40, 40].getD (((w.toUInt32 >>> ((12 : Int32).toUInt32 &&& Int32.toUInt32 31)).toInt32) &&& 7).toNatClampNeg 0)) hx hb (hFx.2.1 1 _ rfl).2 hS (pk_andIn ((w.toUInt32 >>> ((12 : Int32).toUInt32 &&& Int32.toUInt32 31)).toInt32) 3 (by decide) (by decide)) rfl xdX4_kindOf_139 ?_
    have hP9 := hP.sub (ws' := []) [] rfl
    have hD9 := hD.sub (ws' := []) [] (by decide) rfl
    refine W.widen (k := 0) (n := 0) (by omega) (by omega) ?_
    exact W.iret (v := ([10, 11, 12, 40, 13, 14, 40, 40].getD (((w.toUInt32 >>> ((12 : Int32).toUInt32 &&& Int32.toUInt32 31)).toInt32) &&& 7).toNatClampNeg 0)) hx hb hr (fun t ht9 hW => ⟨⟨([10, 11, 12, 40, 13, 14, 40, 40].getD (((w.toUInt32 >>> ((12 : Int32).toUInt32 &&& Int32.toUInt32 31)).toInt32) &&& 7).toNatClampNeg 0), (), rfl, (by rw [if_pos h1]), by rw [ht9]; exact hP9, hD9⟩, hS.F ht9⟩) hS.2.2 xdX4_kindOf_140
  ·
    by_cases h2 : (w &&& 127) = 15
    · refine lv_lookup (off := 153) (tgt := 165) hx hb xdX4_kindOf_12 (by decide) (by rw [h2]; decide) (by decide) ?_
      refine lv_iload_n hx hb xdX4_kindOf_165 rfl (lv_at hl 0 rfl) ?_
      refine lv_if_ne (tgt := 174) hx hb xdX4_kindOf_166 (by decide) (fun h3 => ?_) (fun h3 => ?_)
      · refine lv_bipush (v := 40) hx hb xdX4_kindOf_174 (by decide) ?_
        have hP9 := hP.sub (ws' := []) [] rfl
        have hD9 := hD.sub (ws' := []) [] (by decide) rfl
        refine W.widen (k := 0) (n := 0) (by omega) (by omega) ?_
        exact W.iret (v := 40) hx hb hr (fun t ht9 hW => ⟨⟨40, (), rfl, (by rw [if_neg h1, if_pos h2, if_neg h3]), by rw [ht9]; exact hP9, hD9⟩, hS.F ht9⟩) hS.2.2 xdX4_kindOf_176
      · refine lv_bipush (v := 37) hx hb xdX4_kindOf_169 (by decide) ?_
        refine lv_goto (tgt := 176) hx hb xdX4_kindOf_171 (by decide) ?_
        have hP9 := hP.sub (ws' := []) [] rfl
        have hD9 := hD.sub (ws' := []) [] (by decide) rfl
        refine W.widen (k := 0) (n := 0) (by omega) (by omega) ?_
        exact W.iret (v := 37) hx hb hr (fun t ht9 hW => ⟨⟨37, (), rfl, (by rw [if_neg h1, if_pos h2, if_pos h3]), by rw [ht9]; exact hP9, hD9⟩, hS.F ht9⟩) hS.2.2 xdX4_kindOf_176
    ·
      by_cases h4 : (w &&& 127) = 19
      · refine lv_lookup (off := 135) (tgt := 147) hx hb xdX4_kindOf_12 (by decide) (by rw [h4]; decide) (by decide) ?_
        refine lv_iload_n hx hb xdX4_kindOf_147 rfl (lv_at hl 0 rfl) ?_
        refine lv_iload_n hx hb xdX4_kindOf_148 rfl (lv_at hl 1 rfl) ?_
        refine lv_bipush (v := 25) hx hb xdX4_kindOf_149 (by decide) ?_
        refine lv_iushr hx hb xdX4_kindOf_151 rfl ?_
        refine ca_i (wr := []) (rn_S (n := 2) (As := [.int (((w.toUInt32 >>> ((12 : Int32).toUInt32 &&& Int32.toUInt32 31)).toInt32) &&& 7), .int ((w.toUInt32 >>> ((25 : Int32).toUInt32 &&& Int32.toUInt32 31)).toInt32)]) (rest := []) hx hb hml hown ht hKK hFx hP hD hS hA (c_sx_X4_numberedKind l dC dI cI cB cZ cJ cR tb s.heap.size w) xw_93 xw_94 (by decide +kernel) rfl rfl ⟨Nat.le_of_ble_eq_true rfl, Nat.le_of_ble_eq_true rfl⟩ [] rfl (by decide) rfl hl.1 rfl (Nat.le_of_ble_eq_true rfl) xdX4_kindOf_152 ⟨Nat.le_of_ble_eq_true rfl, Nat.le_of_ble_eq_true rfl⟩) hP hD hS hA (isC := []) (isR := []) rfl rfl (by decide) (by decide) (fun r6 u H locs hw5 hP hD hS => ?_)
        subst hw5
        have hP : va_P (dC, dI) vwCl [] H := hP
        have hD : va_D A [] := hD
        refine W.widen (k := 0) (n := 0) (by omega) (by omega) ?_
        have hP9 := hP.sub (ws' := []) [] rfl
        have hD9 := hD.sub (ws' := []) [] (by decide) rfl
        refine W.widen (k := 0) (n := 0) (by omega) (by omega) ?_
        exact W.iret (v := (if (((w.toUInt32 >>> ((12 : Int32).toUInt32 &&& Int32.toUInt32 31)).toInt32) &&& 7) = 1 then (if ((w.toUInt32 >>> ((25 : Int32).toUInt32 &&& Int32.toUInt32 31)).toInt32) = 0 then ([18, 24, 19, 20, 21, 25, 22, 23].getD ((((w.toUInt32 >>> ((12 : Int32).toUInt32 &&& Int32.toUInt32 31)).toInt32) &&& 7) &&& 7).toNatClampNeg 0) else 40) else (if (((w.toUInt32 >>> ((12 : Int32).toUInt32 &&& Int32.toUInt32 31)).toInt32) &&& 7) = 5 then (if ((w.toUInt32 >>> ((25 : Int32).toUInt32 &&& Int32.toUInt32 31)).toInt32) = 0 then ([18, 24, 19, 20, 21, 25, 22, 23].getD ((((w.toUInt32 >>> ((12 : Int32).toUInt32 &&& Int32.toUInt32 31)).toInt32) &&& 7) &&& 7).toNatClampNeg 0) else (if ((w.toUInt32 >>> ((25 : Int32).toUInt32 &&& Int32.toUInt32 31)).toInt32) = 32 then 26 else 40)) else ([18, 24, 19, 20, 21, 25, 22, 23].getD ((((w.toUInt32 >>> ((12 : Int32).toUInt32 &&& Int32.toUInt32 31)).toInt32) &&& 7) &&& 7).toNatClampNeg 0)))) hx hb hr (fun t ht9 hW => ⟨⟨(if (((w.toUInt32 >>> ((12 : Int32).toUInt32 &&& Int32.toUInt32 31)).toInt32) &&& 7) = 1 then (if ((w.toUInt32 >>> ((25 : Int32).toUInt32 &&& Int32.toUInt32 31)).toInt32) = 0 then ([18, 24, 19, 20, 21, 25, 22, 23].getD ((((w.toUInt32 >>> ((12 : Int32).toUInt32 &&& Int32.toUInt32 31)).toInt32) &&& 7) &&& 7).toNatClampNeg 0) else 40) else (if (((w.toUInt32 >>> ((12 : Int32).toUInt32 &&& Int32.toUInt32 31)).toInt32) &&& 7) = 5 then (if ((w.toUInt32 >>> ((25 : Int32).toUInt32 &&& Int32.toUInt32 31)).toInt32) = 0 then ([18, 24, 19, 20, 21, 25, 22, 23].getD ((((w.toUInt32 >>> ((12 : Int32).toUInt32 &&& Int32.toUInt32 31)).toInt32) &&& 7) &&& 7).toNatClampNeg 0) else (if ((w.toUInt32 >>> ((25 : Int32).toUInt32 &&& Int32.toUInt32 31)).toInt32) = 32 then 26 else 40)) else ([18, 24, 19, 20, 21, 25, 22, 23].getD ((((w.toUInt32 >>> ((12 : Int32).toUInt32 &&& Int32.toUInt32 31)).toInt32) &&& 7) &&& 7).toNatClampNeg 0))), (), rfl, (by rw [if_neg h1, if_neg h2, if_pos h4]), by rw [ht9]; exact hP9, hD9⟩, hS.F ht9⟩) hS.2.2 xdX4_kindOf_155
      ·
        by_cases h7 : (w &&& 127) = 23
        · refine lv_lookup (off := 102) (tgt := 114) hx hb xdX4_kindOf_12 (by decide) (by rw [h7]; decide) (by decide) ?_
          refine lv_iconst (v := 1) hx hb xdX4_kindOf_114 (by decide) ?_
          have hP9 := hP.sub (ws' := []) [] rfl
          have hD9 := hD.sub (ws' := []) [] (by decide) rfl
          refine W.widen (k := 0) (n := 0) (by omega) (by omega) ?_
          exact W.iret (v := 1) hx hb hr (fun t ht9 hW => ⟨⟨1, (), rfl, (by rw [if_neg h1, if_neg h2, if_neg h4, if_pos h7]), by rw [ht9]; exact hP9, hD9⟩, hS.F ht9⟩) hS.2.2 xdX4_kindOf_115
        ·
          by_cases h8 : (w &&& 127) = 35
          · refine lv_lookup (off := 129) (tgt := 141) hx hb xdX4_kindOf_12 (by decide) (by rw [h8]; decide) (by decide) ?_
            refine va_gets hx hb (hFx.2.1 2 _ rfl).1 hS hown (ht _ xw_95) (fun _ h9 => h9) xdX4_kindOf_141 ?_
            refine lv_iload_n hx hb xdX4_kindOf_144 rfl (lv_at hl 0 rfl) ?_
            refine va_ti (v := .int ([15, 16, 17, 40, 40, 40, 40, 40].getD (((w.toUInt32 >>> ((12 : Int32).toUInt32 &&& Int32.toUInt32 31)).toInt32) &&& 7).toNatClampNeg 0)) hx hb (hFx.2.1 2 _ rfl).2 hS (pk_andIn ((w.toUInt32 >>> ((12 : Int32).toUInt32 &&& Int32.toUInt32 31)).toInt32) 3 (by decide) (by decide)) rfl xdX4_kindOf_145 ?_
            have hP9 := hP.sub (ws' := []) [] rfl
            have hD9 := hD.sub (ws' := []) [] (by decide) rfl
            refine W.widen (k := 0) (n := 0) (by omega) (by omega) ?_
            exact W.iret (v := ([15, 16, 17, 40, 40, 40, 40, 40].getD (((w.toUInt32 >>> ((12 : Int32).toUInt32 &&& Int32.toUInt32 31)).toInt32) &&& 7).toNatClampNeg 0)) hx hb hr (fun t ht9 hW => ⟨⟨([15, 16, 17, 40, 40, 40, 40, 40].getD (((w.toUInt32 >>> ((12 : Int32).toUInt32 &&& Int32.toUInt32 31)).toInt32) &&& 7).toNatClampNeg 0), (), rfl, (by rw [if_neg h1, if_neg h2, if_neg h4, if_neg h7, if_pos h8]), by rw [ht9]; exact hP9, hD9⟩, hS.F ht9⟩) hS.2.2 xdX4_kindOf_146
          ·
            by_cases h9 : (w &&& 127) = 51
            · refine lv_lookup (off := 144) (tgt := 156) hx hb xdX4_kindOf_12 (by decide) (by rw [h9]; decide) (by decide) ?_
              refine lv_iload_n hx hb xdX4_kindOf_156 rfl (lv_at hl 0 rfl) ?_
              refine lv_iload_n hx hb xdX4_kindOf_157 rfl (lv_at hl 1 rfl) ?_
              refine lv_bipush (v := 25) hx hb xdX4_kindOf_158 (by decide) ?_
              refine lv_iushr hx hb xdX4_kindOf_160 rfl ?_
              refine ca_i (wr := []) (rn_S (n := 2) (As := [.int (((w.toUInt32 >>> ((12 : Int32).toUInt32 &&& Int32.toUInt32 31)).toInt32) &&& 7), .int ((w.toUInt32 >>> ((25 : Int32).toUInt32 &&& Int32.toUInt32 31)).toInt32)]) (rest := []) hx hb hml hown ht hKK hFx hP hD hS hA (c_sx_X4_plainKind l dC dI cI cB cZ cJ cR tb s.heap.size w) xw_97 xw_98 (by decide +kernel) rfl rfl ⟨Nat.le_of_ble_eq_true rfl, Nat.le_of_ble_eq_true rfl⟩ [] rfl (by decide) rfl hl.1 rfl (Nat.le_of_ble_eq_true rfl) xdX4_kindOf_161 ⟨Nat.le_of_ble_eq_true rfl, Nat.le_of_ble_eq_true rfl⟩) hP hD hS hA (isC := []) (isR := []) rfl rfl (by decide) (by decide) (fun r11 u H locs hw10 hP hD hS => ?_)
              subst hw10
              have hP : va_P (dC, dI) vwCl [] H := hP
              have hD : va_D A [] := hD
              refine W.widen (k := 0) (n := 0) (by omega) (by omega) ?_
              have hP9 := hP.sub (ws' := []) [] rfl
              have hD9 := hD.sub (ws' := []) [] (by decide) rfl
              refine W.widen (k := 0) (n := 0) (by omega) (by omega) ?_
              exact W.iret (v := (if ((w.toUInt32 >>> ((25 : Int32).toUInt32 &&& Int32.toUInt32 31)).toInt32) = 0 then ([27, 29, 30, 31, 32, 33, 35, 36].getD ((((w.toUInt32 >>> ((12 : Int32).toUInt32 &&& Int32.toUInt32 31)).toInt32) &&& 7) &&& 7).toNatClampNeg 0) else (if ((w.toUInt32 >>> ((25 : Int32).toUInt32 &&& Int32.toUInt32 31)).toInt32) = 32 then (if (((w.toUInt32 >>> ((12 : Int32).toUInt32 &&& Int32.toUInt32 31)).toInt32) &&& 7) = 0 then 28 else (if (((w.toUInt32 >>> ((12 : Int32).toUInt32 &&& Int32.toUInt32 31)).toInt32) &&& 7) = 5 then 34 else 40)) else 40))) hx hb hr (fun t ht9 hW => ⟨⟨(if ((w.toUInt32 >>> ((25 : Int32).toUInt32 &&& Int32.toUInt32 31)).toInt32) = 0 then ([27, 29, 30, 31, 32, 33, 35, 36].getD ((((w.toUInt32 >>> ((12 : Int32).toUInt32 &&& Int32.toUInt32 31)).toInt32) &&& 7) &&& 7).toNatClampNeg 0) else (if ((w.toUInt32 >>> ((25 : Int32).toUInt32 &&& Int32.toUInt32 31)).toInt32) = 32 then (if (((w.toUInt32 >>> ((12 : Int32).toUInt32 &&& Int32.toUInt32 31)).toInt32) &&& 7) = 0 then 28 else (if (((w.toUInt32 >>> ((12 : Int32).toUInt32 &&& Int32.toUInt32 31)).toInt32) &&& 7) = 5 then 34 else 40)) else 40)), (), rfl, (by rw [if_neg h1, if_neg h2, if_neg h4, if_neg h7, if_neg h8, if_pos h9]), by rw [ht9]; exact hP9, hD9⟩, hS.F ht9⟩) hS.2.2 xdX4_kindOf_164
            ·
              by_cases h12 : (w &&& 127) = 55
              · refine lv_lookup (off := 100) (tgt := 112) hx hb xdX4_kindOf_12 (by decide) (by rw [h12]; decide) (by decide) ?_
                refine lv_iconst (v := 0) hx hb xdX4_kindOf_112 (by decide) ?_
                have hP9 := hP.sub (ws' := []) [] rfl
                have hD9 := hD.sub (ws' := []) [] (by decide) rfl
                refine W.widen (k := 0) (n := 0) (by omega) (by omega) ?_
                exact W.iret (v := 0) hx hb hr (fun t ht9 hW => ⟨⟨0, (), rfl, (by rw [if_neg h1, if_neg h2, if_neg h4, if_neg h7, if_neg h8, if_neg h9, if_pos h12]), by rw [ht9]; exact hP9, hD9⟩, hS.F ht9⟩) hS.2.2 xdX4_kindOf_113
              ·
                by_cases h13 : (w &&& 127) = 99
                · refine lv_lookup (off := 117) (tgt := 129) hx hb xdX4_kindOf_12 (by decide) (by rw [h13]; decide) (by decide) ?_
                  refine va_gets hx hb (hFx.2.1 0 _ rfl).1 hS hown (ht _ xw_99) (fun _ h9 => h9) xdX4_kindOf_129 ?_
                  refine lv_iload_n hx hb xdX4_kindOf_132 rfl (lv_at hl 0 rfl) ?_
                  refine va_ti (v := .int ([4, 5, 40, 40, 6, 7, 8, 9].getD (((w.toUInt32 >>> ((12 : Int32).toUInt32 &&& Int32.toUInt32 31)).toInt32) &&& 7).toNatClampNeg 0)) hx hb (hFx.2.1 0 _ rfl).2 hS (pk_andIn ((w.toUInt32 >>> ((12 : Int32).toUInt32 &&& Int32.toUInt32 31)).toInt32) 3 (by decide) (by decide)) rfl xdX4_kindOf_133 ?_
                  have hP9 := hP.sub (ws' := []) [] rfl
                  have hD9 := hD.sub (ws' := []) [] (by decide) rfl
                  refine W.widen (k := 0) (n := 0) (by omega) (by omega) ?_
                  exact W.iret (v := ([4, 5, 40, 40, 6, 7, 8, 9].getD (((w.toUInt32 >>> ((12 : Int32).toUInt32 &&& Int32.toUInt32 31)).toInt32) &&& 7).toNatClampNeg 0)) hx hb hr (fun t ht9 hW => ⟨⟨([4, 5, 40, 40, 6, 7, 8, 9].getD (((w.toUInt32 >>> ((12 : Int32).toUInt32 &&& Int32.toUInt32 31)).toInt32) &&& 7).toNatClampNeg 0), (), rfl, (by rw [if_neg h1, if_neg h2, if_neg h4, if_neg h7, if_neg h8, if_neg h9, if_neg h12, if_pos h13]), by rw [ht9]; exact hP9, hD9⟩, hS.F ht9⟩) hS.2.2 xdX4_kindOf_134
                ·
                  by_cases h14 : (w &&& 127) = 103
                  · refine lv_lookup (off := 106) (tgt := 118) hx hb xdX4_kindOf_12 (by decide) (by rw [h14]; decide) (by decide) ?_
                    refine lv_iload_n hx hb xdX4_kindOf_118 rfl (lv_at hl 0 rfl) ?_
                    refine lv_if_ne (tgt := 126) hx hb xdX4_kindOf_119 (by decide) (fun h15 => ?_) (fun h15 => ?_)
                    · refine lv_bipush (v := 40) hx hb xdX4_kindOf_126 (by decide) ?_
                      have hP9 := hP.sub (ws' := []) [] rfl
                      have hD9 := hD.sub (ws' := []) [] (by decide) rfl
                      refine W.widen (k := 0) (n := 0) (by omega) (by omega) ?_
                      exact W.iret (v := 40) hx hb hr (fun t ht9 hW => ⟨⟨40, (), rfl, (by rw [if_neg h1, if_neg h2, if_neg h4, if_neg h7, if_neg h8, if_neg h9, if_neg h12, if_neg h13, if_pos h14, if_neg h15]), by rw [ht9]; exact hP9, hD9⟩, hS.F ht9⟩) hS.2.2 xdX4_kindOf_128
                    · refine lv_iconst (v := 3) hx hb xdX4_kindOf_122 (by decide) ?_
                      refine lv_goto (tgt := 128) hx hb xdX4_kindOf_123 (by decide) ?_
                      have hP9 := hP.sub (ws' := []) [] rfl
                      have hD9 := hD.sub (ws' := []) [] (by decide) rfl
                      refine W.widen (k := 0) (n := 0) (by omega) (by omega) ?_
                      exact W.iret (v := 3) hx hb hr (fun t ht9 hW => ⟨⟨3, (), rfl, (by rw [if_neg h1, if_neg h2, if_neg h4, if_neg h7, if_neg h8, if_neg h9, if_neg h12, if_neg h13, if_pos h14, if_pos h15]), by rw [ht9]; exact hP9, hD9⟩, hS.F ht9⟩) hS.2.2 xdX4_kindOf_128
                  ·
                    by_cases h16 : (w &&& 127) = 111
                    · refine lv_lookup (off := 104) (tgt := 116) hx hb xdX4_kindOf_12 (by decide) (by rw [h16]; decide) (by decide) ?_
                      refine lv_iconst (v := 2) hx hb xdX4_kindOf_116 (by decide) ?_
                      have hP9 := hP.sub (ws' := []) [] rfl
                      have hD9 := hD.sub (ws' := []) [] (by decide) rfl
                      refine W.widen (k := 0) (n := 0) (by omega) (by omega) ?_
                      exact W.iret (v := 2) hx hb hr (fun t ht9 hW => ⟨⟨2, (), rfl, (by rw [if_neg h1, if_neg h2, if_neg h4, if_neg h7, if_neg h8, if_neg h9, if_neg h12, if_neg h13, if_neg h14, if_pos h16]), by rw [ht9]; exact hP9, hD9⟩, hS.F ht9⟩) hS.2.2 xdX4_kindOf_117
                    ·
                      by_cases h17 : (w &&& 127) = 115
                      · refine lv_lookup (off := 165) (tgt := 177) hx hb xdX4_kindOf_12 (by decide) (by rw [h17]; decide) (by decide) ?_
                        refine lv_iload_n hx hb xdX4_kindOf_177 rfl (lv_at hl 1 rfl) ?_
                        refine lv_bipush (v := 115) hx hb xdX4_kindOf_178 (by decide) ?_
                        refine lv_icmp_ne (tgt := 188) hx hb xdX4_kindOf_180 (by decide) (fun h18 => ?_) (fun h18 => ?_)
                        · refine lv_iload_n hx hb xdX4_kindOf_188 rfl (lv_at hl 1 rfl) ?_
                          refine lv_ldc (v := 1048691) hx hb hown (ht _ xw_100) xdX4_kindOf_189 ?_
                          refine lv_icmp_ne (tgt := 199) hx hb xdX4_kindOf_191 (by decide) (fun h19 => ?_) (fun h19 => ?_)
                          · refine lv_bipush (v := 40) hx hb xdX4_kindOf_199 (by decide) ?_
                            have hP9 := hP.sub (ws' := []) [] rfl
                            have hD9 := hD.sub (ws' := []) [] (by decide) rfl
                            refine W.widen (k := 0) (n := 0) (by omega) (by omega) ?_
                            exact W.iret (v := 40) hx hb hr (fun t ht9 hW => ⟨⟨40, (), rfl, (by rw [if_neg h1, if_neg h2, if_neg h4, if_neg h7, if_neg h8, if_neg h9, if_neg h12, if_neg h13, if_neg h14, if_neg h16, if_pos h17, if_neg h18, if_neg h19]), by rw [ht9]; exact hP9, hD9⟩, hS.F ht9⟩) hS.2.2 xdX4_kindOf_201
                          · refine lv_bipush (v := 39) hx hb xdX4_kindOf_194 (by decide) ?_
                            refine lv_goto (tgt := 201) hx hb xdX4_kindOf_196 (by decide) ?_
                            have hP9 := hP.sub (ws' := []) [] rfl
                            have hD9 := hD.sub (ws' := []) [] (by decide) rfl
                            refine W.widen (k := 0) (n := 0) (by omega) (by omega) ?_
                            exact W.iret (v := 39) hx hb hr (fun t ht9 hW => ⟨⟨39, (), rfl, (by rw [if_neg h1, if_neg h2, if_neg h4, if_neg h7, if_neg h8, if_neg h9, if_neg h12, if_neg h13, if_neg h14, if_neg h16, if_pos h17, if_neg h18, if_pos h19]), by rw [ht9]; exact hP9, hD9⟩, hS.F ht9⟩) hS.2.2 xdX4_kindOf_201
                        · refine lv_bipush (v := 38) hx hb xdX4_kindOf_183 (by decide) ?_
                          refine lv_goto (tgt := 201) hx hb xdX4_kindOf_185 (by decide) ?_
                          have hP9 := hP.sub (ws' := []) [] rfl
                          have hD9 := hD.sub (ws' := []) [] (by decide) rfl
                          refine W.widen (k := 0) (n := 0) (by omega) (by omega) ?_
                          exact W.iret (v := 38) hx hb hr (fun t ht9 hW => ⟨⟨38, (), rfl, (by rw [if_neg h1, if_neg h2, if_neg h4, if_neg h7, if_neg h8, if_neg h9, if_neg h12, if_neg h13, if_neg h14, if_neg h16, if_pos h17, if_pos h18]), by rw [ht9]; exact hP9, hD9⟩, hS.F ht9⟩) hS.2.2 xdX4_kindOf_201
                      ·
                        refine lv_lookup (off := 190) (tgt := 202) hx hb xdX4_kindOf_12 (by decide) (by show Op.lookupswitch.offset [(3, 123), (15, 153), (19, 135), (23, 102), (35, 129), (51, 144), (55, 100), (99, 117), (103, 106), (111, 104), (115, 165)] 190 _ = 190; rw [lv_osw h1 (by decide), lv_osw h2 (by decide), lv_osw h4 (by decide), lv_osw h7 (by decide), lv_osw h8 (by decide), lv_osw h9 (by decide), lv_osw h12 (by decide), lv_osw h13 (by decide), lv_osw h14 (by decide), lv_osw h16 (by decide), lv_osw h17 (by decide)]; rfl) (by decide) ?_
                        refine lv_bipush (v := 40) hx hb xdX4_kindOf_202 (by decide) ?_
                        have hP9 := hP.sub (ws' := []) [] rfl
                        have hD9 := hD.sub (ws' := []) [] (by decide) rfl
                        refine W.widen (k := 0) (n := 0) (by omega) (by omega) ?_
                        exact W.iret (v := 40) hx hb hr (fun t ht9 hW => ⟨⟨40, (), rfl, (by rw [if_neg h1, if_neg h2, if_neg h4, if_neg h7, if_neg h8, if_neg h9, if_neg h12, if_neg h13, if_neg h14, if_neg h16, if_neg h17]), by rw [ht9]; exact hP9, hD9⟩, hS.F ht9⟩) hS.2.2 xdX4_kindOf_204
def kdI (w : Int32) : Int32 := (if (w &&& 127) = 3 then ([10, 11, 12, 40, 13, 14, 40, 40].getD (((w.toUInt32 >>> ((12 : Int32).toUInt32 &&& Int32.toUInt32 31)).toInt32) &&& 7).toNatClampNeg 0) else (if (w &&& 127) = 15 then (if (((w.toUInt32 >>> ((12 : Int32).toUInt32 &&& Int32.toUInt32 31)).toInt32) &&& 7) = 0 then 37 else 40) else (if (w &&& 127) = 19 then (if (((w.toUInt32 >>> ((12 : Int32).toUInt32 &&& Int32.toUInt32 31)).toInt32) &&& 7) = 1 then (if ((w.toUInt32 >>> ((25 : Int32).toUInt32 &&& Int32.toUInt32 31)).toInt32) = 0 then ([18, 24, 19, 20, 21, 25, 22, 23].getD ((((w.toUInt32 >>> ((12 : Int32).toUInt32 &&& Int32.toUInt32 31)).toInt32) &&& 7) &&& 7).toNatClampNeg 0) else 40) else (if (((w.toUInt32 >>> ((12 : Int32).toUInt32 &&& Int32.toUInt32 31)).toInt32) &&& 7) = 5 then (if ((w.toUInt32 >>> ((25 : Int32).toUInt32 &&& Int32.toUInt32 31)).toInt32) = 0 then ([18, 24, 19, 20, 21, 25, 22, 23].getD ((((w.toUInt32 >>> ((12 : Int32).toUInt32 &&& Int32.toUInt32 31)).toInt32) &&& 7) &&& 7).toNatClampNeg 0) else (if ((w.toUInt32 >>> ((25 : Int32).toUInt32 &&& Int32.toUInt32 31)).toInt32) = 32 then 26 else 40)) else ([18, 24, 19, 20, 21, 25, 22, 23].getD ((((w.toUInt32 >>> ((12 : Int32).toUInt32 &&& Int32.toUInt32 31)).toInt32) &&& 7) &&& 7).toNatClampNeg 0))) else (if (w &&& 127) = 23 then 1 else (if (w &&& 127) = 35 then ([15, 16, 17, 40, 40, 40, 40, 40].getD (((w.toUInt32 >>> ((12 : Int32).toUInt32 &&& Int32.toUInt32 31)).toInt32) &&& 7).toNatClampNeg 0) else (if (w &&& 127) = 51 then (if ((w.toUInt32 >>> ((25 : Int32).toUInt32 &&& Int32.toUInt32 31)).toInt32) = 0 then ([27, 29, 30, 31, 32, 33, 35, 36].getD ((((w.toUInt32 >>> ((12 : Int32).toUInt32 &&& Int32.toUInt32 31)).toInt32) &&& 7) &&& 7).toNatClampNeg 0) else (if ((w.toUInt32 >>> ((25 : Int32).toUInt32 &&& Int32.toUInt32 31)).toInt32) = 32 then (if (((w.toUInt32 >>> ((12 : Int32).toUInt32 &&& Int32.toUInt32 31)).toInt32) &&& 7) = 0 then 28 else (if (((w.toUInt32 >>> ((12 : Int32).toUInt32 &&& Int32.toUInt32 31)).toInt32) &&& 7) = 5 then 34 else 40)) else 40)) else (if (w &&& 127) = 55 then 0 else (if (w &&& 127) = 99 then ([4, 5, 40, 40, 6, 7, 8, 9].getD (((w.toUInt32 >>> ((12 : Int32).toUInt32 &&& Int32.toUInt32 31)).toInt32) &&& 7).toNatClampNeg 0) else (if (w &&& 127) = 103 then (if (((w.toUInt32 >>> ((12 : Int32).toUInt32 &&& Int32.toUInt32 31)).toInt32) &&& 7) = 0 then 3 else 40) else (if (w &&& 127) = 111 then 2 else (if (w &&& 127) = 115 then (if w = 115 then 38 else (if w = 1048691 then 39 else 40)) else 40)))))))))))
set_option maxHeartbeats 4000000 in
set_option maxRecDepth 100000 in
theorem c_sx_X4_second (l : Launch) (dC : Nat → ClassId) (dI : Nat → Nat → Nat) (cI cB cZ cJ cR : ClassId) (tb : Nat → Nat) (sz : Nat) (x0_ : Int32)  : Met l yX4_second (Cond.code yX4_second cX4_second 1 (some .int) :: tw_W) ({ frames := 0, cells := 0, slots := 0, locals := 0 }) (pc_ (dC, dI) (tyS cI cB cZ cJ cR) tb [] sz [.int x0_]) (qi_ (dC, dI) [] sz (fun (r : Int32) (u : Unit) => r = (((x0_.toUInt32 >>> ((20 : Int32).toUInt32 &&& Int32.toUInt32 31)).toInt32) &&& 31)) (fun (u : Unit) => [])) 0 0 (va_A [] sz) := by
  refine Met.ofW (cc := cX4_second) (maxL := 1) (ret := (some .int)) (by decide) rfl ?_
  intro p e s m args below meth c s₁ B hml hv
  obtain ⟨rfl, hsz, hP, hKK, hD0, hFx⟩ := hv
  have hK := hKK.1
  have hx := B.exec
  have hb := B.bytes
  have hr := B.returns
  have ht : ∀ w ∈ tw_W, w.before _ s = true := fun w h => atoms_spec (ws := Cond.code yX4_second cX4_second 1 (some .int) :: tw_W) B.pre w (List.mem_cons_of_mem _ h)
  have hown : s.vm.findClass RX4 = some m.cls := findClass_of_methodNamed B.named
  have hlocks := B.notSynchronized
  subst hsz
  unfold qi_
  have hD := hD0.self (sz := s.heap.size)
  generalize hAe : va_A [] s.heap.size = A at hD hFx ⊢
  have hA : ∀ q : Nat, s.heap.size ≤ q → A q := fun q h => by rw [← hAe]; exact Or.inr h
  have hS : va_S A s.heap s.heap [] := va_S.rf
  have hP : va_P (dC, dI) vwCl [] s.heap := hP
  have hl := lv_entry ([.int x0_]) (n := 1) (Nat.le_of_ble_eq_true rfl)
  rw [lg_entry_eq]
  generalize (lg_sl ([.int x0_]) ++ List.replicate (1 - (lg_sl ([.int x0_])).length) Slot.unset).toArray = ls at hl ⊢
  have hl : lv_has ls 1 [(0, .int x0_)] := hl
  refine lv_iload_n hx hb xdX4_second_0 rfl (lv_at hl 0 rfl) ?_
  refine lv_bipush (v := 20) hx hb xdX4_second_1 (by decide) ?_
  refine lv_iushr hx hb xdX4_second_3 rfl ?_
  refine lv_bipush (v := 31) hx hb xdX4_second_4 (by decide) ?_
  refine lv_iand hx hb xdX4_second_6 ?_
  have hP9 := hP.sub (ws' := []) [] rfl
  have hD9 := hD.sub (ws' := []) [] (by decide) rfl
  refine W.widen (k := 0) (n := 0) (by omega) (by omega) ?_
  exact W.iret (v := (((x0_.toUInt32 >>> ((20 : Int32).toUInt32 &&& Int32.toUInt32 31)).toInt32) &&& 31)) hx hb hr (fun t ht9 hW => ⟨⟨(((x0_.toUInt32 >>> ((20 : Int32).toUInt32 &&& Int32.toUInt32 31)).toInt32) &&& 31), (), rfl, rfl, by rw [ht9]; exact hP9, hD9⟩, hS.F ht9⟩) hS.2.2 xdX4_second_7
set_option maxHeartbeats 4000000 in
set_option maxRecDepth 100000 in
/-- Instruction.number -/
theorem c_sx_number (l : Launch) (dC : Nat → ClassId) (dI : Nat → Nat → Nat) (cI cB cZ cJ cR : ClassId) (tb : Nat → Nat) (sz : Nat) (w : Int32) (kd : Nat)  : Met l yX4_number (Cond.code yX4_number cX4_number 2 (some .int) :: tw_W) ({ frames := 1, cells := 0, slots := 0, locals := 20 }) (pc_ (dC, dI) (tyS cI cB cZ cJ cR) tb [] sz [.int w, .int (nI kd)]) (qi_ (dC, dI) [] sz (fun (r : Int32) (u : Unit) => r = (if (nI kd) = 0 then (w &&& (-4096)) else (if (nI kd) = 1 then (w &&& (-4096)) else (if (nI kd) = 2 then (((((w >>> (31 &&& 31)) <<< (20 &&& 31)) ||| ((((w.toUInt32 >>> ((12 : Int32).toUInt32 &&& Int32.toUInt32 31)).toInt32) &&& 255) <<< (12 &&& 31))) ||| ((((w.toUInt32 >>> ((20 : Int32).toUInt32 &&& Int32.toUInt32 31)).toInt32) &&& 1) <<< (11 &&& 31))) ||| ((((w.toUInt32 >>> ((21 : Int32).toUInt32 &&& Int32.toUInt32 31)).toInt32) &&& 1023) <<< (1 &&& 31))) else (if (nI kd) < 4 then (w >>> (20 &&& 31)) else (if 9 < (nI kd) then (if (nI kd) < 15 then (w >>> (20 &&& 31)) else (if 17 < (nI kd) then (if (nI kd) < 24 then (w >>> (20 &&& 31)) else (if 26 < (nI kd) then (w >>> (20 &&& 31)) else (((w.toUInt32 >>> ((20 : Int32).toUInt32 &&& Int32.toUInt32 31)).toInt32) &&& 31))) else (((w >>> (25 &&& 31)) <<< (5 &&& 31)) ||| (((w.toUInt32 >>> ((7 : Int32).toUInt32 &&& Int32.toUInt32 31)).toInt32) &&& 31)))) else (((((w >>> (31 &&& 31)) <<< (12 &&& 31)) ||| ((((w.toUInt32 >>> ((7 : Int32).toUInt32 &&& Int32.toUInt32 31)).toInt32) &&& 1) <<< (11 &&& 31))) ||| ((((w.toUInt32 >>> ((25 : Int32).toUInt32 &&& Int32.toUInt32 31)).toInt32) &&& 63) <<< (5 &&& 31))) ||| ((((w.toUInt32 >>> ((8 : Int32).toUInt32 &&& Int32.toUInt32 31)).toInt32) &&& 15) <<< (1 &&& 31))))))))) (fun (u : Unit) => [])) 0 0 (va_A [] sz) := by
  refine Met.ofW (cc := cX4_number) (maxL := 2) (ret := (some .int)) (by decide) rfl ?_
  intro p e s m args below meth c s₁ B hml hv
  obtain ⟨rfl, hsz, hP, hKK, hD0, hFx⟩ := hv
  have hK := hKK.1
  have hx := B.exec
  have hb := B.bytes
  have hr := B.returns
  have ht : ∀ w ∈ tw_W, w.before _ s = true := fun w h => atoms_spec (ws := Cond.code yX4_number cX4_number 2 (some .int) :: tw_W) B.pre w (List.mem_cons_of_mem _ h)
  have hown : s.vm.findClass RX4 = some m.cls := findClass_of_methodNamed B.named
  have hlocks := B.notSynchronized
  subst hsz
  unfold qi_
  have hD := hD0.self (sz := s.heap.size)
  generalize hAe : va_A [] s.heap.size = A at hD hFx ⊢
  have hA : ∀ q : Nat, s.heap.size ≤ q → A q := fun q h => by rw [← hAe]; exact Or.inr h
  have hS : va_S A s.heap s.heap [] := va_S.rf
  have hP : va_P (dC, dI) vwCl [] s.heap := hP
  have hl := lv_entry ([.int w, .int (nI kd)]) (n := 2) (Nat.le_of_ble_eq_true rfl)
  rw [lg_entry_eq]
  generalize (lg_sl ([.int w, .int (nI kd)]) ++ List.replicate (2 - (lg_sl ([.int w, .int (nI kd)])).length) Slot.unset).toArray = ls at hl ⊢
  have hl : lv_has ls 2 [(0, .int w), (1, .int (nI kd))] := hl
  refine lv_iload_n hx hb xdX4_number_0 rfl (lv_at hl 1 rfl) ?_
  refine lv_if_eq (tgt := 9) hx hb xdX4_number_1 (by decide) (fun h1 => ?_) (fun h1 => ?_)
  · refine lv_iload_n hx hb xdX4_number_9 rfl (lv_at hl 0 rfl) ?_
    refine lv_sipush (v := -4096) hx hb xdX4_number_10 (by decide) ?_
    refine lv_iand hx hb xdX4_number_13 ?_
    have hP9 := hP.sub (ws' := []) [] rfl
    have hD9 := hD.sub (ws' := []) [] (by decide) rfl
    refine W.widen (k := 0) (n := 0) (by omega) (by omega) ?_
    exact W.iret (v := (w &&& (-4096))) hx hb hr (fun t ht9 hW => ⟨⟨(w &&& (-4096)), (), rfl, (by rw [if_pos h1]), by rw [ht9]; exact hP9, hD9⟩, hS.F ht9⟩) hS.2.2 xdX4_number_14
  · refine lv_iload_n hx hb xdX4_number_4 rfl (lv_at hl 1 rfl) ?_
    refine lv_iconst (v := 1) hx hb xdX4_number_5 (by decide) ?_
    refine lv_icmp_ne (tgt := 15) hx hb xdX4_number_6 (by decide) (fun h2 => ?_) (fun h2 => ?_)
    · refine lv_iload_n hx hb xdX4_number_15 rfl (lv_at hl 1 rfl) ?_
      refine lv_iconst (v := 2) hx hb xdX4_number_16 (by decide) ?_
      refine lv_icmp_ne (tgt := 61) hx hb xdX4_number_17 (by decide) (fun h3 => ?_) (fun h3 => ?_)
      · refine lv_iload_n hx hb xdX4_number_61 rfl (lv_at hl 1 rfl) ?_
        refine lv_iconst (v := 4) hx hb xdX4_number_62 (by decide) ?_
        refine lv_icmp_lt (tgt := 110) hx hb xdX4_number_63 (by decide) (fun h4 => ?_) (fun h4 => ?_)
        · refine lv_iload_n hx hb xdX4_number_110 rfl (lv_at hl 1 rfl) ?_
          refine lv_bipush (v := 15) hx hb xdX4_number_111 (by decide) ?_
          refine lv_icmp_lt (tgt := 137) hx hb xdX4_number_113 (by decide) (fun _ => ?_) (fun k5 => False.elim (by rw [← Int32.toInt_inj] at h1; rw [← Int32.toInt_inj] at h2; rw [← Int32.toInt_inj] at h3; rw [Int32.lt_iff_toInt_lt] at h4; rw [Int32.lt_iff_toInt_lt] at k5; have : (0 : Int32).toInt = 0 := (by decide); have : (1 : Int32).toInt = 1 := (by decide); have : (2 : Int32).toInt = 2 := (by decide); have : (4 : Int32).toInt = 4 := (by decide); have : (15 : Int32).toInt = 15 := (by decide); omega))
          refine lv_iload_n hx hb xdX4_number_137 rfl (lv_at hl 1 rfl) ?_
          refine lv_bipush (v := 24) hx hb xdX4_number_138 (by decide) ?_
          refine lv_icmp_lt (tgt := 156) hx hb xdX4_number_140 (by decide) (fun _ => ?_) (fun k6 => False.elim (by rw [← Int32.toInt_inj] at h1; rw [← Int32.toInt_inj] at h2; rw [← Int32.toInt_inj] at h3; rw [Int32.lt_iff_toInt_lt] at h4; rw [Int32.lt_iff_toInt_lt] at k6; have : (0 : Int32).toInt = 0 := (by decide); have : (1 : Int32).toInt = 1 := (by decide); have : (2 : Int32).toInt = 2 := (by decide); have : (4 : Int32).toInt = 4 := (by decide); have : (24 : Int32).toInt = 24 := (by decide); omega))
          refine lv_iload_n hx hb xdX4_number_156 rfl (lv_at hl 0 rfl) ?_
          refine lv_bipush (v := 20) hx hb xdX4_number_157 (by decide) ?_
          refine lv_ishr hx hb xdX4_number_159 ?_
          have hP9 := hP.sub (ws' := []) [] rfl
          have hD9 := hD.sub (ws' := []) [] (by decide) rfl
          refine W.widen (k := 0) (n := 0) (by omega) (by omega) ?_
          exact W.iret (v := (w >>> (20 &&& 31))) hx hb hr (fun t ht9 hW => ⟨⟨(w >>> (20 &&& 31)), (), rfl, (by rw [if_neg h1, if_neg h2, if_neg h3, if_pos h4]), by rw [ht9]; exact hP9, hD9⟩, hS.F ht9⟩) hS.2.2 xdX4_number_160
        · refine lv_iload_n hx hb xdX4_number_66 rfl (lv_at hl 1 rfl) ?_
          refine lv_bipush (v := 9) hx hb xdX4_number_67 (by decide) ?_
          refine lv_icmp_gt (tgt := 110) hx hb xdX4_number_69 (by decide) (fun h7 => ?_) (fun h7 => ?_)
          · refine lv_iload_n hx hb xdX4_number_110 rfl (lv_at hl 1 rfl) ?_
            refine lv_bipush (v := 15) hx hb xdX4_number_111 (by decide) ?_
            refine lv_icmp_lt (tgt := 137) hx hb xdX4_number_113 (by decide) (fun h8 => ?_) (fun h8 => ?_)
            · refine lv_iload_n hx hb xdX4_number_137 rfl (lv_at hl 1 rfl) ?_
              refine lv_bipush (v := 24) hx hb xdX4_number_138 (by decide) ?_
              refine lv_icmp_lt (tgt := 156) hx hb xdX4_number_140 (by decide) (fun _ => ?_) (fun k9 => False.elim (by rw [← Int32.toInt_inj] at h1; rw [← Int32.toInt_inj] at h2; rw [← Int32.toInt_inj] at h3; rw [Int32.lt_iff_toInt_lt] at h4; rw [Int32.lt_iff_toInt_lt] at h7; rw [Int32.lt_iff_toInt_lt] at h8; rw [Int32.lt_iff_toInt_lt] at k9; have : (0 : Int32).toInt = 0 := (by decide); have : (1 : Int32).toInt = 1 := (by decide); have : (2 : Int32).toInt = 2 := (by decide); have : (4 : Int32).toInt = 4 := (by decide); have : (9 : Int32).toInt = 9 := (by decide); have : (15 : Int32).toInt = 15 := (by decide); have : (24 : Int32).toInt = 24 := (by decide); omega))
              refine lv_iload_n hx hb xdX4_number_156 rfl (lv_at hl 0 rfl) ?_
              refine lv_bipush (v := 20) hx hb xdX4_number_157 (by decide) ?_
              refine lv_ishr hx hb xdX4_number_159 ?_
              have hP9 := hP.sub (ws' := []) [] rfl
              have hD9 := hD.sub (ws' := []) [] (by decide) rfl
              refine W.widen (k := 0) (n := 0) (by omega) (by omega) ?_
              exact W.iret (v := (w >>> (20 &&& 31))) hx hb hr (fun t ht9 hW => ⟨⟨(w >>> (20 &&& 31)), (), rfl, (by rw [if_neg h1, if_neg h2, if_neg h3, if_neg h4, if_pos h7, if_pos h8]), by rw [ht9]; exact hP9, hD9⟩, hS.F ht9⟩) hS.2.2 xdX4_number_160
            · refine lv_iload_n hx hb xdX4_number_116 rfl (lv_at hl 1 rfl) ?_
              refine lv_bipush (v := 17) hx hb xdX4_number_117 (by decide) ?_
              refine lv_icmp_gt (tgt := 137) hx hb xdX4_number_119 (by decide) (fun h10 => ?_) (fun h10 => ?_)
              · refine lv_iload_n hx hb xdX4_number_137 rfl (lv_at hl 1 rfl) ?_
                refine lv_bipush (v := 24) hx hb xdX4_number_138 (by decide) ?_
                refine lv_icmp_lt (tgt := 156) hx hb xdX4_number_140 (by decide) (fun h11 => ?_) (fun h11 => ?_)
                · refine lv_iload_n hx hb xdX4_number_156 rfl (lv_at hl 0 rfl) ?_
                  refine lv_bipush (v := 20) hx hb xdX4_number_157 (by decide) ?_
                  refine lv_ishr hx hb xdX4_number_159 ?_
                  have hP9 := hP.sub (ws' := []) [] rfl
                  have hD9 := hD.sub (ws' := []) [] (by decide) rfl
                  refine W.widen (k := 0) (n := 0) (by omega) (by omega) ?_
                  exact W.iret (v := (w >>> (20 &&& 31))) hx hb hr (fun t ht9 hW => ⟨⟨(w >>> (20 &&& 31)), (), rfl, (by rw [if_neg h1, if_neg h2, if_neg h3, if_neg h4, if_pos h7, if_neg h8, if_pos h10, if_pos h11]), by rw [ht9]; exact hP9, hD9⟩, hS.F ht9⟩) hS.2.2 xdX4_number_160
                · refine lv_iload_n hx hb xdX4_number_143 rfl (lv_at hl 1 rfl) ?_
                  refine lv_bipush (v := 26) hx hb xdX4_number_144 (by decide) ?_
                  refine lv_icmp_gt (tgt := 156) hx hb xdX4_number_146 (by decide) (fun h12 => ?_) (fun h12 => ?_)
                  · refine lv_iload_n hx hb xdX4_number_156 rfl (lv_at hl 0 rfl) ?_
                    refine lv_bipush (v := 20) hx hb xdX4_number_157 (by decide) ?_
                    refine lv_ishr hx hb xdX4_number_159 ?_
                    have hP9 := hP.sub (ws' := []) [] rfl
                    have hD9 := hD.sub (ws' := []) [] (by decide) rfl
                    refine W.widen (k := 0) (n := 0) (by omega) (by omega) ?_
                    exact W.iret (v := (w >>> (20 &&& 31))) hx hb hr (fun t ht9 hW => ⟨⟨(w >>> (20 &&& 31)), (), rfl, (by rw [if_neg h1, if_neg h2, if_neg h3, if_neg h4, if_pos h7, if_neg h8, if_pos h10, if_neg h11, if_pos h12]), by rw [ht9]; exact hP9, hD9⟩, hS.F ht9⟩) hS.2.2 xdX4_number_160
                  · refine lv_iload_n hx hb xdX4_number_149 rfl (lv_at hl 0 rfl) ?_
                    refine ca_i (wr := []) (rn_S (n := 1) (As := [.int w]) (rest := []) hx hb hml hown ht hKK hFx hP hD hS hA (c_sx_X4_second l dC dI cI cB cZ cJ cR tb s.heap.size w) xw_101 xw_102 (by decide +kernel) rfl rfl ⟨Nat.le_of_ble_eq_true rfl, Nat.le_of_ble_eq_true rfl⟩ [] rfl (by decide) rfl hl.1 rfl (Nat.le_of_ble_eq_true rfl) xdX4_number_150 ⟨Nat.le_of_ble_eq_true rfl, Nat.le_of_ble_eq_true rfl⟩) hP hD hS hA (isC := []) (isR := []) rfl rfl (by decide) (by decide) (fun r14 u H locs hw13 hP hD hS => ?_)
                    subst hw13
                    have hP : va_P (dC, dI) vwCl [] H := hP
                    have hD : va_D A [] := hD
                    refine W.widen (k := 0) (n := 0) (by omega) (by omega) ?_
                    refine lv_goto (tgt := 160) hx hb xdX4_number_153 (by decide) ?_
                    have hP9 := hP.sub (ws' := []) [] rfl
                    have hD9 := hD.sub (ws' := []) [] (by decide) rfl
                    refine W.widen (k := 0) (n := 0) (by omega) (by omega) ?_
                    exact W.iret (v := (((w.toUInt32 >>> ((20 : Int32).toUInt32 &&& Int32.toUInt32 31)).toInt32) &&& 31)) hx hb hr (fun t ht9 hW => ⟨⟨(((w.toUInt32 >>> ((20 : Int32).toUInt32 &&& Int32.toUInt32 31)).toInt32) &&& 31), (), rfl, (by rw [if_neg h1, if_neg h2, if_neg h3, if_neg h4, if_pos h7, if_neg h8, if_pos h10, if_neg h11, if_neg h12]), by rw [ht9]; exact hP9, hD9⟩, hS.F ht9⟩) hS.2.2 xdX4_number_160
              · refine lv_iload_n hx hb xdX4_number_122 rfl (lv_at hl 0 rfl) ?_
                refine lv_bipush (v := 25) hx hb xdX4_number_123 (by decide) ?_
                refine lv_ishr hx hb xdX4_number_125 ?_
                refine lv_iconst (v := 5) hx hb xdX4_number_126 (by decide) ?_
                refine lv_ishl hx hb xdX4_number_127 ?_
                refine lv_iload_n hx hb xdX4_number_128 rfl (lv_at hl 0 rfl) ?_
                refine lv_bipush (v := 7) hx hb xdX4_number_129 (by decide) ?_
                refine lv_iushr hx hb xdX4_number_131 rfl ?_
                refine lv_bipush (v := 31) hx hb xdX4_number_132 (by decide) ?_
                refine lv_iand hx hb xdX4_number_134 ?_
                refine lv_ior hx hb xdX4_number_135 ?_
                have hP9 := hP.sub (ws' := []) [] rfl
                have hD9 := hD.sub (ws' := []) [] (by decide) rfl
                refine W.widen (k := 0) (n := 0) (by omega) (by omega) ?_
                exact W.iret (v := (((w >>> (25 &&& 31)) <<< (5 &&& 31)) ||| (((w.toUInt32 >>> ((7 : Int32).toUInt32 &&& Int32.toUInt32 31)).toInt32) &&& 31))) hx hb hr (fun t ht9 hW => ⟨⟨(((w >>> (25 &&& 31)) <<< (5 &&& 31)) ||| (((w.toUInt32 >>> ((7 : Int32).toUInt32 &&& Int32.toUInt32 31)).toInt32) &&& 31)), (), rfl, (by rw [if_neg h1, if_neg h2, if_neg h3, if_neg h4, if_pos h7, if_neg h8, if_neg h10]), by rw [ht9]; exact hP9, hD9⟩, hS.F ht9⟩) hS.2.2 xdX4_number_136
          · refine lv_iload_n hx hb xdX4_number_72 rfl (lv_at hl 0 rfl) ?_
            refine lv_bipush (v := 31) hx hb xdX4_number_73 (by decide) ?_
            refine lv_ishr hx hb xdX4_number_75 ?_
            refine lv_bipush (v := 12) hx hb xdX4_number_76 (by decide) ?_
            refine lv_ishl hx hb xdX4_number_78 ?_
            refine lv_iload_n hx hb xdX4_number_79 rfl (lv_at hl 0 rfl) ?_
            refine lv_bipush (v := 7) hx hb xdX4_number_80 (by decide) ?_
            refine lv_iushr hx hb xdX4_number_82 rfl ?_
            refine lv_iconst (v := 1) hx hb xdX4_number_83 (by decide) ?_
            refine lv_iand hx hb xdX4_number_84 ?_
            refine lv_bipush (v := 11) hx hb xdX4_number_85 (by decide) ?_
            refine lv_ishl hx hb xdX4_number_87 ?_
            refine lv_ior hx hb xdX4_number_88 ?_
            refine lv_iload_n hx hb xdX4_number_89 rfl (lv_at hl 0 rfl) ?_
            refine lv_bipush (v := 25) hx hb xdX4_number_90 (by decide) ?_
            refine lv_iushr hx hb xdX4_number_92 rfl ?_
            refine lv_bipush (v := 63) hx hb xdX4_number_93 (by decide) ?_
            refine lv_iand hx hb xdX4_number_95 ?_
            refine lv_iconst (v := 5) hx hb xdX4_number_96 (by decide) ?_
            refine lv_ishl hx hb xdX4_number_97 ?_
            refine lv_ior hx hb xdX4_number_98 ?_
            refine lv_iload_n hx hb xdX4_number_99 rfl (lv_at hl 0 rfl) ?_
            refine lv_bipush (v := 8) hx hb xdX4_number_100 (by decide) ?_
            refine lv_iushr hx hb xdX4_number_102 rfl ?_
            refine lv_bipush (v := 15) hx hb xdX4_number_103 (by decide) ?_
            refine lv_iand hx hb xdX4_number_105 ?_
            refine lv_iconst (v := 1) hx hb xdX4_number_106 (by decide) ?_
            refine lv_ishl hx hb xdX4_number_107 ?_
            refine lv_ior hx hb xdX4_number_108 ?_
            have hP9 := hP.sub (ws' := []) [] rfl
            have hD9 := hD.sub (ws' := []) [] (by decide) rfl
            refine W.widen (k := 0) (n := 0) (by omega) (by omega) ?_
            exact W.iret (v := (((((w >>> (31 &&& 31)) <<< (12 &&& 31)) ||| ((((w.toUInt32 >>> ((7 : Int32).toUInt32 &&& Int32.toUInt32 31)).toInt32) &&& 1) <<< (11 &&& 31))) ||| ((((w.toUInt32 >>> ((25 : Int32).toUInt32 &&& Int32.toUInt32 31)).toInt32) &&& 63) <<< (5 &&& 31))) ||| ((((w.toUInt32 >>> ((8 : Int32).toUInt32 &&& Int32.toUInt32 31)).toInt32) &&& 15) <<< (1 &&& 31)))) hx hb hr (fun t ht9 hW => ⟨⟨(((((w >>> (31 &&& 31)) <<< (12 &&& 31)) ||| ((((w.toUInt32 >>> ((7 : Int32).toUInt32 &&& Int32.toUInt32 31)).toInt32) &&& 1) <<< (11 &&& 31))) ||| ((((w.toUInt32 >>> ((25 : Int32).toUInt32 &&& Int32.toUInt32 31)).toInt32) &&& 63) <<< (5 &&& 31))) ||| ((((w.toUInt32 >>> ((8 : Int32).toUInt32 &&& Int32.toUInt32 31)).toInt32) &&& 15) <<< (1 &&& 31))), (), rfl, (by rw [if_neg h1, if_neg h2, if_neg h3, if_neg h4, if_neg h7]), by rw [ht9]; exact hP9, hD9⟩, hS.F ht9⟩) hS.2.2 xdX4_number_109
      · refine lv_iload_n hx hb xdX4_number_20 rfl (lv_at hl 0 rfl) ?_
        refine lv_bipush (v := 31) hx hb xdX4_number_21 (by decide) ?_
        refine lv_ishr hx hb xdX4_number_23 ?_
        refine lv_bipush (v := 20) hx hb xdX4_number_24 (by decide) ?_
        refine lv_ishl hx hb xdX4_number_26 ?_
        refine lv_iload_n hx hb xdX4_number_27 rfl (lv_at hl 0 rfl) ?_
        refine lv_bipush (v := 12) hx hb xdX4_number_28 (by decide) ?_
        refine lv_iushr hx hb xdX4_number_30 rfl ?_
        refine lv_sipush (v := 255) hx hb xdX4_number_31 (by decide) ?_
        refine lv_iand hx hb xdX4_number_34 ?_
        refine lv_bipush (v := 12) hx hb xdX4_number_35 (by decide) ?_
        refine lv_ishl hx hb xdX4_number_37 ?_
        refine lv_ior hx hb xdX4_number_38 ?_
        refine lv_iload_n hx hb xdX4_number_39 rfl (lv_at hl 0 rfl) ?_
        refine lv_bipush (v := 20) hx hb xdX4_number_40 (by decide) ?_
        refine lv_iushr hx hb xdX4_number_42 rfl ?_
        refine lv_iconst (v := 1) hx hb xdX4_number_43 (by decide) ?_
        refine lv_iand hx hb xdX4_number_44 ?_
        refine lv_bipush (v := 11) hx hb xdX4_number_45 (by decide) ?_
        refine lv_ishl hx hb xdX4_number_47 ?_
        refine lv_ior hx hb xdX4_number_48 ?_
        refine lv_iload_n hx hb xdX4_number_49 rfl (lv_at hl 0 rfl) ?_
        refine lv_bipush (v := 21) hx hb xdX4_number_50 (by decide) ?_
        refine lv_iushr hx hb xdX4_number_52 rfl ?_
        refine lv_sipush (v := 1023) hx hb xdX4_number_53 (by decide) ?_
        refine lv_iand hx hb xdX4_number_56 ?_
        refine lv_iconst (v := 1) hx hb xdX4_number_57 (by decide) ?_
        refine lv_ishl hx hb xdX4_number_58 ?_
        refine lv_ior hx hb xdX4_number_59 ?_
        have hP9 := hP.sub (ws' := []) [] rfl
        have hD9 := hD.sub (ws' := []) [] (by decide) rfl
        refine W.widen (k := 0) (n := 0) (by omega) (by omega) ?_
        exact W.iret (v := (((((w >>> (31 &&& 31)) <<< (20 &&& 31)) ||| ((((w.toUInt32 >>> ((12 : Int32).toUInt32 &&& Int32.toUInt32 31)).toInt32) &&& 255) <<< (12 &&& 31))) ||| ((((w.toUInt32 >>> ((20 : Int32).toUInt32 &&& Int32.toUInt32 31)).toInt32) &&& 1) <<< (11 &&& 31))) ||| ((((w.toUInt32 >>> ((21 : Int32).toUInt32 &&& Int32.toUInt32 31)).toInt32) &&& 1023) <<< (1 &&& 31)))) hx hb hr (fun t ht9 hW => ⟨⟨(((((w >>> (31 &&& 31)) <<< (20 &&& 31)) ||| ((((w.toUInt32 >>> ((12 : Int32).toUInt32 &&& Int32.toUInt32 31)).toInt32) &&& 255) <<< (12 &&& 31))) ||| ((((w.toUInt32 >>> ((20 : Int32).toUInt32 &&& Int32.toUInt32 31)).toInt32) &&& 1) <<< (11 &&& 31))) ||| ((((w.toUInt32 >>> ((21 : Int32).toUInt32 &&& Int32.toUInt32 31)).toInt32) &&& 1023) <<< (1 &&& 31))), (), rfl, (by rw [if_neg h1, if_neg h2, if_pos h3]), by rw [ht9]; exact hP9, hD9⟩, hS.F ht9⟩) hS.2.2 xdX4_number_60
    · refine lv_iload_n hx hb xdX4_number_9 rfl (lv_at hl 0 rfl) ?_
      refine lv_sipush (v := -4096) hx hb xdX4_number_10 (by decide) ?_
      refine lv_iand hx hb xdX4_number_13 ?_
      have hP9 := hP.sub (ws' := []) [] rfl
      have hD9 := hD.sub (ws' := []) [] (by decide) rfl
      refine W.widen (k := 0) (n := 0) (by omega) (by omega) ?_
      exact W.iret (v := (w &&& (-4096))) hx hb hr (fun t ht9 hW => ⟨⟨(w &&& (-4096)), (), rfl, (by rw [if_neg h1, if_pos h2]), by rw [ht9]; exact hP9, hD9⟩, hS.F ht9⟩) hS.2.2 xdX4_number_14
def nuX (kd : Nat) (w : Int32) : Int32 := (if (nI kd) = 0 then (w &&& (-4096)) else (if (nI kd) = 1 then (w &&& (-4096)) else (if (nI kd) = 2 then (((((w >>> (31 &&& 31)) <<< (20 &&& 31)) ||| ((((w.toUInt32 >>> ((12 : Int32).toUInt32 &&& Int32.toUInt32 31)).toInt32) &&& 255) <<< (12 &&& 31))) ||| ((((w.toUInt32 >>> ((20 : Int32).toUInt32 &&& Int32.toUInt32 31)).toInt32) &&& 1) <<< (11 &&& 31))) ||| ((((w.toUInt32 >>> ((21 : Int32).toUInt32 &&& Int32.toUInt32 31)).toInt32) &&& 1023) <<< (1 &&& 31))) else (if (nI kd) < 4 then (w >>> (20 &&& 31)) else (if 9 < (nI kd) then (if (nI kd) < 15 then (w >>> (20 &&& 31)) else (if 17 < (nI kd) then (if (nI kd) < 24 then (w >>> (20 &&& 31)) else (if 26 < (nI kd) then (w >>> (20 &&& 31)) else (((w.toUInt32 >>> ((20 : Int32).toUInt32 &&& Int32.toUInt32 31)).toInt32) &&& 31))) else (((w >>> (25 &&& 31)) <<< (5 &&& 31)) ||| (((w.toUInt32 >>> ((7 : Int32).toUInt32 &&& Int32.toUInt32 31)).toInt32) &&& 31)))) else (((((w >>> (31 &&& 31)) <<< (12 &&& 31)) ||| ((((w.toUInt32 >>> ((7 : Int32).toUInt32 &&& Int32.toUInt32 31)).toInt32) &&& 1) <<< (11 &&& 31))) ||| ((((w.toUInt32 >>> ((25 : Int32).toUInt32 &&& Int32.toUInt32 31)).toInt32) &&& 63) <<< (5 &&& 31))) ||| ((((w.toUInt32 >>> ((8 : Int32).toUInt32 &&& Int32.toUInt32 31)).toInt32) &&& 15) <<< (1 &&& 31))))))))
set_option maxHeartbeats 4000000 in
set_option maxRecDepth 100000 in
/-- Instruction.target -/
theorem c_sx_target (l : Launch) (dC : Nat → ClassId) (dI : Nat → Nat → Nat) (cI cB cZ cJ cR : ClassId) (tb : Nat → Nat) (sz : Nat) (w : Int32)  : Met l yX4_target (Cond.code yX4_target cX4_target 1 (some .int) :: tw_W) ({ frames := 0, cells := 0, slots := 0, locals := 0 }) (pc_ (dC, dI) (tyS cI cB cZ cJ cR) tb [] sz [.int w]) (qi_ (dC, dI) [] sz (fun (r : Int32) (u : Unit) => r = (((w.toUInt32 >>> ((7 : Int32).toUInt32 &&& Int32.toUInt32 31)).toInt32) &&& 31)) (fun (u : Unit) => [])) 0 0 (va_A [] sz) := by
  refine Met.ofW (cc := cX4_target) (maxL := 1) (ret := (some .int)) (by decide) rfl ?_
  intro p e s m args below meth c s₁ B hml hv
  obtain ⟨rfl, hsz, hP, hKK, hD0, hFx⟩ := hv
  have hK := hKK.1
  have hx := B.exec
  have hb := B.bytes
  have hr := B.returns
  have ht : ∀ w ∈ tw_W, w.before _ s = true := fun w h => atoms_spec (ws := Cond.code yX4_target cX4_target 1 (some .int) :: tw_W) B.pre w (List.mem_cons_of_mem _ h)
  have hown : s.vm.findClass RX4 = some m.cls := findClass_of_methodNamed B.named
  have hlocks := B.notSynchronized
  subst hsz
  unfold qi_
  have hD := hD0.self (sz := s.heap.size)
  generalize hAe : va_A [] s.heap.size = A at hD hFx ⊢
  have hA : ∀ q : Nat, s.heap.size ≤ q → A q := fun q h => by rw [← hAe]; exact Or.inr h
  have hS : va_S A s.heap s.heap [] := va_S.rf
  have hP : va_P (dC, dI) vwCl [] s.heap := hP
  have hl := lv_entry ([.int w]) (n := 1) (Nat.le_of_ble_eq_true rfl)
  rw [lg_entry_eq]
  generalize (lg_sl ([.int w]) ++ List.replicate (1 - (lg_sl ([.int w])).length) Slot.unset).toArray = ls at hl ⊢
  have hl : lv_has ls 1 [(0, .int w)] := hl
  refine lv_iload_n hx hb xdX4_target_0 rfl (lv_at hl 0 rfl) ?_
  refine lv_bipush (v := 7) hx hb xdX4_target_1 (by decide) ?_
  refine lv_iushr hx hb xdX4_target_3 rfl ?_
  refine lv_bipush (v := 31) hx hb xdX4_target_4 (by decide) ?_
  refine lv_iand hx hb xdX4_target_6 ?_
  have hP9 := hP.sub (ws' := []) [] rfl
  have hD9 := hD.sub (ws' := []) [] (by decide) rfl
  refine W.widen (k := 0) (n := 0) (by omega) (by omega) ?_
  exact W.iret (v := (((w.toUInt32 >>> ((7 : Int32).toUInt32 &&& Int32.toUInt32 31)).toInt32) &&& 31)) hx hb hr (fun t ht9 hW => ⟨⟨(((w.toUInt32 >>> ((7 : Int32).toUInt32 &&& Int32.toUInt32 31)).toInt32) &&& 31), (), rfl, rfl, by rw [ht9]; exact hP9, hD9⟩, hS.F ht9⟩) hS.2.2 xdX4_target_7
set_option maxHeartbeats 4000000 in
set_option maxRecDepth 100000 in
/-- Instruction.first -/
theorem c_sx_first (l : Launch) (dC : Nat → ClassId) (dI : Nat → Nat → Nat) (cI cB cZ cJ cR : ClassId) (tb : Nat → Nat) (sz : Nat) (w : Int32)  : Met l yX4_first (Cond.code yX4_first cX4_first 1 (some .int) :: tw_W) ({ frames := 0, cells := 0, slots := 0, locals := 0 }) (pc_ (dC, dI) (tyS cI cB cZ cJ cR) tb [] sz [.int w]) (qi_ (dC, dI) [] sz (fun (r : Int32) (u : Unit) => r = (((w.toUInt32 >>> ((15 : Int32).toUInt32 &&& Int32.toUInt32 31)).toInt32) &&& 31)) (fun (u : Unit) => [])) 0 0 (va_A [] sz) := by
  refine Met.ofW (cc := cX4_first) (maxL := 1) (ret := (some .int)) (by decide) rfl ?_
  intro p e s m args below meth c s₁ B hml hv
  obtain ⟨rfl, hsz, hP, hKK, hD0, hFx⟩ := hv
  have hK := hKK.1
  have hx := B.exec
  have hb := B.bytes
  have hr := B.returns
  have ht : ∀ w ∈ tw_W, w.before _ s = true := fun w h => atoms_spec (ws := Cond.code yX4_first cX4_first 1 (some .int) :: tw_W) B.pre w (List.mem_cons_of_mem _ h)
  have hown : s.vm.findClass RX4 = some m.cls := findClass_of_methodNamed B.named
  have hlocks := B.notSynchronized
  subst hsz
  unfold qi_
  have hD := hD0.self (sz := s.heap.size)
  generalize hAe : va_A [] s.heap.size = A at hD hFx ⊢
  have hA : ∀ q : Nat, s.heap.size ≤ q → A q := fun q h => by rw [← hAe]; exact Or.inr h
  have hS : va_S A s.heap s.heap [] := va_S.rf
  have hP : va_P (dC, dI) vwCl [] s.heap := hP
  have hl := lv_entry ([.int w]) (n := 1) (Nat.le_of_ble_eq_true rfl)
  rw [lg_entry_eq]
  generalize (lg_sl ([.int w]) ++ List.replicate (1 - (lg_sl ([.int w])).length) Slot.unset).toArray = ls at hl ⊢
  have hl : lv_has ls 1 [(0, .int w)] := hl
  refine lv_iload_n hx hb xdX4_first_0 rfl (lv_at hl 0 rfl) ?_
  refine lv_bipush (v := 15) hx hb xdX4_first_1 (by decide) ?_
  refine lv_iushr hx hb xdX4_first_3 rfl ?_
  refine lv_bipush (v := 31) hx hb xdX4_first_4 (by decide) ?_
  refine lv_iand hx hb xdX4_first_6 ?_
  have hP9 := hP.sub (ws' := []) [] rfl
  have hD9 := hD.sub (ws' := []) [] (by decide) rfl
  refine W.widen (k := 0) (n := 0) (by omega) (by omega) ?_
  exact W.iret (v := (((w.toUInt32 >>> ((15 : Int32).toUInt32 &&& Int32.toUInt32 31)).toInt32) &&& 31)) hx hb hr (fun t ht9 hW => ⟨⟨(((w.toUInt32 >>> ((15 : Int32).toUInt32 &&& Int32.toUInt32 31)).toInt32) &&& 31), (), rfl, rfl, by rw [ht9]; exact hP9, hD9⟩, hS.F ht9⟩) hS.2.2 xdX4_first_7
set_option maxHeartbeats 4000000 in
set_option maxRecDepth 100000 in
/-- Instruction.second -/
theorem c_sx_second (l : Launch) (dC : Nat → ClassId) (dI : Nat → Nat → Nat) (cI cB cZ cJ cR : ClassId) (tb : Nat → Nat) (sz : Nat) (w : Int32)  : Met l yX4_second (Cond.code yX4_second cX4_second 1 (some .int) :: tw_W) ({ frames := 0, cells := 0, slots := 0, locals := 0 }) (pc_ (dC, dI) (tyS cI cB cZ cJ cR) tb [] sz [.int w]) (qi_ (dC, dI) [] sz (fun (r : Int32) (u : Unit) => r = (((w.toUInt32 >>> ((20 : Int32).toUInt32 &&& Int32.toUInt32 31)).toInt32) &&& 31)) (fun (u : Unit) => [])) 0 0 (va_A [] sz) := by
  refine Met.ofW (cc := cX4_second) (maxL := 1) (ret := (some .int)) (by decide) rfl ?_
  intro p e s m args below meth c s₁ B hml hv
  obtain ⟨rfl, hsz, hP, hKK, hD0, hFx⟩ := hv
  have hK := hKK.1
  have hx := B.exec
  have hb := B.bytes
  have hr := B.returns
  have ht : ∀ w ∈ tw_W, w.before _ s = true := fun w h => atoms_spec (ws := Cond.code yX4_second cX4_second 1 (some .int) :: tw_W) B.pre w (List.mem_cons_of_mem _ h)
  have hown : s.vm.findClass RX4 = some m.cls := findClass_of_methodNamed B.named
  have hlocks := B.notSynchronized
  subst hsz
  unfold qi_
  have hD := hD0.self (sz := s.heap.size)
  generalize hAe : va_A [] s.heap.size = A at hD hFx ⊢
  have hA : ∀ q : Nat, s.heap.size ≤ q → A q := fun q h => by rw [← hAe]; exact Or.inr h
  have hS : va_S A s.heap s.heap [] := va_S.rf
  have hP : va_P (dC, dI) vwCl [] s.heap := hP
  have hl := lv_entry ([.int w]) (n := 1) (Nat.le_of_ble_eq_true rfl)
  rw [lg_entry_eq]
  generalize (lg_sl ([.int w]) ++ List.replicate (1 - (lg_sl ([.int w])).length) Slot.unset).toArray = ls at hl ⊢
  have hl : lv_has ls 1 [(0, .int w)] := hl
  refine lv_iload_n hx hb xdX4_second_0 rfl (lv_at hl 0 rfl) ?_
  refine lv_bipush (v := 20) hx hb xdX4_second_1 (by decide) ?_
  refine lv_iushr hx hb xdX4_second_3 rfl ?_
  refine lv_bipush (v := 31) hx hb xdX4_second_4 (by decide) ?_
  refine lv_iand hx hb xdX4_second_6 ?_
  have hP9 := hP.sub (ws' := []) [] rfl
  have hD9 := hD.sub (ws' := []) [] (by decide) rfl
  refine W.widen (k := 0) (n := 0) (by omega) (by omega) ?_
  exact W.iret (v := (((w.toUInt32 >>> ((20 : Int32).toUInt32 &&& Int32.toUInt32 31)).toInt32) &&& 31)) hx hb hr (fun t ht9 hW => ⟨⟨(((w.toUInt32 >>> ((20 : Int32).toUInt32 &&& Int32.toUInt32 31)).toInt32) &&& 31), (), rfl, rfl, by rw [ht9]; exact hP9, hD9⟩, hS.F ht9⟩) hS.2.2 xdX4_second_7
theorem tb8 : ∀ L ∈ ([[4, 5, 40, 40, 6, 7, 8, 9], [10, 11, 12, 40, 13, 14, 40, 40], [15, 16, 17, 40, 40, 40, 40, 40], [18, 24, 19, 20, 21, 25, 22, 23], [27, 29, 30, 31, 32, 33, 35, 36]] : List (List Int32)), ∀ j, j < 8 → ∃ kd : Nat, kd ≤ 40 ∧ L.getD j 0 = nI kd := by
  have h : ∀ L ∈ ([[4, 5, 40, 40, 6, 7, 8, 9], [10, 11, 12, 40, 13, 14, 40, 40], [15, 16, 17, 40, 40, 40, 40, 40], [18, 24, 19, 20, 21, 25, 22, 23], [27, 29, 30, 31, 32, 33, 35, 36]] : List (List Int32)), ∀ j, j < 8 → (L.getD j 0).toNatClampNeg ≤ 40 ∧ L.getD j 0 = nI (L.getD j 0).toNatClampNeg := by decide +kernel
  exact fun L hL j hj => ⟨_, h L hL j hj⟩
theorem tb7 (L : List Int32) (hL : L ∈ ([[4, 5, 40, 40, 6, 7, 8, 9], [10, 11, 12, 40, 13, 14, 40, 40], [15, 16, 17, 40, 40, 40, 40, 40], [18, 24, 19, 20, 21, 25, 22, 23], [27, 29, 30, 31, 32, 33, 35, 36]] : List (List Int32))) (x : Int32) : ∃ kd : Nat, kd ≤ 40 ∧ L.getD (x &&& 7).toNatClampNeg 0 = nI kd := by
  obtain ⟨j, hj, e⟩ := pk_andE x (m := 7) 3 (by decide)
  rw [e, nI_clamp (by omega)]
  exact tb8 L hL j hj
theorem ex_if {c : Prop} [Decidable c] {x y : Int32} (h1 : ∃ kd : Nat, kd ≤ 40 ∧ x = nI kd) (h2 : ∃ kd : Nat, kd ≤ 40 ∧ y = nI kd) : ∃ kd : Nat, kd ≤ 40 ∧ (if c then x else y) = nI kd := by
  by_cases h : c
  · rw [if_pos h]; exact h1
  · rw [if_neg h]; exact h2
theorem kdI_nat (w : Int32) : ∃ kd : Nat, kd ≤ 40 ∧ kdI w = nI kd := by
  unfold kdI
  repeat' refine ex_if ?_ ?_
  all_goals first | exact tb7 _ (by decide) _ | exact ⟨0, by decide, by decide⟩ | exact ⟨1, by decide, by decide⟩ | exact ⟨2, by decide, by decide⟩ | exact ⟨3, by decide, by decide⟩ | exact ⟨26, by decide, by decide⟩ | exact ⟨28, by decide, by decide⟩ | exact ⟨34, by decide, by decide⟩ | exact ⟨37, by decide, by decide⟩ | exact ⟨38, by decide, by decide⟩ | exact ⟨39, by decide, by decide⟩ | exact ⟨40, by decide, by decide⟩
set_option maxHeartbeats 16000000 in
set_option maxRecDepth 100000 in
/-- addRegister -/
theorem c_sx_reg (l : Launch) (dC : Nat → ClassId) (dI : Nat → Nat → Nat) (cI cB cZ cJ cR : ClassId) (tb : Nat → Nat) (sz : Nat) (sh : Nat) (sb : Nat) (a : Nat) (m : Nat) (n : Nat) (f : Nat → Int32) (mb : Int32) (x : Int32) (hm : m = 16 ∨ m = 34) (hf : sb_Fit f) (h1 : n + 1 + dl x ≤ 33) (hnm : n ≤ m) : Met l yX8_addRegister (Cond.code yX8_addRegister cX8_addRegister 2 none :: tw_W) ({ frames := 6, cells := 2, slots := 68, locals := 129 }) (pc_ (dC, dI) (tyS cI cB cZ cJ cR) tb [(sh, .inr (11, [.ref sb])), (sb, .inr (1, [.ref a, .int 0, .int mb, .int (nI n)])), (a, .inl (cB, m, .inl f))] sz [.ref sh, .int x]) (qv_ (dC, dI) [(sh, .inr (11, [.ref sb])), (sb, .inr (1, [.ref a, .int 0, .int mb, .int (nI n)])), (a, .inl (cB, m, .inl f))] sz (fun (u : Nat × Nat × Nat × (Nat → Int32)) => u.1 = n + 1 + dl x ∧ (u.2.2.1 = 16 ∨ u.2.2.1 = 34) ∧ u.1 ≤ u.2.2.1 ∧ sb_Fit u.2.2.2 ∧ TA f n u.2.2.2 u.1 (rgT x)) (fun (u : Nat × Nat × Nat × (Nat → Int32)) => [(sh, .inr (11, [.ref sb])), (sb, .inr (1, [.ref u.2.1, .int 0, .int mb, .int (nI u.1)])), (u.2.1, .inl (cB, u.2.2.1, .inl u.2.2.2))])) 2 68 (va_A [(sh, .inr (11, [.ref sb])), (sb, .inr (1, [.ref a, .int 0, .int mb, .int (nI n)])), (a, .inl (cB, m, .inl f))] sz) := by
  refine Met.ofW (cc := cX8_addRegister) (maxL := 2) (ret := none) (by decide) rfl ?_
  intro p e s m9 args below meth c s₁ B hml hv
  obtain ⟨rfl, hsz, hP, hKK, hD0, hFx⟩ := hv
  have hK := hKK.1
  have hx := B.exec
  have hb := B.bytes
  have hr := B.returns
  have ht : ∀ w ∈ tw_W, w.before _ s = true := fun w h => atoms_spec (ws := Cond.code yX8_addRegister cX8_addRegister 2 none :: tw_W) B.pre w (List.mem_cons_of_mem _ h)
  have hown : s.vm.findClass RX8 = some m9.cls := findClass_of_methodNamed B.named
  have hlocks := B.notSynchronized
  subst hsz
  unfold qv_
  have hD := hD0.self (sz := s.heap.size)
  generalize hAe : va_A [(sh, .inr (11, [.ref sb])), (sb, .inr (1, [.ref a, .int 0, .int mb, .int (nI n)])), (a, .inl (cB, m, .inl f))] s.heap.size = A at hD hFx ⊢
  have hA : ∀ q : Nat, s.heap.size ≤ q → A q := fun q h => by rw [← hAe]; exact Or.inr h
  have hS : va_S A s.heap s.heap [] := va_S.rf
  have hP : va_P (dC, dI) vwCl [(sh, .inr (11, [.ref sb])), (sb, .inr (1, [.ref a, .int 0, .int mb, .int (nI n)])), (a, .inl (cB, m, .inl f))] s.heap := hP
  have hl := lv_entry ([.ref sh, .int x]) (n := 2) (Nat.le_of_ble_eq_true rfl)
  rw [lg_entry_eq]
  generalize (lg_sl ([.ref sh, .int x]) ++ List.replicate (2 - (lg_sl ([.ref sh, .int x])).length) Slot.unset).toArray = ls at hl ⊢
  have hl : lv_has ls 2 [(0, .ref sh), (1, .int x)] := hl
  refine lv_aload_n hx hb xdX8_addRegister_0 rfl (lv_at hl 0 rfl) ?_
  refine va_get (D := (dC, dI)) (ci := 11) (v := .ref sb) (C := RX8) (T := TX8) (N := 1) hx hb ht xiX8 hown hK hP 0 rfl rfl 0 (by decide) (ht _ xw_103) (fun _ h9 => h9) rfl xdX8_addRegister_1 ?_
  refine lv_bipush (v := 120) hx hb xdX8_addRegister_4 (by decide) ?_
  refine ca_r (wr := [(sh, .inr (11, [.ref sb]))]) (rn_V (n := 1) (As := [.int 120]) (rest := []) hx hb hml hown ht hKK hFx hP hD hS hA (c_sx_acB l dC dI cI cB cZ cJ cR tb s.heap.size sb a m n f mb 120 (by first | assumption | omega | rfl | exact sb_fit0) (by first | assumption | omega | rfl | exact sb_fit0) (by first | assumption | omega | rfl | exact sb_fit0) (by first | assumption | omega | rfl | exact sb_fit0) (by first | assumption | omega | rfl | exact sb_fit0)) xw_104 xw_105 (by decide +kernel) rfl rfl ⟨Nat.le_of_ble_eq_true rfl, Nat.le_of_ble_eq_true rfl⟩ [1, 2] rfl (by decide) rfl rfl rfl rfl hl.1 rfl (Nat.le_of_ble_eq_true rfl) xdX8_addRegister_6 ⟨Nat.le_of_ble_eq_true rfl, Nat.le_of_ble_eq_true rfl⟩) hP hD hS hA (isC := [1, 2]) (isR := [0]) rfl rfl (by decide) (by decide) (fun u H locs hw1 hP hD hS => ?_)
  obtain ⟨z3, z4, z5, f6⟩ := u
  obtain ⟨g7, g8, g9, g10, g11⟩ := hw1
  have g7 : z3 = n + 1 := g7
  have g8 : z5 = 16 ∨ z5 = 34 := g8
  have g9 : z3 ≤ z5 := g9
  have g10 : sb_Fit f6 := g10
  have g11 : TA f n f6 z3 ([chB 120]) := g11
  have hP : va_P (dC, dI) vwCl [(sh, .inr (11, [.ref sb])), (sb, .inr (1, [.ref z4, .int 0, .int mb, .int (nI z3)])), (z4, .inl (cB, z5, .inl f6))] H := hP
  have hD : va_D A [(sh, .inr (11, [.ref sb])), (sb, .inr (1, [.ref z4, .int 0, .int mb, .int (nI z3)])), (z4, .inl (cB, z5, .inl f6))] := hD
  refine W.widen (k := 1) (n := 34) (by omega) (by omega) ?_
  refine lv_pop hx hb xdX8_addRegister_9 rfl ?_
  refine lv_aload_n hx hb xdX8_addRegister_10 rfl (lv_at hl 0 rfl) ?_
  refine va_get (D := (dC, dI)) (ci := 11) (v := .ref sb) (C := RX8) (T := TX8) (N := 1) hx hb ht xiX8 hown hK hP 0 rfl rfl 0 (by decide) (ht _ xw_103) (fun _ h9 => h9) rfl xdX8_addRegister_11 ?_
  refine lv_iload_n hx hb xdX8_addRegister_14 rfl (lv_at hl 1 rfl) ?_
  refine ca_r (wr := [(sh, .inr (11, [.ref sb]))]) (rn_V (n := 1) (As := [.int x]) (rest := []) hx hb hml hown ht hKK hFx hP hD hS hA (c_sx_ai l dC dI cI cB cZ cJ cR tb H.size sb z4 z5 z3 f6 mb x (by first | assumption | omega | rfl | exact sb_fit0) (by first | assumption | omega | rfl | exact sb_fit0) (by first | assumption | omega | rfl | exact sb_fit0) (by first | assumption | omega | rfl | exact sb_fit0)) xw_106 xw_107 (by decide +kernel) rfl rfl ⟨Nat.le_of_ble_eq_true rfl, Nat.le_of_ble_eq_true rfl⟩ [1, 2] rfl (by decide) rfl rfl rfl rfl hl.1 rfl (Nat.le_of_ble_eq_true rfl) xdX8_addRegister_15 ⟨Nat.le_of_ble_eq_true rfl, Nat.le_of_ble_eq_true rfl⟩) hP hD hS hA (isC := [1, 2]) (isR := [0]) rfl rfl (by decide) (by decide) (fun u H locs hw12 hP hD hS => ?_)
  obtain ⟨z14, z15, z16, f17⟩ := u
  obtain ⟨g18, g19, g20, g21, g22⟩ := hw12
  have g18 : z14 = z3 + dl x := g18
  have g19 : z16 = 16 ∨ z16 = 34 := g19
  have g20 : z14 ≤ z16 := g20
  have g21 : sb_Fit f17 := g21
  have g22 : TA f6 z3 f17 z14 (decT x) := g22
  have hP : va_P (dC, dI) vwCl [(sh, .inr (11, [.ref sb])), (sb, .inr (1, [.ref z15, .int 0, .int mb, .int (nI z14)])), (z15, .inl (cB, z16, .inl f17))] H := hP
  have hD : va_D A [(sh, .inr (11, [.ref sb])), (sb, .inr (1, [.ref z15, .int 0, .int mb, .int (nI z14)])), (z15, .inl (cB, z16, .inl f17))] := hD
  refine W.widen (k := 2) (n := 68) (by omega) (by omega) ?_
  refine lv_pop hx hb xdX8_addRegister_18 rfl ?_
  have hP9 := hP.sub (ws' := [(sh, .inr (11, [.ref sb])), (sb, .inr (1, [.ref z15, .int 0, .int mb, .int (nI z14)])), (z15, .inl (cB, z16, .inl f17))]) [0, 1, 2] rfl
  have hD9 := hD.sub (ws' := [(sh, .inr (11, [.ref sb])), (sb, .inr (1, [.ref z15, .int 0, .int mb, .int (nI z14)])), (z15, .inl (cB, z16, .inl f17))]) [0, 1, 2] (by decide) rfl
  refine W.widen (k := 2) (n := 68) (by omega) (by omega) ?_
  exact W.vret hx hb hr (fun t ht9 hW => ⟨⟨(z14, z15, z16, f17), rfl, ⟨(by first | assumption | omega | (dsimp only; omega) | (dsimp only; assumption) | rfl), (by first | assumption | omega | (dsimp only; omega) | (dsimp only; assumption) | rfl), (by first | assumption | omega | (dsimp only; omega) | (dsimp only; assumption) | rfl), (by first | assumption | omega | (dsimp only; omega) | (dsimp only; assumption) | rfl), (TA.eq (TA.tr g11 g22) (by rfl))⟩, by rw [ht9]; exact hP9, hD9⟩, hS.F ht9⟩) hS.2.2 xdX8_addRegister_19
set_option maxHeartbeats 16000000 in
set_option maxRecDepth 100000 in
/-- addPair -/
theorem c_sx_pair (l : Launch) (dC : Nat → ClassId) (dI : Nat → Nat → Nat) (cI cB cZ cJ cR : ClassId) (tb : Nat → Nat) (sz : Nat) (sh : Nat) (sb : Nat) (a : Nat) (m : Nat) (n : Nat) (f : Nat → Int32) (mb : Int32) (x : Int32) (y : Int32) (hm : m = 16 ∨ m = 34) (hf : sb_Fit f) (h1 : n + 1 + dl x + 2 + dl y ≤ 33) (hnm : n ≤ m) : Met l yX8_addPair (Cond.code yX8_addPair cX8_addPair 3 none :: tw_W) ({ frames := 7, cells := 4, slots := 136, locals := 150 }) (pc_ (dC, dI) (tyS cI cB cZ cJ cR) tb [(sh, .inr (11, [.ref sb])), (sb, .inr (1, [.ref a, .int 0, .int mb, .int (nI n)])), (a, .inl (cB, m, .inl f))] sz [.ref sh, .int x, .int y]) (qv_ (dC, dI) [(sh, .inr (11, [.ref sb])), (sb, .inr (1, [.ref a, .int 0, .int mb, .int (nI n)])), (a, .inl (cB, m, .inl f))] sz (fun (u : Nat × Nat × Nat × (Nat → Int32)) => u.1 = n + (1 + dl x + 2 + dl y) ∧ (u.2.2.1 = 16 ∨ u.2.2.1 = 34) ∧ u.1 ≤ u.2.2.1 ∧ sb_Fit u.2.2.2 ∧ TA f n u.2.2.2 u.1 (pairT x y)) (fun (u : Nat × Nat × Nat × (Nat → Int32)) => [(sh, .inr (11, [.ref sb])), (sb, .inr (1, [.ref u.2.1, .int 0, .int mb, .int (nI u.1)])), (u.2.1, .inl (cB, u.2.2.1, .inl u.2.2.2))])) 4 136 (va_A [(sh, .inr (11, [.ref sb])), (sb, .inr (1, [.ref a, .int 0, .int mb, .int (nI n)])), (a, .inl (cB, m, .inl f))] sz) := by
  refine Met.ofW (cc := cX8_addPair) (maxL := 3) (ret := none) (by decide) rfl ?_
  intro p e s m9 args below meth c s₁ B hml hv
  obtain ⟨rfl, hsz, hP, hKK, hD0, hFx⟩ := hv
  have hK := hKK.1
  have hx := B.exec
  have hb := B.bytes
  have hr := B.returns
  have ht : ∀ w ∈ tw_W, w.before _ s = true := fun w h => atoms_spec (ws := Cond.code yX8_addPair cX8_addPair 3 none :: tw_W) B.pre w (List.mem_cons_of_mem _ h)
  have hown : s.vm.findClass RX8 = some m9.cls := findClass_of_methodNamed B.named
  have hlocks := B.notSynchronized
  subst hsz
  unfold qv_
  have hD := hD0.self (sz := s.heap.size)
  generalize hAe : va_A [(sh, .inr (11, [.ref sb])), (sb, .inr (1, [.ref a, .int 0, .int mb, .int (nI n)])), (a, .inl (cB, m, .inl f))] s.heap.size = A at hD hFx ⊢
  have hA : ∀ q : Nat, s.heap.size ≤ q → A q := fun q h => by rw [← hAe]; exact Or.inr h
  have hS : va_S A s.heap s.heap [] := va_S.rf
  have hP : va_P (dC, dI) vwCl [(sh, .inr (11, [.ref sb])), (sb, .inr (1, [.ref a, .int 0, .int mb, .int (nI n)])), (a, .inl (cB, m, .inl f))] s.heap := hP
  have hl := lv_entry ([.ref sh, .int x, .int y]) (n := 3) (Nat.le_of_ble_eq_true rfl)
  rw [lg_entry_eq]
  generalize (lg_sl ([.ref sh, .int x, .int y]) ++ List.replicate (3 - (lg_sl ([.ref sh, .int x, .int y])).length) Slot.unset).toArray = ls at hl ⊢
  have hl : lv_has ls 3 [(0, .ref sh), (1, .int x), (2, .int y)] := hl
  refine lv_aload_n hx hb xdX8_addPair_0 rfl (lv_at hl 0 rfl) ?_
  refine lv_iload_n hx hb xdX8_addPair_1 rfl (lv_at hl 1 rfl) ?_
  have hd1 := dl_le x
  refine ca_v (wr := []) (rn_V (n := 1) (As := [.int x]) (rest := []) hx hb hml hown ht hKK hFx hP hD hS hA (c_sx_reg l dC dI cI cB cZ cJ cR tb s.heap.size sh sb a m n f mb x (by first | assumption | omega | rfl | exact sb_fit0) (by first | assumption | omega | rfl | exact sb_fit0) (by first | assumption | omega | rfl | exact sb_fit0) (by first | assumption | omega | rfl | exact sb_fit0)) xw_108 xw_109 (by decide +kernel) rfl rfl ⟨Nat.le_of_ble_eq_true rfl, Nat.le_of_ble_eq_true rfl⟩ [0, 1, 2] rfl (by decide) rfl rfl rfl rfl hl.1 rfl (Nat.le_of_ble_eq_true rfl) xdX8_addPair_2 ⟨Nat.le_of_ble_eq_true rfl, Nat.le_of_ble_eq_true rfl⟩) hP hD hS hA (isC := [0, 1, 2]) (isR := []) rfl rfl (by decide) (by decide) (fun u H locs hw2 hP hD hS => ?_)
  obtain ⟨z4, z5, z6, f7⟩ := u
  obtain ⟨g8, g9, g10, g11, g12⟩ := hw2
  have g8 : z4 = n + 1 + dl x := g8
  have g9 : z6 = 16 ∨ z6 = 34 := g9
  have g10 : z4 ≤ z6 := g10
  have g11 : sb_Fit f7 := g11
  have g12 : TA f n f7 z4 (rgT x) := g12
  have hP : va_P (dC, dI) vwCl [(sh, .inr (11, [.ref sb])), (sb, .inr (1, [.ref z5, .int 0, .int mb, .int (nI z4)])), (z5, .inl (cB, z6, .inl f7))] H := hP
  have hD : va_D A [(sh, .inr (11, [.ref sb])), (sb, .inr (1, [.ref z5, .int 0, .int mb, .int (nI z4)])), (z5, .inl (cB, z6, .inl f7))] := hD
  refine W.widen (k := 2) (n := 68) (by omega) (by omega) ?_
  refine lv_aload_n hx hb xdX8_addPair_5 rfl (lv_at hl 0 rfl) ?_
  refine va_get (D := (dC, dI)) (ci := 11) (v := .ref sb) (C := RX8) (T := TX8) (N := 1) hx hb ht xiX8 hown hK hP 0 rfl rfl 0 (by decide) (ht _ xw_103) (fun _ h9 => h9) rfl xdX8_addPair_6 ?_
  refine va_ldcS hx hb hown (st_ hKK 12 (own := RX8) (idx := 86) (tx := ", ") (n := 12) rfl) xdX8_addPair_9 ?_
  have hlen12 : lenS.getD 12 0 = 2 := by decide
  refine ca_r (wr := [(sh, .inr (11, [.ref sb]))]) (rn_V (n := 1) (As := [.ref (tb (100 + 12))]) (rest := []) hx hb hml hown ht hKK hFx hP hD hS hA (c_sx_asB l dC dI cI cB cZ cJ cR tb H.size sb z5 z6 z4 f7 mb 12 (by first | assumption | omega | rfl | exact sb_fit0) (by first | assumption | omega | rfl | exact sb_fit0) (by first | assumption | omega | rfl | exact sb_fit0) (by first | assumption | omega | rfl | exact sb_fit0) (by first | assumption | omega | rfl | exact sb_fit0)) xw_110 xw_111 (by decide +kernel) rfl rfl ⟨Nat.le_of_ble_eq_true rfl, Nat.le_of_ble_eq_true rfl⟩ [1, 2] rfl (by decide) rfl rfl rfl rfl hl.1 rfl (Nat.le_of_ble_eq_true rfl) xdX8_addPair_11 ⟨Nat.le_of_ble_eq_true rfl, Nat.le_of_ble_eq_true rfl⟩) hP hD hS hA (isC := [1, 2]) (isR := [0]) rfl rfl (by decide) (by decide) (fun u H locs hw13 hP hD hS => ?_)
  obtain ⟨z15, z16, z17, f18⟩ := u
  obtain ⟨g19, g20, g21, g22, g23⟩ := hw13
  have g19 : z15 = z4 + lenS.getD 12 0 := g19
  have g20 : z17 = 16 ∨ z17 = 34 := g20
  have g21 : z15 ≤ z17 := g21
  have g22 : sb_Fit f18 := g22
  have g23 : TA f7 z4 f18 z15 (strT 12) := g23
  have hP : va_P (dC, dI) vwCl [(sh, .inr (11, [.ref sb])), (sb, .inr (1, [.ref z16, .int 0, .int mb, .int (nI z15)])), (z16, .inl (cB, z17, .inl f18))] H := hP
  have hD : va_D A [(sh, .inr (11, [.ref sb])), (sb, .inr (1, [.ref z16, .int 0, .int mb, .int (nI z15)])), (z16, .inl (cB, z17, .inl f18))] := hD
  refine W.widen (k := 3) (n := 102) (by omega) (by omega) ?_
  refine lv_pop hx hb xdX8_addPair_14 rfl ?_
  refine lv_aload_n hx hb xdX8_addPair_15 rfl (lv_at hl 0 rfl) ?_
  refine va_get (D := (dC, dI)) (ci := 11) (v := .ref sb) (C := RX8) (T := TX8) (N := 1) hx hb ht xiX8 hown hK hP 0 rfl rfl 0 (by decide) (ht _ xw_103) (fun _ h9 => h9) rfl xdX8_addPair_16 ?_
  refine lv_iload_n hx hb xdX8_addPair_19 rfl (lv_at hl 2 rfl) ?_
  refine ca_r (wr := [(sh, .inr (11, [.ref sb]))]) (rn_V (n := 1) (As := [.int y]) (rest := []) hx hb hml hown ht hKK hFx hP hD hS hA (c_sx_ai l dC dI cI cB cZ cJ cR tb H.size sb z16 z17 z15 f18 mb y (by first | assumption | omega | rfl | exact sb_fit0) (by first | assumption | omega | rfl | exact sb_fit0) (by first | assumption | omega | rfl | exact sb_fit0) (by first | assumption | omega | rfl | exact sb_fit0)) xw_106 xw_107 (by decide +kernel) rfl rfl ⟨Nat.le_of_ble_eq_true rfl, Nat.le_of_ble_eq_true rfl⟩ [1, 2] rfl (by decide) rfl rfl rfl rfl hl.1 rfl (Nat.le_of_ble_eq_true rfl) xdX8_addPair_20 ⟨Nat.le_of_ble_eq_true rfl, Nat.le_of_ble_eq_true rfl⟩) hP hD hS hA (isC := [1, 2]) (isR := [0]) rfl rfl (by decide) (by decide) (fun u H locs hw24 hP hD hS => ?_)
  obtain ⟨z26, z27, z28, f29⟩ := u
  obtain ⟨g30, g31, g32, g33, g34⟩ := hw24
  have g30 : z26 = z15 + dl y := g30
  have g31 : z28 = 16 ∨ z28 = 34 := g31
  have g32 : z26 ≤ z28 := g32
  have g33 : sb_Fit f29 := g33
  have g34 : TA f18 z15 f29 z26 (decT y) := g34
  have hP : va_P (dC, dI) vwCl [(sh, .inr (11, [.ref sb])), (sb, .inr (1, [.ref z27, .int 0, .int mb, .int (nI z26)])), (z27, .inl (cB, z28, .inl f29))] H := hP
  have hD : va_D A [(sh, .inr (11, [.ref sb])), (sb, .inr (1, [.ref z27, .int 0, .int mb, .int (nI z26)])), (z27, .inl (cB, z28, .inl f29))] := hD
  refine W.widen (k := 4) (n := 136) (by omega) (by omega) ?_
  refine lv_pop hx hb xdX8_addPair_23 rfl ?_
  have hP9 := hP.sub (ws' := [(sh, .inr (11, [.ref sb])), (sb, .inr (1, [.ref z27, .int 0, .int mb, .int (nI z26)])), (z27, .inl (cB, z28, .inl f29))]) [0, 1, 2] rfl
  have hD9 := hD.sub (ws' := [(sh, .inr (11, [.ref sb])), (sb, .inr (1, [.ref z27, .int 0, .int mb, .int (nI z26)])), (z27, .inl (cB, z28, .inl f29))]) [0, 1, 2] (by decide) rfl
  refine W.widen (k := 4) (n := 136) (by omega) (by omega) ?_
  exact W.vret hx hb hr (fun t ht9 hW => ⟨⟨(z26, z27, z28, f29), rfl, ⟨(by first | assumption | omega | (dsimp only; omega) | (dsimp only; assumption) | rfl), (by first | assumption | omega | (dsimp only; omega) | (dsimp only; assumption) | rfl), (by first | assumption | omega | (dsimp only; omega) | (dsimp only; assumption) | rfl), (by first | assumption | omega | (dsimp only; omega) | (dsimp only; assumption) | rfl), (TA.eq (TA.tr (TA.tr g12 g23) g34) (by rfl))⟩, by rw [ht9]; exact hP9, hD9⟩, hS.F ht9⟩) hS.2.2 xdX8_addPair_24
set_option maxHeartbeats 16000000 in
set_option maxRecDepth 100000 in
/-- addReach -/
theorem c_sx_reach (l : Launch) (dC : Nat → ClassId) (dI : Nat → Nat → Nat) (cI cB cZ cJ cR : ClassId) (tb : Nat → Nat) (sz : Nat) (sh : Nat) (sb : Nat) (a : Nat) (m : Nat) (n : Nat) (f : Nat → Int32) (mb : Int32) (x : Int32) (y : Int32) (v : Int32) (hm : m = 16 ∨ m = 34) (hf : sb_Fit f) (h1 : n + (1 + dl x + 2 + dl y) + 1 + (1 + dl v) + 1 ≤ 33) (hnm : n ≤ m) : Met l yX8_addReach (Cond.code yX8_addReach cX8_addReach 4 none :: tw_W) ({ frames := 8, cells := 8, slots := 272, locals := 172 }) (pc_ (dC, dI) (tyS cI cB cZ cJ cR) tb [(sh, .inr (11, [.ref sb])), (sb, .inr (1, [.ref a, .int 0, .int mb, .int (nI n)])), (a, .inl (cB, m, .inl f))] sz [.ref sh, .int x, .int y, .int v]) (qv_ (dC, dI) [(sh, .inr (11, [.ref sb])), (sb, .inr (1, [.ref a, .int 0, .int mb, .int (nI n)])), (a, .inl (cB, m, .inl f))] sz (fun (u : Nat × Nat × Nat × (Nat → Int32)) => u.1 = n + ((1 + dl x + 2 + dl y) + 1 + (1 + dl v) + 1) ∧ (u.2.2.1 = 16 ∨ u.2.2.1 = 34) ∧ u.1 ≤ u.2.2.1 ∧ sb_Fit u.2.2.2 ∧ TA f n u.2.2.2 u.1 (reachT x y v)) (fun (u : Nat × Nat × Nat × (Nat → Int32)) => [(sh, .inr (11, [.ref sb])), (sb, .inr (1, [.ref u.2.1, .int 0, .int mb, .int (nI u.1)])), (u.2.1, .inl (cB, u.2.2.1, .inl u.2.2.2))])) 8 272 (va_A [(sh, .inr (11, [.ref sb])), (sb, .inr (1, [.ref a, .int 0, .int mb, .int (nI n)])), (a, .inl (cB, m, .inl f))] sz) := by
  refine Met.ofW (cc := cX8_addReach) (maxL := 4) (ret := none) (by decide) rfl ?_
  intro p e s m9 args below meth c s₁ B hml hv
  obtain ⟨rfl, hsz, hP, hKK, hD0, hFx⟩ := hv
  have hK := hKK.1
  have hx := B.exec
  have hb := B.bytes
  have hr := B.returns
  have ht : ∀ w ∈ tw_W, w.before _ s = true := fun w h => atoms_spec (ws := Cond.code yX8_addReach cX8_addReach 4 none :: tw_W) B.pre w (List.mem_cons_of_mem _ h)
  have hown : s.vm.findClass RX8 = some m9.cls := findClass_of_methodNamed B.named
  have hlocks := B.notSynchronized
  subst hsz
  unfold qv_
  have hD := hD0.self (sz := s.heap.size)
  generalize hAe : va_A [(sh, .inr (11, [.ref sb])), (sb, .inr (1, [.ref a, .int 0, .int mb, .int (nI n)])), (a, .inl (cB, m, .inl f))] s.heap.size = A at hD hFx ⊢
  have hA : ∀ q : Nat, s.heap.size ≤ q → A q := fun q h => by rw [← hAe]; exact Or.inr h
  have hS : va_S A s.heap s.heap [] := va_S.rf
  have hP : va_P (dC, dI) vwCl [(sh, .inr (11, [.ref sb])), (sb, .inr (1, [.ref a, .int 0, .int mb, .int (nI n)])), (a, .inl (cB, m, .inl f))] s.heap := hP
  have hl := lv_entry ([.ref sh, .int x, .int y, .int v]) (n := 4) (Nat.le_of_ble_eq_true rfl)
  rw [lg_entry_eq]
  generalize (lg_sl ([.ref sh, .int x, .int y, .int v]) ++ List.replicate (4 - (lg_sl ([.ref sh, .int x, .int y, .int v])).length) Slot.unset).toArray = ls at hl ⊢
  have hl : lv_has ls 4 [(0, .ref sh), (1, .int x), (2, .int y), (3, .int v)] := hl
  refine lv_aload_n hx hb xdX8_addReach_0 rfl (lv_at hl 0 rfl) ?_
  refine lv_iload_n hx hb xdX8_addReach_1 rfl (lv_at hl 1 rfl) ?_
  refine lv_iload_n hx hb xdX8_addReach_2 rfl (lv_at hl 2 rfl) ?_
  have hd1 := dl_le x
  have hd2 := dl_le y
  refine ca_v (wr := []) (rn_V (n := 2) (As := [.int x, .int y]) (rest := []) hx hb hml hown ht hKK hFx hP hD hS hA (c_sx_pair l dC dI cI cB cZ cJ cR tb s.heap.size sh sb a m n f mb x y (by first | assumption | omega | rfl | exact sb_fit0) (by first | assumption | omega | rfl | exact sb_fit0) (by first | assumption | omega | rfl | exact sb_fit0) (by first | assumption | omega | rfl | exact sb_fit0)) xw_112 xw_113 (by decide +kernel) rfl rfl ⟨Nat.le_of_ble_eq_true rfl, Nat.le_of_ble_eq_true rfl⟩ [0, 1, 2] rfl (by decide) rfl rfl rfl rfl hl.1 rfl (Nat.le_of_ble_eq_true rfl) xdX8_addReach_3 ⟨Nat.le_of_ble_eq_true rfl, Nat.le_of_ble_eq_true rfl⟩) hP hD hS hA (isC := [0, 1, 2]) (isR := []) rfl rfl (by decide) (by decide) (fun u H locs hw3 hP hD hS => ?_)
  obtain ⟨z5, z6, z7, f8⟩ := u
  obtain ⟨g9, g10, g11, g12, g13⟩ := hw3
  have g9 : z5 = n + (1 + dl x + 2 + dl y) := g9
  have g10 : z7 = 16 ∨ z7 = 34 := g10
  have g11 : z5 ≤ z7 := g11
  have g12 : sb_Fit f8 := g12
  have g13 : TA f n f8 z5 (pairT x y) := g13
  have hP : va_P (dC, dI) vwCl [(sh, .inr (11, [.ref sb])), (sb, .inr (1, [.ref z6, .int 0, .int mb, .int (nI z5)])), (z6, .inl (cB, z7, .inl f8))] H := hP
  have hD : va_D A [(sh, .inr (11, [.ref sb])), (sb, .inr (1, [.ref z6, .int 0, .int mb, .int (nI z5)])), (z6, .inl (cB, z7, .inl f8))] := hD
  refine W.widen (k := 4) (n := 136) (by omega) (by omega) ?_
  refine lv_aload_n hx hb xdX8_addReach_6 rfl (lv_at hl 0 rfl) ?_
  refine va_get (D := (dC, dI)) (ci := 11) (v := .ref sb) (C := RX8) (T := TX8) (N := 1) hx hb ht xiX8 hown hK hP 0 rfl rfl 0 (by decide) (ht _ xw_103) (fun _ h9 => h9) rfl xdX8_addReach_7 ?_
  refine lv_bipush (v := 40) hx hb xdX8_addReach_10 (by decide) ?_
  refine ca_r (wr := [(sh, .inr (11, [.ref sb]))]) (rn_V (n := 1) (As := [.int 40]) (rest := []) hx hb hml hown ht hKK hFx hP hD hS hA (c_sx_acB l dC dI cI cB cZ cJ cR tb H.size sb z6 z7 z5 f8 mb 40 (by first | assumption | omega | rfl | exact sb_fit0) (by first | assumption | omega | rfl | exact sb_fit0) (by first | assumption | omega | rfl | exact sb_fit0) (by first | assumption | omega | rfl | exact sb_fit0) (by first | assumption | omega | rfl | exact sb_fit0)) xw_104 xw_105 (by decide +kernel) rfl rfl ⟨Nat.le_of_ble_eq_true rfl, Nat.le_of_ble_eq_true rfl⟩ [1, 2] rfl (by decide) rfl rfl rfl rfl hl.1 rfl (Nat.le_of_ble_eq_true rfl) xdX8_addReach_12 ⟨Nat.le_of_ble_eq_true rfl, Nat.le_of_ble_eq_true rfl⟩) hP hD hS hA (isC := [1, 2]) (isR := [0]) rfl rfl (by decide) (by decide) (fun u H locs hw14 hP hD hS => ?_)
  obtain ⟨z16, z17, z18, f19⟩ := u
  obtain ⟨g20, g21, g22, g23, g24⟩ := hw14
  have g20 : z16 = z5 + 1 := g20
  have g21 : z18 = 16 ∨ z18 = 34 := g21
  have g22 : z16 ≤ z18 := g22
  have g23 : sb_Fit f19 := g23
  have g24 : TA f8 z5 f19 z16 ([chB 40]) := g24
  have hP : va_P (dC, dI) vwCl [(sh, .inr (11, [.ref sb])), (sb, .inr (1, [.ref z17, .int 0, .int mb, .int (nI z16)])), (z17, .inl (cB, z18, .inl f19))] H := hP
  have hD : va_D A [(sh, .inr (11, [.ref sb])), (sb, .inr (1, [.ref z17, .int 0, .int mb, .int (nI z16)])), (z17, .inl (cB, z18, .inl f19))] := hD
  refine W.widen (k := 5) (n := 170) (by omega) (by omega) ?_
  refine lv_pop hx hb xdX8_addReach_15 rfl ?_
  refine lv_aload_n hx hb xdX8_addReach_16 rfl (lv_at hl 0 rfl) ?_
  refine lv_iload_n hx hb xdX8_addReach_17 rfl (lv_at hl 3 rfl) ?_
  have hd25 := dl_le v
  refine ca_v (wr := []) (rn_V (n := 1) (As := [.int v]) (rest := []) hx hb hml hown ht hKK hFx hP hD hS hA (c_sx_reg l dC dI cI cB cZ cJ cR tb H.size sh sb z17 z18 z16 f19 mb v (by first | assumption | omega | rfl | exact sb_fit0) (by first | assumption | omega | rfl | exact sb_fit0) (by first | assumption | omega | rfl | exact sb_fit0) (by first | assumption | omega | rfl | exact sb_fit0)) xw_108 xw_109 (by decide +kernel) rfl rfl ⟨Nat.le_of_ble_eq_true rfl, Nat.le_of_ble_eq_true rfl⟩ [0, 1, 2] rfl (by decide) rfl rfl rfl rfl hl.1 rfl (Nat.le_of_ble_eq_true rfl) xdX8_addReach_18 ⟨Nat.le_of_ble_eq_true rfl, Nat.le_of_ble_eq_true rfl⟩) hP hD hS hA (isC := [0, 1, 2]) (isR := []) rfl rfl (by decide) (by decide) (fun u H locs hw26 hP hD hS => ?_)
  obtain ⟨z28, z29, z30, f31⟩ := u
  obtain ⟨g32, g33, g34, g35, g36⟩ := hw26
  have g32 : z28 = z16 + 1 + dl v := g32
  have g33 : z30 = 16 ∨ z30 = 34 := g33
  have g34 : z28 ≤ z30 := g34
  have g35 : sb_Fit f31 := g35
  have g36 : TA f19 z16 f31 z28 (rgT v) := g36
  have hP : va_P (dC, dI) vwCl [(sh, .inr (11, [.ref sb])), (sb, .inr (1, [.ref z29, .int 0, .int mb, .int (nI z28)])), (z29, .inl (cB, z30, .inl f31))] H := hP
  have hD : va_D A [(sh, .inr (11, [.ref sb])), (sb, .inr (1, [.ref z29, .int 0, .int mb, .int (nI z28)])), (z29, .inl (cB, z30, .inl f31))] := hD
  refine W.widen (k := 7) (n := 238) (by omega) (by omega) ?_
  refine lv_aload_n hx hb xdX8_addReach_21 rfl (lv_at hl 0 rfl) ?_
  refine va_get (D := (dC, dI)) (ci := 11) (v := .ref sb) (C := RX8) (T := TX8) (N := 1) hx hb ht xiX8 hown hK hP 0 rfl rfl 0 (by decide) (ht _ xw_103) (fun _ h9 => h9) rfl xdX8_addReach_22 ?_
  refine lv_bipush (v := 41) hx hb xdX8_addReach_25 (by decide) ?_
  refine ca_r (wr := [(sh, .inr (11, [.ref sb]))]) (rn_V (n := 1) (As := [.int 41]) (rest := []) hx hb hml hown ht hKK hFx hP hD hS hA (c_sx_acB l dC dI cI cB cZ cJ cR tb H.size sb z29 z30 z28 f31 mb 41 (by first | assumption | omega | rfl | exact sb_fit0) (by first | assumption | omega | rfl | exact sb_fit0) (by first | assumption | omega | rfl | exact sb_fit0) (by first | assumption | omega | rfl | exact sb_fit0) (by first | assumption | omega | rfl | exact sb_fit0)) xw_104 xw_105 (by decide +kernel) rfl rfl ⟨Nat.le_of_ble_eq_true rfl, Nat.le_of_ble_eq_true rfl⟩ [1, 2] rfl (by decide) rfl rfl rfl rfl hl.1 rfl (Nat.le_of_ble_eq_true rfl) xdX8_addReach_27 ⟨Nat.le_of_ble_eq_true rfl, Nat.le_of_ble_eq_true rfl⟩) hP hD hS hA (isC := [1, 2]) (isR := [0]) rfl rfl (by decide) (by decide) (fun u H locs hw37 hP hD hS => ?_)
  obtain ⟨z39, z40, z41, f42⟩ := u
  obtain ⟨g43, g44, g45, g46, g47⟩ := hw37
  have g43 : z39 = z28 + 1 := g43
  have g44 : z41 = 16 ∨ z41 = 34 := g44
  have g45 : z39 ≤ z41 := g45
  have g46 : sb_Fit f42 := g46
  have g47 : TA f31 z28 f42 z39 ([chB 41]) := g47
  have hP : va_P (dC, dI) vwCl [(sh, .inr (11, [.ref sb])), (sb, .inr (1, [.ref z40, .int 0, .int mb, .int (nI z39)])), (z40, .inl (cB, z41, .inl f42))] H := hP
  have hD : va_D A [(sh, .inr (11, [.ref sb])), (sb, .inr (1, [.ref z40, .int 0, .int mb, .int (nI z39)])), (z40, .inl (cB, z41, .inl f42))] := hD
  refine W.widen (k := 8) (n := 272) (by omega) (by omega) ?_
  refine lv_pop hx hb xdX8_addReach_30 rfl ?_
  have hP9 := hP.sub (ws' := [(sh, .inr (11, [.ref sb])), (sb, .inr (1, [.ref z40, .int 0, .int mb, .int (nI z39)])), (z40, .inl (cB, z41, .inl f42))]) [0, 1, 2] rfl
  have hD9 := hD.sub (ws' := [(sh, .inr (11, [.ref sb])), (sb, .inr (1, [.ref z40, .int 0, .int mb, .int (nI z39)])), (z40, .inl (cB, z41, .inl f42))]) [0, 1, 2] (by decide) rfl
  refine W.widen (k := 8) (n := 272) (by omega) (by omega) ?_
  exact W.vret hx hb hr (fun t ht9 hW => ⟨⟨(z39, z40, z41, f42), rfl, ⟨(by first | assumption | omega | (dsimp only; omega) | (dsimp only; assumption) | rfl), (by first | assumption | omega | (dsimp only; omega) | (dsimp only; assumption) | rfl), (by first | assumption | omega | (dsimp only; omega) | (dsimp only; assumption) | rfl), (by first | assumption | omega | (dsimp only; omega) | (dsimp only; assumption) | rfl), (TA.eq (TA.tr (TA.tr (TA.tr g13 g24) g36) g47) (by rfl))⟩, by rw [ht9]; exact hP9, hD9⟩, hS.F ht9⟩) hS.2.2 xdX8_addReach_31
set_option maxHeartbeats 16000000 in
set_option maxRecDepth 100000 in
/-- addName -/
theorem c_sx_name (l : Launch) (dC : Nat → ClassId) (dI : Nat → Nat → Nat) (cI cB cZ cJ cR : ClassId) (tb : Nat → Nat) (sz : Nat) (sh : Nat) (sb : Nat) (a : Nat) (m : Nat) (n : Nat) (f : Nat → Int32) (mb : Int32) (kd : Nat) (hm : m = 16 ∨ m = 34) (hf : sb_Fit f) (h1 : kd ≤ 40) (h2 : n + 6 ≤ m) : Met l yX8_addName (Cond.code yX8_addName cX8_addName 4 none :: tw_W) ({ frames := 4, cells := 0, slots := 0, locals := 85 }) (pc_ (dC, dI) (tyS cI cB cZ cJ cR) tb [(sh, .inr (11, [.ref sb])), (sb, .inr (1, [.ref a, .int 0, .int mb, .int (nI n)])), (a, .inl (cB, m, .inl f))] sz [.ref sh, .int (nI kd)]) (qv_ (dC, dI) [(sh, .inr (11, [.ref sb])), (sb, .inr (1, [.ref a, .int 0, .int mb, .int (nI n)])), (a, .inl (cB, m, .inl f))] sz (fun (u : Nat × (Nat → Int32)) => u.1 = n + cntN kd 6 ∧ u.1 ≤ m ∧ sb_Fit u.2 ∧ TA f n u.2 u.1 (nmT kd 6)) (fun (u : Nat × (Nat → Int32)) => [(sh, .inr (11, [.ref sb])), (sb, .inr (1, [.ref a, .int 0, .int mb, .int (nI u.1)])), (a, .inl (cB, m, .inl u.2))])) 0 0 (va_A [(sh, .inr (11, [.ref sb])), (sb, .inr (1, [.ref a, .int 0, .int mb, .int (nI n)])), (a, .inl (cB, m, .inl f))] sz) := by
  refine Met.ofW (cc := cX8_addName) (maxL := 4) (ret := none) (by decide) rfl ?_
  intro p e s m9 args below meth c s₁ B hml hv
  obtain ⟨rfl, hsz, hP, hKK, hD0, hFx⟩ := hv
  have hK := hKK.1
  have hx := B.exec
  have hb := B.bytes
  have hr := B.returns
  have ht : ∀ w ∈ tw_W, w.before _ s = true := fun w h => atoms_spec (ws := Cond.code yX8_addName cX8_addName 4 none :: tw_W) B.pre w (List.mem_cons_of_mem _ h)
  have hown : s.vm.findClass RX8 = some m9.cls := findClass_of_methodNamed B.named
  have hlocks := B.notSynchronized
  subst hsz
  unfold qv_
  have hD := hD0.self (sz := s.heap.size)
  generalize hAe : va_A [(sh, .inr (11, [.ref sb])), (sb, .inr (1, [.ref a, .int 0, .int mb, .int (nI n)])), (a, .inl (cB, m, .inl f))] s.heap.size = A at hD hFx ⊢
  have hA : ∀ q : Nat, s.heap.size ≤ q → A q := fun q h => by rw [← hAe]; exact Or.inr h
  have hS : va_S A s.heap s.heap [] := va_S.rf
  have hP : va_P (dC, dI) vwCl [(sh, .inr (11, [.ref sb])), (sb, .inr (1, [.ref a, .int 0, .int mb, .int (nI n)])), (a, .inl (cB, m, .inl f))] s.heap := hP
  have hl := lv_entry ([.ref sh, .int (nI kd)]) (n := 4) (Nat.le_of_ble_eq_true rfl)
  rw [lg_entry_eq]
  generalize (lg_sl ([.ref sh, .int (nI kd)]) ++ List.replicate (4 - (lg_sl ([.ref sh, .int (nI kd)])).length) Slot.unset).toArray = ls at hl ⊢
  have hl : lv_has ls 4 [(0, .ref sh), (1, .int (nI kd))] := hl
  refine lv_iload_n hx hb xdX8_addName_0 rfl (lv_at hl 1 rfl) ?_
  refine lv_bipush (v := 6) hx hb xdX8_addName_1 (by decide) ?_
  refine lv_imul hx hb xdX8_addName_3 ?_
  refine tp_i (y := (nI (kd * 6))) (pk_mul _ _) ?_
  refine lv_istore_n (lv' := [(2, .int (nI (kd * 6))), (0, .ref sh), (1, .int (nI kd))]) hx hb xdX8_addName_4 rfl hl (by decide) rfl (fun ls hl => ?_)
  refine lv_iload_n hx hb xdX8_addName_5 rfl (lv_at hl 0 rfl) ?_
  refine lv_istore_n (lv' := [(3, .int (nI (kd * 6))), (2, .int (nI (kd * 6))), (0, .ref sh), (1, .int (nI kd))]) hx hb xdX8_addName_6 rfl hl (by decide) rfl (fun ls hl => ?_)
  refine lp_ (P := fun (i9 : Nat) (H : Heap) (locs : List Loc) (ls : Array Slot) => ∃ (kX : Nat) (fX : Nat → Int32), kX = n + cntN kd i9 ∧ kX ≤ n + i9 ∧ sb_Fit fX ∧ TA f n fX kX (nmT kd i9) ∧ va_P (dC, dI) vwCl [(sh, .inr (11, [.ref sb])), (sb, .inr (1, [.ref a, .int 0, .int mb, .int (nI kX)])), (a, .inl (cB, m, .inl fX))] H ∧ va_D A [(sh, .inr (11, [.ref sb])), (sb, .inr (1, [.ref a, .int 0, .int mb, .int (nI kX)])), (a, .inl (cB, m, .inl fX))] ∧ va_S A s.heap H locs ∧ lv_has ls 4 [(3, .int (nI (kd * 6 + i9))), (2, .int (nI (kd * 6))), (0, .ref sh), (1, .int (nI kd))]) 7 6 (fun i9 H locs ls hi9 hq9 ih9 => ?_) (fun H locs ls hq9 => ?_) 0 _ _ _ (by omega) ⟨n, f, rfl, by omega, by assumption, TA.nil, hP, hD, hS, lv_sub hl [0, 1, 2, 3] rfl⟩
  · obtain ⟨kX, fX, hkX, hkX2, hfX, hTX, hP, hD, hS, hl⟩ := hq9
    refine lv_iload_n hx hb xdX8_addName_7 rfl (lv_at hl 0 rfl) ?_
    refine lv_iload_n hx hb xdX8_addName_8 rfl (lv_at hl 1 rfl) ?_
    refine lv_bipush (v := 6) hx hb xdX8_addName_9 (by decide) ?_
    refine lv_iadd hx hb xdX8_addName_11 ?_
    refine tp_i (y := (nI ((kd * 6) + 6))) (nI_add _ _) ?_
    refine lv_icmp_ge (tgt := 59) hx hb xdX8_addName_12 (by decide) (fun k1 => absurd k1 (show ¬ nI ((kd * 6) + 6) ≤ nI (kd * 6 + i9) from nI_ge (by omega) (by omega))) (fun _ => ?_)
    refine lv_iload_n hx hb xdX8_addName_15 rfl (lv_at hl 0 rfl) ?_
    refine va_ldcS hx hb hown (st_ hKK 9 (own := RX8) (idx := 50) (tx := "lui   auipc jal   jalr  beq   bne   blt   bge   bltu  bgeu  lb    lh    lw    lbu   lhu   sb    sh    sw    addi  slti  sltiu xori  ori   andi  slli  srli  srai  add   sub   sll   slt   sltu  xor   srl   sra   or    and   fence ecall ebreakword  ") (n := 9) rfl) xdX8_addName_16 ?_
    have hlen9 : lenS.getD 9 0 = 246 := by decide
    refine ca_i (wr := [(sh, .inr (11, [.ref sb])), (sb, .inr (1, [.ref a, .int 0, .int mb, .int (nI kX)])), (a, .inl (cB, m, .inl fX))]) (rn_VS (n := 0) (As := []) (rest := [.int (nI (kd * 6 + i9))]) hx hb hml hown ht hKK hFx hP hD hS hA (i := 9) (by decide) (c_sx_strLen l dC dI cI cB cZ cJ cR tb H.size 9 (by first | assumption | omega | rfl | exact sb_fit0)) xw_65 xw_114 (by decide +kernel) rfl rfl ⟨Nat.le_of_ble_eq_true rfl, Nat.le_of_ble_eq_true rfl⟩ [] rfl (by decide) rfl hl.1 rfl (Nat.le_of_ble_eq_true rfl) xdX8_addName_18 ⟨Nat.le_of_ble_eq_true rfl, Nat.le_of_ble_eq_true rfl⟩) hP hD hS hA (isC := []) (isR := [0, 1, 2]) rfl rfl (by decide) (by decide) (fun r3 u H locs hw2 hP hD hS => ?_)
    subst hw2
    have hP : va_P (dC, dI) vwCl [(sh, .inr (11, [.ref sb])), (sb, .inr (1, [.ref a, .int 0, .int mb, .int (nI kX)])), (a, .inl (cB, m, .inl fX))] H := hP
    have hD : va_D A [(sh, .inr (11, [.ref sb])), (sb, .inr (1, [.ref a, .int 0, .int mb, .int (nI kX)])), (a, .inl (cB, m, .inl fX))] := hD
    refine W.widen (k := 0) (n := 0) (by omega) (by omega) ?_
    refine lv_icmp_ge (tgt := 59) hx hb xdX8_addName_21 (by decide) (fun k4 => absurd k4 (show ¬ nI (lenS.getD 9 0) ≤ nI (kd * 6 + i9) from nI_ge (by omega) (by omega))) (fun _ => ?_)
    refine lv_iload_n hx hb xdX8_addName_24 rfl (lv_at hl 0 rfl) ?_
    refine lv_if_lt (tgt := 53) hx hb xdX8_addName_25 (by decide) (fun k5 => absurd k5 (show ¬ nI (kd * 6 + i9) < nI 0 from nI_nlt (by omega) (by omega))) (fun _ => ?_)
    refine va_ldcS hx hb hown (st_ hKK 9 (own := RX8) (idx := 50) (tx := "lui   auipc jal   jalr  beq   bne   blt   bge   bltu  bgeu  lb    lh    lw    lbu   lhu   sb    sh    sw    addi  slti  sltiu xori  ori   andi  slli  srli  srai  add   sub   sll   slt   sltu  xor   srl   sra   or    and   fence ecall ebreakword  ") (n := 9) rfl) xdX8_addName_28 ?_
    refine lv_iload_n hx hb xdX8_addName_30 rfl (lv_at hl 0 rfl) ?_
    have hlen9 : lenS.getD 9 0 = 246 := by decide
    refine ca_i (wr := [(sh, .inr (11, [.ref sb])), (sb, .inr (1, [.ref a, .int 0, .int mb, .int (nI kX)])), (a, .inl (cB, m, .inl fX))]) (rn_VS (n := 1) (As := [.int (nI (kd * 6 + i9))]) (rest := []) hx hb hml hown ht hKK hFx hP hD hS hA (i := 9) (by decide) (c_sx_charAt l dC dI cI cB cZ cJ cR tb H.size 9 (kd * 6 + i9) (by first | assumption | omega | rfl | exact sb_fit0) (by first | assumption | omega | rfl | exact sb_fit0) (by first | assumption | omega | rfl | exact sb_fit0)) xw_115 xw_116 (by decide +kernel) rfl rfl ⟨Nat.le_of_ble_eq_true rfl, Nat.le_of_ble_eq_true rfl⟩ [] rfl (by decide) rfl hl.1 rfl (Nat.le_of_ble_eq_true rfl) xdX8_addName_31 ⟨Nat.le_of_ble_eq_true rfl, Nat.le_of_ble_eq_true rfl⟩) hP hD hS hA (isC := []) (isR := [0, 1, 2]) rfl rfl (by decide) (by decide) (fun r7 u H locs hw6 hP hD hS => ?_)
    subst hw6
    have hP : va_P (dC, dI) vwCl [(sh, .inr (11, [.ref sb])), (sb, .inr (1, [.ref a, .int 0, .int mb, .int (nI kX)])), (a, .inl (cB, m, .inl fX))] H := hP
    have hD : va_D A [(sh, .inr (11, [.ref sb])), (sb, .inr (1, [.ref a, .int 0, .int mb, .int (nI kX)])), (a, .inl (cB, m, .inl fX))] := hD
    refine W.widen (k := 0) (n := 0) (by omega) (by omega) ?_
    refine lv_bipush (v := 32) hx hb xdX8_addName_34 (by decide) ?_
    refine lv_icmp_eq (tgt := 53) hx hb xdX8_addName_36 (by decide) (fun h8 => ?_) (fun h8 => ?_)
    · have hch9 := chN_lt 9 (kd * 6 + i9)
      have hc9 : chN 9 (kd * 6 + i9) = 32 := (nI_eq (b := 32) (by omega) (by omega)).mp h8
      refine lv_iinc (v := (nI ((kd * 6 + i9) + 1))) (lv' := [(3, .int (nI ((kd * 6 + i9) + 1))), (2, .int (nI (kd * 6))), (0, .ref sh), (1, .int (nI kd))]) hx hb xdX8_addName_53 hl (k := 0) rfl (nI_add _ 1) (by decide) rfl (fun ls hl => ?_)
      refine lv_goto (tgt := 7) hx hb xdX8_addName_56 (by decide) ?_
      exact ih9 _ _ _ ⟨kX, fX, by show _ = n + (cntN kd i9 + (if chN 9 (kd * 6 + i9) = 32 then 0 else 1)); rw [if_pos hc9]; omega, by omega, by assumption, (TA.eq hTX (by show _ = nmT kd i9 ++ (if chN 9 (kd * 6 + i9) = 32 then [] else [chB (chN 9 (kd * 6 + i9))]); rw [if_pos hc9, List.append_nil])), hP, hD, hS, lv_sub hl [0, 1, 2, 3] rfl⟩
    · have hch9 := chN_lt 9 (kd * 6 + i9)
      have hc9 : ¬ chN 9 (kd * 6 + i9) = 32 := fun z => h8 (congrArg nI z)
      refine lv_aload_n hx hb xdX8_addName_39 rfl (lv_at hl 2 rfl) ?_
      refine va_get (D := (dC, dI)) (ci := 11) (v := .ref sb) (C := RX8) (T := TX8) (N := 1) hx hb ht xiX8 hown hK hP 0 rfl rfl 0 (by decide) (ht _ xw_103) (fun _ h9 => h9) rfl xdX8_addName_40 ?_
      refine va_ldcS hx hb hown (st_ hKK 9 (own := RX8) (idx := 50) (tx := "lui   auipc jal   jalr  beq   bne   blt   bge   bltu  bgeu  lb    lh    lw    lbu   lhu   sb    sh    sw    addi  slti  sltiu xori  ori   andi  slli  srli  srai  add   sub   sll   slt   sltu  xor   srl   sra   or    and   fence ecall ebreakword  ") (n := 9) rfl) xdX8_addName_43 ?_
      refine lv_iload_n hx hb xdX8_addName_45 rfl (lv_at hl 0 rfl) ?_
      have hlen9 : lenS.getD 9 0 = 246 := by decide
      refine ca_i (wr := [(sh, .inr (11, [.ref sb])), (sb, .inr (1, [.ref a, .int 0, .int mb, .int (nI kX)])), (a, .inl (cB, m, .inl fX))]) (rn_VS (n := 1) (As := [.int (nI (kd * 6 + i9))]) (rest := [.ref sb]) hx hb hml hown ht hKK hFx hP hD hS hA (i := 9) (by decide) (c_sx_charAt l dC dI cI cB cZ cJ cR tb H.size 9 (kd * 6 + i9) (by first | assumption | omega | rfl | exact sb_fit0) (by first | assumption | omega | rfl | exact sb_fit0) (by first | assumption | omega | rfl | exact sb_fit0)) xw_115 xw_116 (by decide +kernel) rfl rfl ⟨Nat.le_of_ble_eq_true rfl, Nat.le_of_ble_eq_true rfl⟩ [] rfl (by decide) rfl hl.1 rfl (Nat.le_of_ble_eq_true rfl) xdX8_addName_46 ⟨Nat.le_of_ble_eq_true rfl, Nat.le_of_ble_eq_true rfl⟩) hP hD hS hA (isC := []) (isR := [0, 1, 2]) rfl rfl (by decide) (by decide) (fun r10 u H locs hw9 hP hD hS => ?_)
      subst hw9
      have hP : va_P (dC, dI) vwCl [(sh, .inr (11, [.ref sb])), (sb, .inr (1, [.ref a, .int 0, .int mb, .int (nI kX)])), (a, .inl (cB, m, .inl fX))] H := hP
      have hD : va_D A [(sh, .inr (11, [.ref sb])), (sb, .inr (1, [.ref a, .int 0, .int mb, .int (nI kX)])), (a, .inl (cB, m, .inl fX))] := hD
      refine W.widen (k := 0) (n := 0) (by omega) (by omega) ?_
      have hch11 := chN_lt 9 (kd * 6 + i9)
      refine ca_r (wr := [(sh, .inr (11, [.ref sb]))]) (rn_V (n := 1) (As := [.int (nI (chN 9 (kd * 6 + i9)))]) (rest := []) hx hb hml hown ht hKK hFx hP hD hS hA (c_sx_acA l dC dI cI cB cZ cJ cR tb H.size sb a m kX fX mb (chN 9 (kd * 6 + i9)) (by first | assumption | omega | rfl | exact sb_fit0) (by first | assumption | omega | rfl | exact sb_fit0) (by first | assumption | omega | rfl | exact sb_fit0) (by first | assumption | omega | rfl | exact sb_fit0)) xw_104 xw_105 (by decide +kernel) rfl rfl ⟨Nat.le_of_ble_eq_true rfl, Nat.le_of_ble_eq_true rfl⟩ [1, 2] rfl (by decide) rfl rfl rfl rfl hl.1 rfl (Nat.le_of_ble_eq_true rfl) xdX8_addName_49 ⟨Nat.le_of_ble_eq_true rfl, Nat.le_of_ble_eq_true rfl⟩) hP hD hS hA (isC := [1, 2]) (isR := [0]) rfl rfl (by decide) (by decide) (fun u H locs hw12 hP hD hS => ?_)
      obtain ⟨z14, f15⟩ := u
      obtain ⟨g16, g17, g18⟩ := hw12
      have g16 : z14 = kX + 1 := g16
      have g17 : sb_Fit f15 := g17
      have g18 : TA fX kX f15 z14 [chB (chN 9 (kd * 6 + i9))] := g18
      have hP : va_P (dC, dI) vwCl [(sh, .inr (11, [.ref sb])), (sb, .inr (1, [.ref a, .int 0, .int mb, .int (nI z14)])), (a, .inl (cB, m, .inl f15))] H := hP
      have hD : va_D A [(sh, .inr (11, [.ref sb])), (sb, .inr (1, [.ref a, .int 0, .int mb, .int (nI z14)])), (a, .inl (cB, m, .inl f15))] := hD
      refine W.widen (k := 0) (n := 0) (by omega) (by omega) ?_
      refine lv_pop hx hb xdX8_addName_52 rfl ?_
      refine lv_iinc (v := (nI ((kd * 6 + i9) + 1))) (lv' := [(3, .int (nI ((kd * 6 + i9) + 1))), (2, .int (nI (kd * 6))), (0, .ref sh), (1, .int (nI kd))]) hx hb xdX8_addName_53 hl (k := 0) rfl (nI_add _ 1) (by decide) rfl (fun ls hl => ?_)
      refine lv_goto (tgt := 7) hx hb xdX8_addName_56 (by decide) ?_
      exact ih9 _ _ _ ⟨z14, f15, by show _ = n + (cntN kd i9 + (if chN 9 (kd * 6 + i9) = 32 then 0 else 1)); rw [if_neg hc9]; omega, by omega, by assumption, (TA.eq (TA.tr hTX g18) (by show _ = nmT kd i9 ++ (if chN 9 (kd * 6 + i9) = 32 then [] else [chB (chN 9 (kd * 6 + i9))]); rw [if_neg hc9])), hP, hD, hS, lv_sub hl [0, 1, 2, 3] rfl⟩
  · obtain ⟨kX, fX, hkX, hkX2, hfX, hTX, hP, hD, hS, hl⟩ := hq9
    refine lv_iload_n hx hb xdX8_addName_7 rfl (lv_at hl 0 rfl) ?_
    refine lv_iload_n hx hb xdX8_addName_8 rfl (lv_at hl 1 rfl) ?_
    refine lv_bipush (v := 6) hx hb xdX8_addName_9 (by decide) ?_
    refine lv_iadd hx hb xdX8_addName_11 ?_
    refine tp_i (y := (nI ((kd * 6) + 6))) (nI_add _ _) ?_
    refine lv_icmp_ge (tgt := 59) hx hb xdX8_addName_12 (by decide) (fun _ => ?_) (fun k19 => absurd (show nI ((kd * 6) + 6) ≤ nI (kd * 6 + 6) from nI_le (by omega) (by omega)) k19)
    have hP9 := hP.sub (ws' := [(sh, .inr (11, [.ref sb])), (sb, .inr (1, [.ref a, .int 0, .int mb, .int (nI kX)])), (a, .inl (cB, m, .inl fX))]) [0, 1, 2] rfl
    have hD9 := hD.sub (ws' := [(sh, .inr (11, [.ref sb])), (sb, .inr (1, [.ref a, .int 0, .int mb, .int (nI kX)])), (a, .inl (cB, m, .inl fX))]) [0, 1, 2] (by decide) rfl
    refine W.widen (k := 0) (n := 0) (by omega) (by omega) ?_
    exact W.vret hx hb hr (fun t ht9 hW => ⟨⟨(kX, fX), rfl, ⟨(by first | assumption | omega | (dsimp only; omega) | (dsimp only; assumption) | rfl), (by first | assumption | omega | (dsimp only; omega) | (dsimp only; assumption) | rfl), (by first | assumption | omega | (dsimp only; omega) | (dsimp only; assumption) | rfl), (by first | assumption | omega | (dsimp only; omega) | (dsimp only; assumption) | rfl)⟩, by rw [ht9]; exact hP9, hD9⟩, hS.F ht9⟩) hS.2.2 xdX8_addName_59
def shH (i : Nat) : Int32 := 28 - 4 * nI i
theorem shH_r : ∀ i, i < 8 → ¬ shH i < 0 ∧ shH i + (-4) = shH (i + 1) := by decide +kernel
theorem shH_8 : shH 8 < 0 := by decide +kernel
def hexT (w : Int32) : List Int32 := hxT 11 (fun i9 => (w.toUInt32 >>> ((shH i9).toUInt32 &&& Int32.toUInt32 31)).toInt32) 8
set_option maxHeartbeats 16000000 in
set_option maxRecDepth 100000 in
/-- addHex -/
theorem c_sx_hex (l : Launch) (dC : Nat → ClassId) (dI : Nat → Nat → Nat) (cI cB cZ cJ cR : ClassId) (tb : Nat → Nat) (sz : Nat) (sh : Nat) (sb : Nat) (a : Nat) (m : Nat) (n : Nat) (f : Nat → Int32) (mb : Int32) (w : Int32) (hm : m = 16 ∨ m = 34) (hf : sb_Fit f) (h1 : n + 11 ≤ m) : Met l yX8_addHex (Cond.code yX8_addHex cX8_addHex 3 none :: tw_W) ({ frames := 5, cells := 0, slots := 0, locals := 128 }) (pc_ (dC, dI) (tyS cI cB cZ cJ cR) tb [(sh, .inr (11, [.ref sb])), (sb, .inr (1, [.ref a, .int 0, .int mb, .int (nI n)])), (a, .inl (cB, m, .inl f))] sz [.ref sh, .int w]) (qv_ (dC, dI) [(sh, .inr (11, [.ref sb])), (sb, .inr (1, [.ref a, .int 0, .int mb, .int (nI n)])), (a, .inl (cB, m, .inl f))] sz (fun (u : Nat × (Nat → Int32)) => u.1 = n + 11 ∧ u.1 ≤ m ∧ sb_Fit u.2 ∧ TA f n u.2 u.1 (strT 10 ++ hexT w)) (fun (u : Nat × (Nat → Int32)) => [(sh, .inr (11, [.ref sb])), (sb, .inr (1, [.ref a, .int 0, .int mb, .int (nI u.1)])), (a, .inl (cB, m, .inl u.2))])) 0 0 (va_A [(sh, .inr (11, [.ref sb])), (sb, .inr (1, [.ref a, .int 0, .int mb, .int (nI n)])), (a, .inl (cB, m, .inl f))] sz) := by
  refine Met.ofW (cc := cX8_addHex) (maxL := 3) (ret := none) (by decide) rfl ?_
  intro p e s m9 args below meth c s₁ B hml hv
  obtain ⟨rfl, hsz, hP, hKK, hD0, hFx⟩ := hv
  have hK := hKK.1
  have hx := B.exec
  have hb := B.bytes
  have hr := B.returns
  have ht : ∀ w ∈ tw_W, w.before _ s = true := fun w h => atoms_spec (ws := Cond.code yX8_addHex cX8_addHex 3 none :: tw_W) B.pre w (List.mem_cons_of_mem _ h)
  have hown : s.vm.findClass RX8 = some m9.cls := findClass_of_methodNamed B.named
  have hlocks := B.notSynchronized
  subst hsz
  unfold qv_
  have hD := hD0.self (sz := s.heap.size)
  generalize hAe : va_A [(sh, .inr (11, [.ref sb])), (sb, .inr (1, [.ref a, .int 0, .int mb, .int (nI n)])), (a, .inl (cB, m, .inl f))] s.heap.size = A at hD hFx ⊢
  have hA : ∀ q : Nat, s.heap.size ≤ q → A q := fun q h => by rw [← hAe]; exact Or.inr h
  have hS : va_S A s.heap s.heap [] := va_S.rf
  have hP : va_P (dC, dI) vwCl [(sh, .inr (11, [.ref sb])), (sb, .inr (1, [.ref a, .int 0, .int mb, .int (nI n)])), (a, .inl (cB, m, .inl f))] s.heap := hP
  have hl := lv_entry ([.ref sh, .int w]) (n := 3) (Nat.le_of_ble_eq_true rfl)
  rw [lg_entry_eq]
  generalize (lg_sl ([.ref sh, .int w]) ++ List.replicate (3 - (lg_sl ([.ref sh, .int w])).length) Slot.unset).toArray = ls at hl ⊢
  have hl : lv_has ls 3 [(0, .ref sh), (1, .int w)] := hl
  refine lv_aload_n hx hb xdX8_addHex_0 rfl (lv_at hl 0 rfl) ?_
  refine va_get (D := (dC, dI)) (ci := 11) (v := .ref sb) (C := RX8) (T := TX8) (N := 1) hx hb ht xiX8 hown hK hP 0 rfl rfl 0 (by decide) (ht _ xw_103) (fun _ h9 => h9) rfl xdX8_addHex_1 ?_
  refine va_ldcS hx hb hown (st_ hKK 10 (own := RX8) (idx := 56) (tx := " 0x") (n := 10) rfl) xdX8_addHex_4 ?_
  have hlen10 : lenS.getD 10 0 = 3 := by decide
  refine ca_r (wr := [(sh, .inr (11, [.ref sb]))]) (rn_V (n := 1) (As := [.ref (tb (100 + 10))]) (rest := []) hx hb hml hown ht hKK hFx hP hD hS hA (c_sx_asA l dC dI cI cB cZ cJ cR tb s.heap.size sb a m n f mb 10 (by first | assumption | omega | rfl | exact sb_fit0) (by first | assumption | omega | rfl | exact sb_fit0) (by first | assumption | omega | rfl | exact sb_fit0) (by first | assumption | omega | rfl | exact sb_fit0)) xw_110 xw_111 (by decide +kernel) rfl rfl ⟨Nat.le_of_ble_eq_true rfl, Nat.le_of_ble_eq_true rfl⟩ [1, 2] rfl (by decide) rfl rfl rfl rfl hl.1 rfl (Nat.le_of_ble_eq_true rfl) xdX8_addHex_6 ⟨Nat.le_of_ble_eq_true rfl, Nat.le_of_ble_eq_true rfl⟩) hP hD hS hA (isC := [1, 2]) (isR := [0]) rfl rfl (by decide) (by decide) (fun u H locs hw1 hP hD hS => ?_)
  obtain ⟨z3, f4⟩ := u
  obtain ⟨g5, g6, g7⟩ := hw1
  have g5 : z3 = n + lenS.getD 10 0 := g5
  have g6 : sb_Fit f4 := g6
  have g7 : TA f n f4 z3 (strT 10) := g7
  have hP : va_P (dC, dI) vwCl [(sh, .inr (11, [.ref sb])), (sb, .inr (1, [.ref a, .int 0, .int mb, .int (nI z3)])), (a, .inl (cB, m, .inl f4))] H := hP
  have hD : va_D A [(sh, .inr (11, [.ref sb])), (sb, .inr (1, [.ref a, .int 0, .int mb, .int (nI z3)])), (a, .inl (cB, m, .inl f4))] := hD
  refine W.widen (k := 0) (n := 0) (by omega) (by omega) ?_
  refine lv_pop hx hb xdX8_addHex_9 rfl ?_
  refine lv_bipush (v := 28) hx hb xdX8_addHex_10 (by decide) ?_
  refine lv_istore_n (lv' := [(2, .int 28), (0, .ref sh), (1, .int w)]) hx hb xdX8_addHex_12 rfl hl (by decide) rfl (fun ls hl => ?_)
  refine lp_ (P := fun (i9 : Nat) (H : Heap) (locs : List Loc) (ls : Array Slot) => ∃ (kX : Nat) (fX : Nat → Int32), kX = n + 3 + i9 ∧ sb_Fit fX ∧ TA f n fX kX (strT 10 ++ hxT 11 (fun i9 => ((w.toUInt32 >>> ((shH i9).toUInt32 &&& Int32.toUInt32 31)).toInt32)) i9) ∧ va_P (dC, dI) vwCl [(sh, .inr (11, [.ref sb])), (sb, .inr (1, [.ref a, .int 0, .int mb, .int (nI kX)])), (a, .inl (cB, m, .inl fX))] H ∧ va_D A [(sh, .inr (11, [.ref sb])), (sb, .inr (1, [.ref a, .int 0, .int mb, .int (nI kX)])), (a, .inl (cB, m, .inl fX))] ∧ va_S A s.heap H locs ∧ lv_has ls 3 [(2, .int (shH i9)), (0, .ref sh), (1, .int w)]) 13 8 (fun i9 H locs ls hi9 hq9 ih9 => ?_) (fun H locs ls hq9 => ?_) 0 _ _ _ (by omega) ⟨z3, f4, by omega, by assumption, (TA.eq g7 (List.append_nil _).symm), hP, hD, hS, lv_sub hl [0, 1, 2] rfl⟩
  · obtain ⟨kX, fX, hkX, hfX, hTX, hP, hD, hS, hl⟩ := hq9
    refine lv_iload_n hx hb xdX8_addHex_13 rfl (lv_at hl 0 rfl) ?_
    refine lv_if_lt (tgt := 42) hx hb xdX8_addHex_14 (by decide) (fun k8 => absurd k8 (shH_r i9 hi9).1) (fun _ => ?_)
    refine lv_aload_n hx hb xdX8_addHex_17 rfl (lv_at hl 1 rfl) ?_
    refine va_get (D := (dC, dI)) (ci := 11) (v := .ref sb) (C := RX8) (T := TX8) (N := 1) hx hb ht xiX8 hown hK hP 0 rfl rfl 0 (by decide) (ht _ xw_103) (fun _ h9 => h9) rfl xdX8_addHex_18 ?_
    refine va_ldcS hx hb hown (st_ hKK 11 (own := RX8) (idx := 61) (tx := "0123456789abcdef") (n := 11) rfl) xdX8_addHex_21 ?_
    refine lv_iload_n hx hb xdX8_addHex_23 rfl (lv_at hl 2 rfl) ?_
    refine lv_iload_n hx hb xdX8_addHex_24 rfl (lv_at hl 0 rfl) ?_
    refine lv_iushr hx hb xdX8_addHex_25 rfl ?_
    refine lv_bipush (v := 15) hx hb xdX8_addHex_26 (by decide) ?_
    refine lv_iand hx hb xdX8_addHex_28 ?_
    obtain ⟨j9, hj9, ej10⟩ := pk_andE ((w.toUInt32 >>> ((shH i9).toUInt32 &&& Int32.toUInt32 31)).toInt32) (m := 15) 4 (by decide)
    refine tp_i (y := (nI j9)) (ej10) ?_
    have hlen11 : lenS.getD 11 0 = 16 := by decide
    refine ca_i (wr := [(sh, .inr (11, [.ref sb])), (sb, .inr (1, [.ref a, .int 0, .int mb, .int (nI kX)])), (a, .inl (cB, m, .inl fX))]) (rn_VS (n := 1) (As := [.int (nI j9)]) (rest := [.ref sb]) hx hb hml hown ht hKK hFx hP hD hS hA (i := 11) (by decide) (c_sx_charAt l dC dI cI cB cZ cJ cR tb H.size 11 j9 (by first | assumption | omega | rfl | exact sb_fit0) (by first | assumption | omega | rfl | exact sb_fit0) (by first | assumption | omega | rfl | exact sb_fit0)) xw_115 xw_116 (by decide +kernel) rfl rfl ⟨Nat.le_of_ble_eq_true rfl, Nat.le_of_ble_eq_true rfl⟩ [] rfl (by decide) rfl hl.1 rfl (Nat.le_of_ble_eq_true rfl) xdX8_addHex_29 ⟨Nat.le_of_ble_eq_true rfl, Nat.le_of_ble_eq_true rfl⟩) hP hD hS hA (isC := []) (isR := [0, 1, 2]) rfl rfl (by decide) (by decide) (fun r12 u H locs hw11 hP hD hS => ?_)
    subst hw11
    have hP : va_P (dC, dI) vwCl [(sh, .inr (11, [.ref sb])), (sb, .inr (1, [.ref a, .int 0, .int mb, .int (nI kX)])), (a, .inl (cB, m, .inl fX))] H := hP
    have hD : va_D A [(sh, .inr (11, [.ref sb])), (sb, .inr (1, [.ref a, .int 0, .int mb, .int (nI kX)])), (a, .inl (cB, m, .inl fX))] := hD
    refine W.widen (k := 0) (n := 0) (by omega) (by omega) ?_
    have hch13 := chN_lt 11 j9
    refine ca_r (wr := [(sh, .inr (11, [.ref sb]))]) (rn_V (n := 1) (As := [.int (nI (chN 11 j9))]) (rest := []) hx hb hml hown ht hKK hFx hP hD hS hA (c_sx_acA l dC dI cI cB cZ cJ cR tb H.size sb a m kX fX mb (chN 11 j9) (by first | assumption | omega | rfl | exact sb_fit0) (by first | assumption | omega | rfl | exact sb_fit0) (by first | assumption | omega | rfl | exact sb_fit0) (by first | assumption | omega | rfl | exact sb_fit0)) xw_104 xw_105 (by decide +kernel) rfl rfl ⟨Nat.le_of_ble_eq_true rfl, Nat.le_of_ble_eq_true rfl⟩ [1, 2] rfl (by decide) rfl rfl rfl rfl hl.1 rfl (Nat.le_of_ble_eq_true rfl) xdX8_addHex_32 ⟨Nat.le_of_ble_eq_true rfl, Nat.le_of_ble_eq_true rfl⟩) hP hD hS hA (isC := [1, 2]) (isR := [0]) rfl rfl (by decide) (by decide) (fun u H locs hw14 hP hD hS => ?_)
    obtain ⟨z16, f17⟩ := u
    obtain ⟨g18, g19, g20⟩ := hw14
    have g18 : z16 = kX + 1 := g18
    have g19 : sb_Fit f17 := g19
    have g20 : TA fX kX f17 z16 [chB (chN 11 j9)] := g20
    have hP : va_P (dC, dI) vwCl [(sh, .inr (11, [.ref sb])), (sb, .inr (1, [.ref a, .int 0, .int mb, .int (nI z16)])), (a, .inl (cB, m, .inl f17))] H := hP
    have hD : va_D A [(sh, .inr (11, [.ref sb])), (sb, .inr (1, [.ref a, .int 0, .int mb, .int (nI z16)])), (a, .inl (cB, m, .inl f17))] := hD
    refine W.widen (k := 0) (n := 0) (by omega) (by omega) ?_
    refine lv_pop hx hb xdX8_addHex_35 rfl ?_
    refine lv_iinc (v := ((shH i9) + (-4))) (lv' := [(2, .int ((shH i9) + (-4))), (0, .ref sh), (1, .int w)]) hx hb xdX8_addHex_36 hl (k := 0) rfl (rfl) (by decide) rfl (fun ls hl => ?_)
    refine lv_goto (tgt := 13) hx hb xdX8_addHex_39 (by decide) ?_
    exact ih9 _ _ _ ⟨z16, f17, by omega, by assumption, (TA.eq (TA.tr hTX g20) (by show _ = strT 10 ++ (hxT 11 (fun i9 => ((w.toUInt32 >>> ((shH i9).toUInt32 &&& Int32.toUInt32 31)).toInt32)) i9 ++ [chB (chN 11 (((((w.toUInt32 >>> ((shH i9).toUInt32 &&& Int32.toUInt32 31)).toInt32)) &&& 15).toNatClampNeg))]); rw [ej10, nI_clamp (by omega), List.append_assoc])), hP, hD, hS, by rw [← (shH_r i9 hi9).2]; exact lv_sub hl [0, 1, 2] rfl⟩
  · obtain ⟨kX, fX, hkX, hfX, hTX, hP, hD, hS, hl⟩ := hq9
    refine lv_iload_n hx hb xdX8_addHex_13 rfl (lv_at hl 0 rfl) ?_
    refine lv_if_lt (tgt := 42) hx hb xdX8_addHex_14 (by decide) (fun _ => ?_) (fun k21 => absurd shH_8 k21)
    have hP9 := hP.sub (ws' := [(sh, .inr (11, [.ref sb])), (sb, .inr (1, [.ref a, .int 0, .int mb, .int (nI kX)])), (a, .inl (cB, m, .inl fX))]) [0, 1, 2] rfl
    have hD9 := hD.sub (ws' := [(sh, .inr (11, [.ref sb])), (sb, .inr (1, [.ref a, .int 0, .int mb, .int (nI kX)])), (a, .inl (cB, m, .inl fX))]) [0, 1, 2] (by decide) rfl
    refine W.widen (k := 0) (n := 0) (by omega) (by omega) ?_
    exact W.vret hx hb hr (fun t ht9 hW => ⟨⟨(kX, fX), rfl, ⟨(by first | assumption | omega | (dsimp only; omega) | (dsimp only; assumption) | rfl), (by first | assumption | omega | (dsimp only; omega) | (dsimp only; assumption) | rfl), (by first | assumption | omega | (dsimp only; omega) | (dsimp only; assumption) | rfl), (by first | assumption | omega | (dsimp only; omega) | (dsimp only; assumption) | rfl)⟩, by rw [ht9]; exact hP9, hD9⟩, hS.F ht9⟩) hS.2.2 xdX8_addHex_42
