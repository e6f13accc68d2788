theorem xdX8_addOperands_0 : decode cX8_addOperands 0 = .ok (.iload_n 2, 1) := by decide +kernel
theorem xdX8_addOperands_1 : decode cX8_addOperands 1 = .ok (.iload_n 1, 1) := by decide +kernel
theorem xdX8_addOperands_2 : decode cX8_addOperands 2 = .ok (.invokestatic 63, 3) := by decide +kernel
theorem xw_117 : (.code yX4_number cX4_number 2 (some .int) : Cond) ∈ tw_W := tw_in (t8_6 (List.mem_of_getElem? (i := 83) rfl)) rfl
theorem xw_118 : ∀ w ∈ ([.methodLink RX8 63 yX4_number, .static yX4_number, .initialized yX4_number.cls] : List Cond), w ∈ tw_W := al_c (tw_in (t8_7 (List.mem_of_getElem? (i := 211) rfl)) rfl) (al_c (tw_in (t8_6 (List.mem_of_getElem? (i := 82) rfl)) rfl) (al_c (tw_in (t8_1 (List.mem_of_getElem? (i := 29) rfl)) rfl) al_n))
theorem xdX8_addOperands_5 : decode cX8_addOperands 5 = .ok (.istore_n 3, 1) := by decide +kernel
theorem xdX8_addOperands_6 : decode cX8_addOperands 6 = .ok (.iload_n 2, 1) := by decide +kernel
theorem xdX8_addOperands_7 : decode cX8_addOperands 7 = .ok (.invokestatic 67, 3) := by decide +kernel
theorem xw_119 : (.code yX4_target cX4_target 1 (some .int) : Cond) ∈ tw_W := tw_in (t8_6 (List.mem_of_getElem? (i := 87) rfl)) rfl
theorem xw_120 : ∀ w ∈ ([.methodLink RX8 67 yX4_target, .static yX4_target, .initialized yX4_target.cls] : List Cond), w ∈ tw_W := al_c (tw_in (t8_7 (List.mem_of_getElem? (i := 212) rfl)) rfl) (al_c (tw_in (t8_6 (List.mem_of_getElem? (i := 86) rfl)) rfl) (al_c (tw_in (t8_1 (List.mem_of_getElem? (i := 29) rfl)) rfl) al_n))
theorem xdX8_addOperands_10 : decode cX8_addOperands 10 = .ok (.istore 4, 2) := by decide +kernel
theorem xdX8_addOperands_12 : decode cX8_addOperands 12 = .ok (.iload_n 2, 1) := by decide +kernel
theorem xdX8_addOperands_13 : decode cX8_addOperands 13 = .ok (.invokestatic 70, 3) := by decide +kernel
theorem xw_121 : (.code yX4_first cX4_first 1 (some .int) : Cond) ∈ tw_W := tw_in (t8_6 (List.mem_of_getElem? (i := 73) rfl)) rfl
theorem xw_122 : ∀ w ∈ ([.methodLink RX8 70 yX4_first, .static yX4_first, .initialized yX4_first.cls] : List Cond), w ∈ tw_W := al_c (tw_in (t8_7 (List.mem_of_getElem? (i := 213) rfl)) rfl) (al_c (tw_in (t8_6 (List.mem_of_getElem? (i := 72) rfl)) rfl) (al_c (tw_in (t8_1 (List.mem_of_getElem? (i := 29) rfl)) rfl) al_n))
theorem xdX8_addOperands_16 : decode cX8_addOperands 16 = .ok (.istore 5, 2) := by decide +kernel
theorem xdX8_addOperands_18 : decode cX8_addOperands 18 = .ok (.iload_n 2, 1) := by decide +kernel
theorem xdX8_addOperands_19 : decode cX8_addOperands 19 = .ok (.invokestatic 73, 3) := by decide +kernel
theorem xw_123 : ∀ w ∈ ([.methodLink RX8 73 yX4_second, .static yX4_second, .initialized yX4_second.cls] : List Cond), w ∈ tw_W := al_c (tw_in (t8_7 (List.mem_of_getElem? (i := 214) rfl)) rfl) (al_c (tw_in (t8_6 (List.mem_of_getElem? (i := 79) rfl)) rfl) (al_c (tw_in (t8_1 (List.mem_of_getElem? (i := 29) rfl)) rfl) al_n))
theorem xdX8_addOperands_22 : decode cX8_addOperands 22 = .ok (.istore 6, 2) := by decide +kernel
theorem xdX8_addOperands_24 : decode cX8_addOperands 24 = .ok (.iload_n 1, 1) := by decide +kernel
theorem xdX8_addOperands_25 : decode cX8_addOperands 25 = .ok (.ifCond .eq 8, 3) := by decide +kernel
theorem xdX8_addOperands_33 : decode cX8_addOperands 33 = .ok (.aload_n 0, 1) := by decide +kernel
theorem xdX8_addOperands_34 : decode cX8_addOperands 34 = .ok (.iload 4, 2) := by decide +kernel
theorem xdX8_addOperands_36 : decode cX8_addOperands 36 = .ok (.iload_n 3, 1) := by decide +kernel
theorem xdX8_addOperands_37 : decode cX8_addOperands 37 = .ok (.bipush 12, 2) := by decide +kernel
theorem xdX8_addOperands_39 : decode cX8_addOperands 39 = .ok (.iushr, 1) := by decide +kernel
theorem xdX8_addOperands_40 : decode cX8_addOperands 40 = .ok (.invokevirtual 76, 3) := by decide +kernel
theorem xdX8_addOperands_43 : decode cX8_addOperands 43 = .ok (.goto 173, 3) := by decide +kernel
theorem xdX8_addOperands_216 : decode cX8_addOperands 216 = .ok (.return_, 1) := by decide +kernel
theorem xdX8_addOperands_28 : decode cX8_addOperands 28 = .ok (.iload_n 1, 1) := by decide +kernel
theorem xdX8_addOperands_29 : decode cX8_addOperands 29 = .ok (.iconst 1, 1) := by decide +kernel
theorem xdX8_addOperands_30 : decode cX8_addOperands 30 = .ok (.if_icmp .ne 16, 3) := by decide +kernel
theorem xdX8_addOperands_46 : decode cX8_addOperands 46 = .ok (.iload_n 1, 1) := by decide +kernel
theorem xdX8_addOperands_47 : decode cX8_addOperands 47 = .ok (.iconst 2, 1) := by decide +kernel
theorem xdX8_addOperands_48 : decode cX8_addOperands 48 = .ok (.if_icmp .ne 13, 3) := by decide +kernel
theorem xdX8_addOperands_61 : decode cX8_addOperands 61 = .ok (.iload_n 1, 1) := by decide +kernel
theorem xdX8_addOperands_62 : decode cX8_addOperands 62 = .ok (.iconst 3, 1) := by decide +kernel
theorem xdX8_addOperands_63 : decode cX8_addOperands 63 = .ok (.if_icmp .eq 15, 3) := by decide +kernel
theorem xdX8_addOperands_78 : decode cX8_addOperands 78 = .ok (.aload_n 0, 1) := by decide +kernel
theorem xdX8_addOperands_79 : decode cX8_addOperands 79 = .ok (.iload 4, 2) := by decide +kernel
theorem xdX8_addOperands_81 : decode cX8_addOperands 81 = .ok (.iload_n 3, 1) := by decide +kernel
theorem xdX8_addOperands_82 : decode cX8_addOperands 82 = .ok (.iload 5, 2) := by decide +kernel
theorem xdX8_addOperands_84 : decode cX8_addOperands 84 = .ok (.invokevirtual 79, 3) := by decide +kernel
theorem xw_124 : (.code yX8_addReach cX8_addReach 4 none : Cond) ∈ tw_W := tw_in (t8_7 (List.mem_of_getElem? (i := 228) rfl)) rfl
theorem xw_125 : ∀ w ∈ ([.methodLink RX8 79 yX8_addReach, .instanceMethod yX8_addReach, .selects RX8 yX8_addReach yX8_addReach, .initialized RX8] : List Cond), w ∈ tw_W := al_c (tw_in (t8_7 (List.mem_of_getElem? (i := 225) rfl)) rfl) (al_c (tw_in (t8_7 (List.mem_of_getElem? (i := 227) rfl)) rfl) (al_c (tw_in (t7_6 (q := (yX8_addReach, 1)) (List.mem_of_getElem? (i := 9) rfl)) rfl) (al_c (tw_in (t8_1 (List.mem_of_getElem? (i := 3) rfl)) rfl) al_n)))
theorem xdX8_addOperands_87 : decode cX8_addOperands 87 = .ok (.goto 129, 3) := by decide +kernel
theorem xdX8_addOperands_66 : decode cX8_addOperands 66 = .ok (.iload_n 1, 1) := by decide +kernel
theorem xdX8_addOperands_67 : decode cX8_addOperands 67 = .ok (.bipush 10, 2) := by decide +kernel
theorem xdX8_addOperands_69 : decode cX8_addOperands 69 = .ok (.if_icmp .lt 21, 3) := by decide +kernel
theorem xdX8_addOperands_90 : decode cX8_addOperands 90 = .ok (.iload_n 1, 1) := by decide +kernel
theorem xdX8_addOperands_91 : decode cX8_addOperands 91 = .ok (.bipush 15, 2) := by decide +kernel
theorem xdX8_addOperands_93 : decode cX8_addOperands 93 = .ok (.if_icmp .lt 21, 3) := by decide +kernel
theorem xdX8_addOperands_114 : decode cX8_addOperands 114 = .ok (.iload_n 1, 1) := by decide +kernel
theorem xdX8_addOperands_115 : decode cX8_addOperands 115 = .ok (.bipush 9, 2) := by decide +kernel
theorem xdX8_addOperands_117 : decode cX8_addOperands 117 = .ok (.if_icmp .gt 29, 3) := by decide +kernel
theorem xdX8_addOperands_120 : decode cX8_addOperands 120 = .ok (.aload_n 0, 1) := by decide +kernel
theorem xdX8_addOperands_121 : decode cX8_addOperands 121 = .ok (.iload 5, 2) := by decide +kernel
theorem xdX8_addOperands_123 : decode cX8_addOperands 123 = .ok (.invokevirtual 83, 3) := by decide +kernel
theorem xdX8_addOperands_126 : decode cX8_addOperands 126 = .ok (.aload_n 0, 1) := by decide +kernel
theorem xdX8_addOperands_127 : decode cX8_addOperands 127 = .ok (.getfield 12, 3) := by decide +kernel
theorem xdX8_addOperands_130 : decode cX8_addOperands 130 = .ok (.ldc 86, 2) := by decide +kernel
theorem xdX8_addOperands_132 : decode cX8_addOperands 132 = .ok (.invokevirtual 58, 3) := by decide +kernel
theorem xdX8_addOperands_135 : decode cX8_addOperands 135 = .ok (.pop, 1) := by decide +kernel
theorem xdX8_addOperands_136 : decode cX8_addOperands 136 = .ok (.aload_n 0, 1) := by decide +kernel
theorem xdX8_addOperands_137 : decode cX8_addOperands 137 = .ok (.iload 6, 2) := by decide +kernel
theorem xdX8_addOperands_139 : decode cX8_addOperands 139 = .ok (.iload_n 3, 1) := by decide +kernel
theorem xdX8_addOperands_140 : decode cX8_addOperands 140 = .ok (.invokevirtual 76, 3) := by decide +kernel
theorem xdX8_addOperands_143 : decode cX8_addOperands 143 = .ok (.goto 73, 3) := by decide +kernel
theorem xdX8_addOperands_72 : decode cX8_addOperands 72 = .ok (.iload_n 1, 1) := by decide +kernel
theorem xdX8_addOperands_73 : decode cX8_addOperands 73 = .ok (.bipush 14, 2) := by decide +kernel
theorem xdX8_addOperands_75 : decode cX8_addOperands 75 = .ok (.if_icmp .gt 15, 3) := by decide +kernel
theorem xdX8_addOperands_96 : decode cX8_addOperands 96 = .ok (.iload_n 1, 1) := by decide +kernel
theorem xdX8_addOperands_97 : decode cX8_addOperands 97 = .ok (.bipush 17, 2) := by decide +kernel
theorem xdX8_addOperands_99 : decode cX8_addOperands 99 = .ok (.if_icmp .gt 15, 3) := by decide +kernel
theorem xdX8_addOperands_146 : decode cX8_addOperands 146 = .ok (.iload_n 1, 1) := by decide +kernel
theorem xdX8_addOperands_147 : decode cX8_addOperands 147 = .ok (.bipush 26, 2) := by decide +kernel
theorem xdX8_addOperands_149 : decode cX8_addOperands 149 = .ok (.if_icmp .gt 29, 3) := by decide +kernel
theorem xdX8_addOperands_178 : decode cX8_addOperands 178 = .ok (.aload_n 0, 1) := by decide +kernel
theorem xdX8_addOperands_179 : decode cX8_addOperands 179 = .ok (.iload 4, 2) := by decide +kernel
theorem xdX8_addOperands_181 : decode cX8_addOperands 181 = .ok (.invokevirtual 83, 3) := by decide +kernel
theorem xdX8_addOperands_184 : decode cX8_addOperands 184 = .ok (.aload_n 0, 1) := by decide +kernel
theorem xdX8_addOperands_185 : decode cX8_addOperands 185 = .ok (.getfield 12, 3) := by decide +kernel
theorem xdX8_addOperands_188 : decode cX8_addOperands 188 = .ok (.ldc 86, 2) := by decide +kernel
theorem xdX8_addOperands_190 : decode cX8_addOperands 190 = .ok (.invokevirtual 58, 3) := by decide +kernel
theorem xdX8_addOperands_193 : decode cX8_addOperands 193 = .ok (.pop, 1) := by decide +kernel
theorem xdX8_addOperands_194 : decode cX8_addOperands 194 = .ok (.aload_n 0, 1) := by decide +kernel
theorem xdX8_addOperands_195 : decode cX8_addOperands 195 = .ok (.iload 5, 2) := by decide +kernel
theorem xdX8_addOperands_197 : decode cX8_addOperands 197 = .ok (.invokevirtual 83, 3) := by decide +kernel
theorem xdX8_addOperands_200 : decode cX8_addOperands 200 = .ok (.aload_n 0, 1) := by decide +kernel
theorem xdX8_addOperands_201 : decode cX8_addOperands 201 = .ok (.getfield 12, 3) := by decide +kernel
theorem xdX8_addOperands_204 : decode cX8_addOperands 204 = .ok (.ldc 86, 2) := by decide +kernel
theorem xdX8_addOperands_206 : decode cX8_addOperands 206 = .ok (.invokevirtual 58, 3) := by decide +kernel
theorem xdX8_addOperands_209 : decode cX8_addOperands 209 = .ok (.pop, 1) := by decide +kernel
theorem xdX8_addOperands_210 : decode cX8_addOperands 210 = .ok (.aload_n 0, 1) := by decide +kernel
theorem xdX8_addOperands_211 : decode cX8_addOperands 211 = .ok (.iload 6, 2) := by decide +kernel
theorem xdX8_addOperands_213 : decode cX8_addOperands 213 = .ok (.invokevirtual 83, 3) := by decide +kernel
theorem xdX8_addOperands_152 : decode cX8_addOperands 152 = .ok (.aload_n 0, 1) := by decide +kernel
theorem xdX8_addOperands_153 : decode cX8_addOperands 153 = .ok (.iload 4, 2) := by decide +kernel
theorem xdX8_addOperands_155 : decode cX8_addOperands 155 = .ok (.invokevirtual 83, 3) := by decide +kernel
theorem xdX8_addOperands_158 : decode cX8_addOperands 158 = .ok (.aload_n 0, 1) := by decide +kernel
theorem xdX8_addOperands_159 : decode cX8_addOperands 159 = .ok (.getfield 12, 3) := by decide +kernel
theorem xdX8_addOperands_162 : decode cX8_addOperands 162 = .ok (.ldc 86, 2) := by decide +kernel
theorem xdX8_addOperands_164 : decode cX8_addOperands 164 = .ok (.invokevirtual 58, 3) := by decide +kernel
theorem xdX8_addOperands_167 : decode cX8_addOperands 167 = .ok (.pop, 1) := by decide +kernel
theorem xdX8_addOperands_168 : decode cX8_addOperands 168 = .ok (.aload_n 0, 1) := by decide +kernel
theorem xdX8_addOperands_169 : decode cX8_addOperands 169 = .ok (.iload 5, 2) := by decide +kernel
theorem xdX8_addOperands_171 : decode cX8_addOperands 171 = .ok (.iload_n 3, 1) := by decide +kernel
theorem xdX8_addOperands_172 : decode cX8_addOperands 172 = .ok (.invokevirtual 76, 3) := by decide +kernel
theorem xdX8_addOperands_175 : decode cX8_addOperands 175 = .ok (.goto 41, 3) := by decide +kernel
theorem xdX8_addOperands_102 : decode cX8_addOperands 102 = .ok (.aload_n 0, 1) := by decide +kernel
theorem xdX8_addOperands_103 : decode cX8_addOperands 103 = .ok (.iload 6, 2) := by decide +kernel
theorem xdX8_addOperands_105 : decode cX8_addOperands 105 = .ok (.iload_n 3, 1) := by decide +kernel
theorem xdX8_addOperands_106 : decode cX8_addOperands 106 = .ok (.iload 5, 2) := by decide +kernel
theorem xdX8_addOperands_108 : decode cX8_addOperands 108 = .ok (.invokevirtual 79, 3) := by decide +kernel
theorem xdX8_addOperands_111 : decode cX8_addOperands 111 = .ok (.goto 105, 3) := by decide +kernel
theorem xdX8_addOperands_51 : decode cX8_addOperands 51 = .ok (.aload_n 0, 1) := by decide +kernel
theorem xdX8_addOperands_52 : decode cX8_addOperands 52 = .ok (.iload 4, 2) := by decide +kernel
theorem xdX8_addOperands_54 : decode cX8_addOperands 54 = .ok (.iload_n 3, 1) := by decide +kernel
theorem xdX8_addOperands_55 : decode cX8_addOperands 55 = .ok (.invokevirtual 76, 3) := by decide +kernel
theorem xdX8_addOperands_58 : decode cX8_addOperands 58 = .ok (.goto 158, 3) := by decide +kernel
theorem xdX8_spell_0 : decode cX8_spell 0 = .ok (.iload_n 1, 1) := by decide +kernel
theorem xdX8_spell_1 : decode cX8_spell 1 = .ok (.invokestatic 26, 3) := by decide +kernel
theorem xw_126 : (.code yX4_kindOf cX4_kindOf 2 (some .int) : Cond) ∈ tw_W := tw_in (t8_6 (List.mem_of_getElem? (i := 49) rfl)) rfl
theorem xw_127 : ∀ w ∈ ([.methodLink RX8 26 yX4_kindOf, .static yX4_kindOf, .initialized yX4_kindOf.cls] : List Cond), w ∈ tw_W := al_c (tw_in (t8_6 (List.mem_of_getElem? (i := 156) rfl)) rfl) (al_c (tw_in (t8_6 (List.mem_of_getElem? (i := 48) rfl)) rfl) (al_c (tw_in (t8_1 (List.mem_of_getElem? (i := 29) rfl)) rfl) al_n))
theorem xdX8_spell_4 : decode cX8_spell 4 = .ok (.istore_n 2, 1) := by decide +kernel
theorem xdX8_spell_5 : decode cX8_spell 5 = .ok (.aload_n 0, 1) := by decide +kernel
theorem xdX8_spell_6 : decode cX8_spell 6 = .ok (.getfield 12, 3) := by decide +kernel
theorem xdX8_spell_9 : decode cX8_spell 9 = .ok (.iconst 0, 1) := by decide +kernel
theorem xdX8_spell_10 : decode cX8_spell 10 = .ok (.invokevirtual 32, 3) := by decide +kernel
theorem xw_128 : (.code yJ4_setLength_d00df cJ4_setLength_d00df 2 none : Cond) ∈ tw_W := tw_in (t8_6 (List.mem_of_getElem? (i := 160) rfl)) rfl
theorem xw_129 : ∀ w ∈ ([.methodLink RX8 32 yJ4_setLength_d00df, .instanceMethod yJ4_setLength_d00df, .selects RJ4 yJ4_setLength_d00df yJ4_setLength_d00df, .initialized RJ4] : List Cond), w ∈ tw_W := al_c (tw_in (t8_6 (List.mem_of_getElem? (i := 157) rfl)) rfl) (al_c (tw_in (t8_6 (List.mem_of_getElem? (i := 158) rfl)) rfl) (al_c (tw_in (t8_6 (List.mem_of_getElem? (i := 159) rfl)) rfl) (al_c (tw_in (t8_1 (List.mem_of_getElem? (i := 5) rfl)) rfl) al_n)))
theorem xdX8_spell_13 : decode cX8_spell 13 = .ok (.aload_n 0, 1) := by decide +kernel
theorem xdX8_spell_14 : decode cX8_spell 14 = .ok (.iload_n 2, 1) := by decide +kernel
theorem xdX8_spell_15 : decode cX8_spell 15 = .ok (.invokevirtual 36, 3) := by decide +kernel
theorem xw_130 : (.code yX8_addName cX8_addName 4 none : Cond) ∈ tw_W := tw_in (t8_7 (List.mem_of_getElem? (i := 183) rfl)) rfl
theorem xw_131 : ∀ w ∈ ([.methodLink RX8 36 yX8_addName, .instanceMethod yX8_addName, .selects RX8 yX8_addName yX8_addName, .initialized RX8] : List Cond), w ∈ tw_W := al_c (tw_in (t8_7 (List.mem_of_getElem? (i := 180) rfl)) rfl) (al_c (tw_in (t8_7 (List.mem_of_getElem? (i := 182) rfl)) rfl) (al_c (tw_in (t7_6 (q := (yX8_addName, 1)) (List.mem_of_getElem? (i := 4) rfl)) rfl) (al_c (tw_in (t8_1 (List.mem_of_getElem? (i := 3) rfl)) rfl) al_n)))
theorem xdX8_spell_18 : decode cX8_spell 18 = .ok (.iload_n 2, 1) := by decide +kernel
theorem xdX8_spell_19 : decode cX8_spell 19 = .ok (.bipush 40, 2) := by decide +kernel
theorem xdX8_spell_21 : decode cX8_spell 21 = .ok (.if_icmp .ne 11, 3) := by decide +kernel
theorem xdX8_spell_32 : decode cX8_spell 32 = .ok (.iload_n 2, 1) := by decide +kernel
theorem xdX8_spell_33 : decode cX8_spell 33 = .ok (.bipush 37, 2) := by decide +kernel
theorem xdX8_spell_35 : decode cX8_spell 35 = .ok (.if_icmp .ge 19, 3) := by decide +kernel
theorem xdX8_spell_54 : decode cX8_spell 54 = .ok (.aload_n 0, 1) := by decide +kernel
theorem xdX8_spell_55 : decode cX8_spell 55 = .ok (.getfield 12, 3) := by decide +kernel
theorem xdX8_spell_58 : decode cX8_spell 58 = .ok (.invokevirtual 18, 3) := by decide +kernel
theorem xw_132 : (.code yJ4_length_8abf5 cJ4_length_8abf5 1 (some .int) : Cond) ∈ tw_W := tw_in (t8_7 (List.mem_of_getElem? (i := 75) rfl)) rfl
theorem xw_133 : ∀ w ∈ ([.methodLink RX8 18 yJ4_length_8abf5, .instanceMethod yJ4_length_8abf5, .selects RJ4 yJ4_length_8abf5 yJ4_length_8abf5, .initialized RJ4] : List Cond), w ∈ tw_W := al_c (tw_in (t8_7 (List.mem_of_getElem? (i := 229) rfl)) rfl) (al_c (tw_in (t8_7 (List.mem_of_getElem? (i := 74) rfl)) rfl) (al_c (tw_in (t8_13 (List.mem_of_getElem? (i := 92) rfl)) rfl) (al_c (tw_in (t8_1 (List.mem_of_getElem? (i := 5) rfl)) rfl) al_n)))
theorem xdX8_spell_61 : decode cX8_spell 61 = .ok (.ireturn, 1) := by decide +kernel
theorem xdX8_spell_38 : decode cX8_spell 38 = .ok (.aload_n 0, 1) := by decide +kernel
theorem xdX8_spell_39 : decode cX8_spell 39 = .ok (.getfield 12, 3) := by decide +kernel
theorem xdX8_spell_42 : decode cX8_spell 42 = .ok (.bipush 32, 2) := by decide +kernel
theorem xdX8_spell_44 : decode cX8_spell 44 = .ok (.invokevirtual 42, 3) := by decide +kernel
theorem xdX8_spell_47 : decode cX8_spell 47 = .ok (.pop, 1) := by decide +kernel
theorem xdX8_spell_48 : decode cX8_spell 48 = .ok (.aload_n 0, 1) := by decide +kernel
theorem xdX8_spell_49 : decode cX8_spell 49 = .ok (.iload_n 2, 1) := by decide +kernel
theorem xdX8_spell_50 : decode cX8_spell 50 = .ok (.iload_n 1, 1) := by decide +kernel
theorem xdX8_spell_51 : decode cX8_spell 51 = .ok (.invokevirtual 46, 3) := by decide +kernel
theorem xw_134 : (.code yX8_addOperands cX8_addOperands 7 none : Cond) ∈ tw_W := tw_in (t8_7 (List.mem_of_getElem? (i := 210) rfl)) rfl
theorem xw_135 : ∀ w ∈ ([.methodLink RX8 46 yX8_addOperands, .instanceMethod yX8_addOperands, .selects RX8 yX8_addOperands yX8_addOperands, .initialized RX8] : List Cond), w ∈ tw_W := al_c (tw_in (t8_7 (List.mem_of_getElem? (i := 207) rfl)) rfl) (al_c (tw_in (t8_7 (List.mem_of_getElem? (i := 209) rfl)) rfl) (al_c (tw_in (t7_6 (q := (yX8_addOperands, 1)) (List.mem_of_getElem? (i := 6) rfl)) rfl) (al_c (tw_in (t8_1 (List.mem_of_getElem? (i := 3) rfl)) rfl) al_n)))
theorem xdX8_spell_24 : decode cX8_spell 24 = .ok (.aload_n 0, 1) := by decide +kernel
theorem xdX8_spell_25 : decode cX8_spell 25 = .ok (.iload_n 1, 1) := by decide +kernel
theorem xdX8_spell_26 : decode cX8_spell 26 = .ok (.invokevirtual 39, 3) := by decide +kernel
theorem xw_136 : (.code yX8_addHex cX8_addHex 3 none : Cond) ∈ tw_W := tw_in (t8_7 (List.mem_of_getElem? (i := 203) rfl)) rfl
theorem xw_137 : ∀ w ∈ ([.methodLink RX8 39 yX8_addHex, .instanceMethod yX8_addHex, .selects RX8 yX8_addHex yX8_addHex, .initialized RX8] : List Cond), w ∈ tw_W := al_c (tw_in (t8_7 (List.mem_of_getElem? (i := 200) rfl)) rfl) (al_c (tw_in (t8_7 (List.mem_of_getElem? (i := 202) rfl)) rfl) (al_c (tw_in (t7_6 (q := (yX8_addHex, 1)) (List.mem_of_getElem? (i := 5) rfl)) rfl) (al_c (tw_in (t8_1 (List.mem_of_getElem? (i := 3) rfl)) rfl) al_n)))
theorem xdX8_spell_29 : decode cX8_spell 29 = .ok (.goto 25, 3) := by decide +kernel
theorem xdX8_byteAt_0 : decode cX8_byteAt 0 = .ok (.iload_n 1, 1) := by decide +kernel
theorem xdX8_byteAt_1 : decode cX8_byteAt 1 = .ok (.ifCond .lt 25, 3) := by decide +kernel
theorem xdX8_byteAt_26 : decode cX8_byteAt 26 = .ok (.iconst (-1), 1) := by decide +kernel
theorem xdX8_byteAt_27 : decode cX8_byteAt 27 = .ok (.ireturn, 1) := by decide +kernel
theorem xdX8_byteAt_4 : decode cX8_byteAt 4 = .ok (.iload_n 1, 1) := by decide +kernel
theorem xdX8_byteAt_5 : decode cX8_byteAt 5 = .ok (.aload_n 0, 1) := by decide +kernel
theorem xdX8_byteAt_6 : decode cX8_byteAt 6 = .ok (.getfield 12, 3) := by decide +kernel
theorem xdX8_byteAt_9 : decode cX8_byteAt 9 = .ok (.invokevirtual 18, 3) := by decide +kernel
theorem xdX8_byteAt_12 : decode cX8_byteAt 12 = .ok (.if_icmp .ge 14, 3) := by decide +kernel
theorem xdX8_byteAt_15 : decode cX8_byteAt 15 = .ok (.aload_n 0, 1) := by decide +kernel
theorem xdX8_byteAt_16 : decode cX8_byteAt 16 = .ok (.getfield 12, 3) := by decide +kernel
theorem xdX8_byteAt_19 : decode cX8_byteAt 19 = .ok (.iload_n 1, 1) := by decide +kernel
theorem xdX8_byteAt_20 : decode cX8_byteAt 20 = .ok (.invokevirtual 22, 3) := by decide +kernel
theorem xw_138 : (.code yJ4_charAt_5068e cJ4_charAt_5068e 2 (some .char) : Cond) ∈ tw_W := tw_in (t8_8 (List.mem_of_getElem? (i := 1) rfl)) rfl
theorem xw_139 : ∀ w ∈ ([.methodLink RX8 22 yJ4_charAt_5068e, .instanceMethod yJ4_charAt_5068e, .selects RJ4 yJ4_charAt_5068e yJ4_charAt_5068e, .initialized RJ4] : List Cond), w ∈ tw_W := al_c (tw_in (t8_7 (List.mem_of_getElem? (i := 238) rfl)) rfl) (al_c (tw_in (t8_7 (List.mem_of_getElem? (i := 239) rfl)) rfl) (al_c (tw_in (t8_8 (List.mem_of_getElem? (i := 0) rfl)) rfl) (al_c (tw_in (t8_1 (List.mem_of_getElem? (i := 5) rfl)) rfl) al_n)))
theorem xdX8_byteAt_23 : decode cX8_byteAt 23 = .ok (.goto 4, 3) := by decide +kernel
theorem xdX11_show_0 : decode cX11_show 0 = .ok (.aload_n 0, 1) := by decide +kernel
theorem xdX11_show_1 : decode cX11_show 1 = .ok (.getfield 27, 3) := by decide +kernel
theorem xw_140 : (.fieldLink RX11 27 "PocketCompiler" "shower" "LPocketCompiler$Shower;" : Cond) ∈ tw_W := tw_in (t8_5 (List.mem_of_getElem? (i := 160) rfl)) rfl
theorem xiX11 : ∀ w ∈ wsX110, w ∈ tw_W := tw_all (by decide +kernel)
theorem xdX11_show_4 : decode cX11_show 4 = .ok (.iload_n 1, 1) := by decide +kernel
theorem xdX11_show_5 : decode cX11_show 5 = .ok (.invokevirtual 213, 3) := by decide +kernel
theorem xw_141 : (.code yX8_spell cX8_spell 3 (some .int) : Cond) ∈ tw_W := tw_in (t8_6 (List.mem_of_getElem? (i := 155) rfl)) rfl
theorem xw_142 : ∀ w ∈ ([.methodLink RX11 213 yX8_spell, .instanceMethod yX8_spell, .selects RX8 yX8_spell yX8_spell, .initialized RX8] : List Cond), w ∈ tw_W := al_c (tw_in (t8_6 (List.mem_of_getElem? (i := 152) rfl)) rfl) (al_c (tw_in (t8_6 (List.mem_of_getElem? (i := 153) rfl)) rfl) (al_c (tw_in (t8_6 (List.mem_of_getElem? (i := 154) rfl)) rfl) (al_c (tw_in (t8_1 (List.mem_of_getElem? (i := 3) rfl)) rfl) al_n)))
theorem xdX11_show_8 : decode cX11_show 8 = .ok (.ireturn, 1) := by decide +kernel
theorem xdX11_octet_0 : decode cX11_octet 0 = .ok (.aload_n 0, 1) := by decide +kernel
theorem xdX11_octet_1 : decode cX11_octet 1 = .ok (.getfield 27, 3) := by decide +kernel
theorem xdX11_octet_4 : decode cX11_octet 4 = .ok (.iload_n 1, 1) := by decide +kernel
theorem xdX11_octet_5 : decode cX11_octet 5 = .ok (.invokevirtual 216, 3) := by decide +kernel
theorem xw_143 : (.code yX8_byteAt cX8_byteAt 2 (some .int) : Cond) ∈ tw_W := tw_in (t8_7 (List.mem_of_getElem? (i := 237) rfl)) rfl
theorem xw_144 : ∀ w ∈ ([.methodLink RX11 216 yX8_byteAt, .instanceMethod yX8_byteAt, .selects RX8 yX8_byteAt yX8_byteAt, .initialized RX8] : List Cond), w ∈ tw_W := al_c (tw_in (t8_7 (List.mem_of_getElem? (i := 234) rfl)) rfl) (al_c (tw_in (t8_7 (List.mem_of_getElem? (i := 235) rfl)) rfl) (al_c (tw_in (t8_7 (List.mem_of_getElem? (i := 236) rfl)) rfl) (al_c (tw_in (t8_1 (List.mem_of_getElem? (i := 3) rfl)) rfl) al_n)))
theorem xdX11_octet_8 : decode cX11_octet 8 = .ok (.ireturn, 1) := by decide +kernel
def opX (kd : Nat) (w : Int32) : Nat := (if (nI kd) = 0 then (1 + dl (((w.toUInt32 >>> ((7 : Int32).toUInt32 &&& Int32.toUInt32 31)).toInt32) &&& 31) + 2 + dl (((nuX kd w).toUInt32 >>> ((12 : Int32).toUInt32 &&& Int32.toUInt32 31)).toInt32)) else (if (nI kd) = 1 then (1 + dl (((w.toUInt32 >>> ((7 : Int32).toUInt32 &&& Int32.toUInt32 31)).toInt32) &&& 31) + 2 + dl (((nuX kd w).toUInt32 >>> ((12 : Int32).toUInt32 &&& Int32.toUInt32 31)).toInt32)) else (if (nI kd) = 2 then (1 + dl (((w.toUInt32 >>> ((7 : Int32).toUInt32 &&& Int32.toUInt32 31)).toInt32) &&& 31) + 2 + dl (nuX kd w)) else (if (nI kd) = 3 then ((1 + dl (((w.toUInt32 >>> ((7 : Int32).toUInt32 &&& Int32.toUInt32 31)).toInt32) &&& 31) + 2 + dl (nuX kd w)) + 1 + (1 + dl (((w.toUInt32 >>> ((15 : Int32).toUInt32 &&& Int32.toUInt32 31)).toInt32) &&& 31)) + 1) else (if (nI kd) < 10 then ((1 + dl (((w.toUInt32 >>> ((15 : Int32).toUInt32 &&& Int32.toUInt32 31)).toInt32) &&& 31)) + 2 + (1 + dl (((w.toUInt32 >>> ((20 : Int32).toUInt32 &&& Int32.toUInt32 31)).toInt32) &&& 31) + 2 + dl (nuX kd w))) else (if 14 < (nI kd) then (if 17 < (nI kd) then (if 26 < (nI kd) then ((1 + dl (((w.toUInt32 >>> ((7 : Int32).toUInt32 &&& Int32.toUInt32 31)).toInt32) &&& 31)) + 2 + (1 + dl (((w.toUInt32 >>> ((15 : Int32).toUInt32 &&& Int32.toUInt32 31)).toInt32) &&& 31)) + 2 + (1 + dl (((w.toUInt32 >>> ((20 : Int32).toUInt32 &&& Int32.toUInt32 31)).toInt32) &&& 31))) else ((1 + dl (((w.toUInt32 >>> ((7 : Int32).toUInt32 &&& Int32.toUInt32 31)).toInt32) &&& 31)) + 2 + (1 + dl (((w.toUInt32 >>> ((15 : Int32).toUInt32 &&& Int32.toUInt32 31)).toInt32) &&& 31) + 2 + dl (nuX kd w)))) else ((1 + dl (((w.toUInt32 >>> ((20 : Int32).toUInt32 &&& Int32.toUInt32 31)).toInt32) &&& 31) + 2 + dl (nuX kd w)) + 1 + (1 + dl (((w.toUInt32 >>> ((15 : Int32).toUInt32 &&& Int32.toUInt32 31)).toInt32) &&& 31)) + 1)) else ((1 + dl (((w.toUInt32 >>> ((7 : Int32).toUInt32 &&& Int32.toUInt32 31)).toInt32) &&& 31) + 2 + dl (nuX kd w)) + 1 + (1 + dl (((w.toUInt32 >>> ((15 : Int32).toUInt32 &&& Int32.toUInt32 31)).toInt32) &&& 31)) + 1)))))))
set_option maxHeartbeats 16000000 in
set_option maxRecDepth 100000 in
/-- addOperands -/
theorem c_sx_ops (l : Launch) (dC : Nat → ClassId) (dI : Nat → Nat → Nat) (cI cB cZ cJ cR : ClassId) (tb : Nat → Nat) (sz : Nat) (sh : Nat) (sb : Nat) (a : Nat) (m : Nat) (n : Nat) (f : Nat → Int32) (mb : Int32) (kd : Nat) (w : Int32) (hm : m = 16 ∨ m = 34) (hf : sb_Fit f) (h1 : kd ≤ 36) (h2 : n ≤ 7) : Met l yX8_addOperands (Cond.code yX8_addOperands cX8_addOperands 7 none :: tw_W) ({ frames := 9, cells := 8, slots := 272, locals := 195 }) (pc_ (dC, dI) (tyS cI cB cZ cJ cR) tb [(sh, .inr (11, [.ref sb])), (sb, .inr (1, [.ref a, .int 0, .int mb, .int (nI n)])), (a, .inl (cB, m, .inl f))] sz [.ref sh, .int (nI kd), .int w]) (qv_ (dC, dI) [(sh, .inr (11, [.ref sb])), (sb, .inr (1, [.ref a, .int 0, .int mb, .int (nI n)])), (a, .inl (cB, m, .inl f))] sz (fun (u : Nat × Nat × Nat × (Nat → Int32)) => u.1 = n + opX kd w ∧ (u.2.2.1 = 16 ∨ u.2.2.1 = 34) ∧ u.1 ≤ u.2.2.1 ∧ sb_Fit u.2.2.2) (fun (u : Nat × Nat × Nat × (Nat → Int32)) => [(sh, .inr (11, [.ref sb])), (sb, .inr (1, [.ref u.2.1, .int 0, .int mb, .int (nI u.1)])), (u.2.1, .inl (cB, u.2.2.1, .inl u.2.2.2))])) 8 272 (va_A [(sh, .inr (11, [.ref sb])), (sb, .inr (1, [.ref a, .int 0, .int mb, .int (nI n)])), (a, .inl (cB, m, .inl f))] sz) := by
  refine Met.ofW (cc := cX8_addOperands) (maxL := 7) (ret := none) (by decide) rfl ?_
  intro p e s m9 args below meth c s₁ B hml hv
  obtain ⟨rfl, hsz, hP, hKK, hD0, hFx⟩ := hv
  have hK := hKK.1
  have hx := B.exec
  have hb := B.bytes
  have hr := B.returns
  have ht : ∀ w ∈ tw_W, w.before _ s = true := fun w h => atoms_spec (ws := Cond.code yX8_addOperands cX8_addOperands 7 none :: tw_W) B.pre w (List.mem_cons_of_mem _ h)
  have hown : s.vm.findClass RX8 = some m9.cls := findClass_of_methodNamed B.named
  have hlocks := B.notSynchronized
  subst hsz
  unfold qv_
  have hD := hD0.self (sz := s.heap.size)
  generalize hAe : va_A [(sh, .inr (11, [.ref sb])), (sb, .inr (1, [.ref a, .int 0, .int mb, .int (nI n)])), (a, .inl (cB, m, .inl f))] s.heap.size = A at hD hFx ⊢
  have hA : ∀ q : Nat, s.heap.size ≤ q → A q := fun q h => by rw [← hAe]; exact Or.inr h
  have hS : va_S A s.heap s.heap [] := va_S.rf
  have hP : va_P (dC, dI) vwCl [(sh, .inr (11, [.ref sb])), (sb, .inr (1, [.ref a, .int 0, .int mb, .int (nI n)])), (a, .inl (cB, m, .inl f))] s.heap := hP
  have hl := lv_entry ([.ref sh, .int (nI kd), .int w]) (n := 7) (Nat.le_of_ble_eq_true rfl)
  rw [lg_entry_eq]
  generalize (lg_sl ([.ref sh, .int (nI kd), .int w]) ++ List.replicate (7 - (lg_sl ([.ref sh, .int (nI kd), .int w])).length) Slot.unset).toArray = ls at hl ⊢
  have hl : lv_has ls 7 [(0, .ref sh), (1, .int (nI kd)), (2, .int w)] := hl
  have hl12 : lenS.getD 12 0 = 2 := by decide
  refine lv_iload_n hx hb xdX8_addOperands_0 rfl (lv_at hl 2 rfl) ?_
  refine lv_iload_n hx hb xdX8_addOperands_1 rfl (lv_at hl 1 rfl) ?_
  refine ca_i (wr := [(sh, .inr (11, [.ref sb])), (sb, .inr (1, [.ref a, .int 0, .int mb, .int (nI n)])), (a, .inl (cB, m, .inl f))]) (rn_S (n := 2) (As := [.int w, .int (nI kd)]) (rest := []) hx hb hml hown ht hKK hFx hP hD hS hA (c_sx_number l dC dI cI cB cZ cJ cR tb s.heap.size w kd) xw_117 xw_118 (by decide +kernel) rfl rfl ⟨Nat.le_of_ble_eq_true rfl, Nat.le_of_ble_eq_true rfl⟩ [] rfl (by decide) rfl hl.1 rfl (Nat.le_of_ble_eq_true rfl) xdX8_addOperands_2 ⟨Nat.le_of_ble_eq_true rfl, Nat.le_of_ble_eq_true rfl⟩) hP hD hS hA (isC := []) (isR := [0, 1, 2]) rfl rfl (by decide) (by decide) (fun r2 u H locs hw1 hP hD hS => ?_)
  subst hw1
  have hP : va_P (dC, dI) vwCl [(sh, .inr (11, [.ref sb])), (sb, .inr (1, [.ref a, .int 0, .int mb, .int (nI n)])), (a, .inl (cB, m, .inl f))] H := hP
  have hD : va_D A [(sh, .inr (11, [.ref sb])), (sb, .inr (1, [.ref a, .int 0, .int mb, .int (nI n)])), (a, .inl (cB, m, .inl f))] := hD
  refine W.widen (k := 0) (n := 0) (by omega) (by omega) ?_
  refine tp_i (y := (nuX kd w)) (rfl) ?_
  refine lv_istore_n (lv' := [(3, .int (nuX kd w)), (0, .ref sh), (1, .int (nI kd)), (2, .int w)]) hx hb xdX8_addOperands_5 rfl hl (by decide) rfl (fun ls hl => ?_)
  refine lv_iload_n hx hb xdX8_addOperands_6 rfl (lv_at hl 3 rfl) ?_
  refine ca_i (wr := [(sh, .inr (11, [.ref sb])), (sb, .inr (1, [.ref a, .int 0, .int mb, .int (nI n)])), (a, .inl (cB, m, .inl f))]) (rn_S (n := 1) (As := [.int w]) (rest := []) hx hb hml hown ht hKK hFx hP hD hS hA (c_sx_target l dC dI cI cB cZ cJ cR tb H.size w) xw_119 xw_120 (by decide +kernel) rfl rfl ⟨Nat.le_of_ble_eq_true rfl, Nat.le_of_ble_eq_true rfl⟩ [] rfl (by decide) rfl hl.1 rfl (Nat.le_of_ble_eq_true rfl) xdX8_addOperands_7 ⟨Nat.le_of_ble_eq_true rfl, Nat.le_of_ble_eq_true rfl⟩) hP hD hS hA (isC := []) (isR := [0, 1, 2]) rfl rfl (by decide) (by decide) (fun r4 u H locs hw3 hP hD hS => ?_)
  subst hw3
  have hP : va_P (dC, dI) vwCl [(sh, .inr (11, [.ref sb])), (sb, .inr (1, [.ref a, .int 0, .int mb, .int (nI n)])), (a, .inl (cB, m, .inl f))] H := hP
  have hD : va_D A [(sh, .inr (11, [.ref sb])), (sb, .inr (1, [.ref a, .int 0, .int mb, .int (nI n)])), (a, .inl (cB, m, .inl f))] := hD
  refine W.widen (k := 0) (n := 0) (by omega) (by omega) ?_
  refine lv_istore (lv' := [(4, .int (((w.toUInt32 >>> ((7 : Int32).toUInt32 &&& Int32.toUInt32 31)).toInt32) &&& 31)), (3, .int (nuX kd w)), (0, .ref sh), (1, .int (nI kd)), (2, .int w)]) hx hb xdX8_addOperands_10 hl (by decide) rfl (fun ls hl => ?_)
  refine lv_iload_n hx hb xdX8_addOperands_12 rfl (lv_at hl 4 rfl) ?_
  refine ca_i (wr := [(sh, .inr (11, [.ref sb])), (sb, .inr (1, [.ref a, .int 0, .int mb, .int (nI n)])), (a, .inl (cB, m, .inl f))]) (rn_S (n := 1) (As := [.int w]) (rest := []) hx hb hml hown ht hKK hFx hP hD hS hA (c_sx_first l dC dI cI cB cZ cJ cR tb H.size w) xw_121 xw_122 (by decide +kernel) rfl rfl ⟨Nat.le_of_ble_eq_true rfl, Nat.le_of_ble_eq_true rfl⟩ [] rfl (by decide) rfl hl.1 rfl (Nat.le_of_ble_eq_true rfl) xdX8_addOperands_13 ⟨Nat.le_of_ble_eq_true rfl, Nat.le_of_ble_eq_true rfl⟩) hP hD hS hA (isC := []) (isR := [0, 1, 2]) rfl rfl (by decide) (by decide) (fun r6 u H locs hw5 hP hD hS => ?_)
  subst hw5
  have hP : va_P (dC, dI) vwCl [(sh, .inr (11, [.ref sb])), (sb, .inr (1, [.ref a, .int 0, .int mb, .int (nI n)])), (a, .inl (cB, m, .inl f))] H := hP
  have hD : va_D A [(sh, .inr (11, [.ref sb])), (sb, .inr (1, [.ref a, .int 0, .int mb, .int (nI n)])), (a, .inl (cB, m, .inl f))] := hD
  refine W.widen (k := 0) (n := 0) (by omega) (by omega) ?_
  refine lv_istore (lv' := [(5, .int (((w.toUInt32 >>> ((15 : Int32).toUInt32 &&& Int32.toUInt32 31)).toInt32) &&& 31)), (4, .int (((w.toUInt32 >>> ((7 : Int32).toUInt32 &&& Int32.toUInt32 31)).toInt32) &&& 31)), (3, .int (nuX kd w)), (0, .ref sh), (1, .int (nI kd)), (2, .int w)]) hx hb xdX8_addOperands_16 hl (by decide) rfl (fun ls hl => ?_)
  refine lv_iload_n hx hb xdX8_addOperands_18 rfl (lv_at hl 5 rfl) ?_
  refine ca_i (wr := [(sh, .inr (11, [.ref sb])), (sb, .inr (1, [.ref a, .int 0, .int mb, .int (nI n)])), (a, .inl (cB, m, .inl f))]) (rn_S (n := 1) (As := [.int w]) (rest := []) hx hb hml hown ht hKK hFx hP hD hS hA (c_sx_second l dC dI cI cB cZ cJ cR tb H.size w) xw_101 xw_123 (by decide +kernel) rfl rfl ⟨Nat.le_of_ble_eq_true rfl, Nat.le_of_ble_eq_true rfl⟩ [] rfl (by decide) rfl hl.1 rfl (Nat.le_of_ble_eq_true rfl) xdX8_addOperands_19 ⟨Nat.le_of_ble_eq_true rfl, Nat.le_of_ble_eq_true rfl⟩) hP hD hS hA (isC := []) (isR := [0, 1, 2]) rfl rfl (by decide) (by decide) (fun r8 u H locs hw7 hP hD hS => ?_)
  subst hw7
  have hP : va_P (dC, dI) vwCl [(sh, .inr (11, [.ref sb])), (sb, .inr (1, [.ref a, .int 0, .int mb, .int (nI n)])), (a, .inl (cB, m, .inl f))] H := hP
  have hD : va_D A [(sh, .inr (11, [.ref sb])), (sb, .inr (1, [.ref a, .int 0, .int mb, .int (nI n)])), (a, .inl (cB, m, .inl f))] := hD
  refine W.widen (k := 0) (n := 0) (by omega) (by omega) ?_
  refine lv_istore (lv' := [(6, .int (((w.toUInt32 >>> ((20 : Int32).toUInt32 &&& Int32.toUInt32 31)).toInt32) &&& 31)), (5, .int (((w.toUInt32 >>> ((15 : Int32).toUInt32 &&& Int32.toUInt32 31)).toInt32) &&& 31)), (4, .int (((w.toUInt32 >>> ((7 : Int32).toUInt32 &&& Int32.toUInt32 31)).toInt32) &&& 31)), (3, .int (nuX kd w)), (0, .ref sh), (1, .int (nI kd)), (2, .int w)]) hx hb xdX8_addOperands_22 hl (by decide) rfl (fun ls hl => ?_)
  refine lv_iload_n hx hb xdX8_addOperands_24 rfl (lv_at hl 5 rfl) ?_
  refine lv_if_eq (tgt := 33) hx hb xdX8_addOperands_25 (by decide) (fun h9 => ?_) (fun h9 => ?_)
  · refine lv_aload_n hx hb xdX8_addOperands_33 rfl (lv_at hl 4 rfl) ?_
    refine lv_iload hx hb xdX8_addOperands_34 (lv_at hl 2 rfl) ?_
    refine lv_iload_n hx hb xdX8_addOperands_36 rfl (lv_at hl 3 rfl) ?_
    refine lv_bipush (v := 12) hx hb xdX8_addOperands_37 (by decide) ?_
    refine lv_iushr hx hb xdX8_addOperands_39 rfl ?_
    have hd10 := dl_31 ((w.toUInt32 >>> ((7 : Int32).toUInt32 &&& Int32.toUInt32 31)).toInt32)
    have hd11 := dl_le (((w.toUInt32 >>> ((7 : Int32).toUInt32 &&& Int32.toUInt32 31)).toInt32) &&& 31)
    have hd12 := dl_le (((nuX kd w).toUInt32 >>> ((12 : Int32).toUInt32 &&& Int32.toUInt32 31)).toInt32)
    refine ca_v (wr := []) (rn_V (n := 2) (As := [.int (((w.toUInt32 >>> ((7 : Int32).toUInt32 &&& Int32.toUInt32 31)).toInt32) &&& 31), .int (((nuX kd w).toUInt32 >>> ((12 : Int32).toUInt32 &&& Int32.toUInt32 31)).toInt32)]) (rest := []) hx hb hml hown ht hKK hFx hP hD hS hA (c_sx_pair l dC dI cI cB cZ cJ cR tb H.size sh sb a m n f mb (((w.toUInt32 >>> ((7 : Int32).toUInt32 &&& Int32.toUInt32 31)).toInt32) &&& 31) (((nuX kd w).toUInt32 >>> ((12 : Int32).toUInt32 &&& Int32.toUInt32 31)).toInt32) (by first | assumption | omega | rfl | exact sb_fit0) (by first | assumption | omega | rfl | exact sb_fit0) (by first | assumption | omega | rfl | exact sb_fit0)) xw_112 xw_113 (by decide +kernel) rfl rfl ⟨Nat.le_of_ble_eq_true rfl, Nat.le_of_ble_eq_true rfl⟩ [0, 1, 2] rfl (by decide) rfl rfl rfl rfl hl.1 rfl (Nat.le_of_ble_eq_true rfl) xdX8_addOperands_40 ⟨Nat.le_of_ble_eq_true rfl, Nat.le_of_ble_eq_true rfl⟩) hP hD hS hA (isC := [0, 1, 2]) (isR := []) rfl rfl (by decide) (by decide) (fun u H locs hw13 hP hD hS => ?_)
    obtain ⟨z15, z16, z17, f18⟩ := u
    obtain ⟨g19, g20, g21, g22⟩ := hw13
    have g19 : z15 = n + (1 + dl (((w.toUInt32 >>> ((7 : Int32).toUInt32 &&& Int32.toUInt32 31)).toInt32) &&& 31) + 2 + dl (((nuX kd w).toUInt32 >>> ((12 : Int32).toUInt32 &&& Int32.toUInt32 31)).toInt32)) := g19
    have g20 : z17 = 16 ∨ z17 = 34 := g20
    have g21 : z15 ≤ z17 := g21
    have g22 : sb_Fit f18 := g22
    have hP : va_P (dC, dI) vwCl [(sh, .inr (11, [.ref sb])), (sb, .inr (1, [.ref z16, .int 0, .int mb, .int (nI z15)])), (z16, .inl (cB, z17, .inl f18))] H := hP
    have hD : va_D A [(sh, .inr (11, [.ref sb])), (sb, .inr (1, [.ref z16, .int 0, .int mb, .int (nI z15)])), (z16, .inl (cB, z17, .inl f18))] := hD
    refine W.widen (k := 4) (n := 136) (by omega) (by omega) ?_
    refine lv_goto (tgt := 216) hx hb xdX8_addOperands_43 (by decide) ?_
    have hP9 := hP.sub (ws' := [(sh, .inr (11, [.ref sb])), (sb, .inr (1, [.ref z16, .int 0, .int mb, .int (nI z15)])), (z16, .inl (cB, z17, .inl f18))]) [0, 1, 2] rfl
    have hD9 := hD.sub (ws' := [(sh, .inr (11, [.ref sb])), (sb, .inr (1, [.ref z16, .int 0, .int mb, .int (nI z15)])), (z16, .inl (cB, z17, .inl f18))]) [0, 1, 2] (by decide) rfl
    refine W.widen (k := 8) (n := 272) (by omega) (by omega) ?_
    exact W.vret hx hb hr (fun t ht9 hW => ⟨⟨(z15, z16, z17, f18), rfl, ⟨(by dsimp only; unfold opX; rw [if_pos h9]; omega), (by first | assumption | omega | (dsimp only; omega) | (dsimp only; assumption) | rfl), (by first | assumption | omega | (dsimp only; omega) | (dsimp only; assumption) | rfl), (by first | assumption | omega | (dsimp only; omega) | (dsimp only; assumption) | rfl)⟩, by rw [ht9]; exact hP9, hD9⟩, hS.F ht9⟩) hS.2.2 xdX8_addOperands_216
  · refine lv_iload_n hx hb xdX8_addOperands_28 rfl (lv_at hl 5 rfl) ?_
    refine lv_iconst (v := 1) hx hb xdX8_addOperands_29 (by decide) ?_
    refine lv_icmp_ne (tgt := 46) hx hb xdX8_addOperands_30 (by decide) (fun h23 => ?_) (fun h23 => ?_)
    · refine lv_iload_n hx hb xdX8_addOperands_46 rfl (lv_at hl 5 rfl) ?_
      refine lv_iconst (v := 2) hx hb xdX8_addOperands_47 (by decide) ?_
      refine lv_icmp_ne (tgt := 61) hx hb xdX8_addOperands_48 (by decide) (fun h24 => ?_) (fun h24 => ?_)
      · refine lv_iload_n hx hb xdX8_addOperands_61 rfl (lv_at hl 5 rfl) ?_
        refine lv_iconst (v := 3) hx hb xdX8_addOperands_62 (by decide) ?_
        refine lv_icmp_eq (tgt := 78) hx hb xdX8_addOperands_63 (by decide) (fun h25 => ?_) (fun h25 => ?_)
        · refine lv_aload_n hx hb xdX8_addOperands_78 rfl (lv_at hl 4 rfl) ?_
          refine lv_iload hx hb xdX8_addOperands_79 (lv_at hl 2 rfl) ?_
          refine lv_iload_n hx hb xdX8_addOperands_81 rfl (lv_at hl 3 rfl) ?_
          refine lv_iload hx hb xdX8_addOperands_82 (lv_at hl 1 rfl) ?_
          have hd26 := dl_31 ((w.toUInt32 >>> ((7 : Int32).toUInt32 &&& Int32.toUInt32 31)).toInt32)
          have hd27 := dl_le (((w.toUInt32 >>> ((7 : Int32).toUInt32 &&& Int32.toUInt32 31)).toInt32) &&& 31)
          have hd28 := dl_le (nuX kd w)
          have hd29 := dl_31 ((w.toUInt32 >>> ((15 : Int32).toUInt32 &&& Int32.toUInt32 31)).toInt32)
          have hd30 := dl_le (((w.toUInt32 >>> ((15 : Int32).toUInt32 &&& Int32.toUInt32 31)).toInt32) &&& 31)
          refine ca_v (wr := []) (rn_V (n := 3) (As := [.int (((w.toUInt32 >>> ((7 : Int32).toUInt32 &&& Int32.toUInt32 31)).toInt32) &&& 31), .int (nuX kd w), .int (((w.toUInt32 >>> ((15 : Int32).toUInt32 &&& Int32.toUInt32 31)).toInt32) &&& 31)]) (rest := []) hx hb hml hown ht hKK hFx hP hD hS hA (c_sx_reach l dC dI cI cB cZ cJ cR tb H.size sh sb a m n f mb (((w.toUInt32 >>> ((7 : Int32).toUInt32 &&& Int32.toUInt32 31)).toInt32) &&& 31) (nuX kd w) (((w.toUInt32 >>> ((15 : Int32).toUInt32 &&& Int32.toUInt32 31)).toInt32) &&& 31) (by first | assumption | omega | rfl | exact sb_fit0) (by first | assumption | omega | rfl | exact sb_fit0) (by first | assumption | omega | rfl | exact sb_fit0)) xw_124 xw_125 (by decide +kernel) rfl rfl ⟨Nat.le_of_ble_eq_true rfl, Nat.le_of_ble_eq_true rfl⟩ [0, 1, 2] rfl (by decide) rfl rfl rfl rfl hl.1 rfl (Nat.le_of_ble_eq_true rfl) xdX8_addOperands_84 ⟨Nat.le_of_ble_eq_true rfl, Nat.le_of_ble_eq_true rfl⟩) hP hD hS hA (isC := [0, 1, 2]) (isR := []) rfl rfl (by decide) (by decide) (fun u H locs hw31 hP hD hS => ?_)
          obtain ⟨z33, z34, z35, f36⟩ := u
          obtain ⟨g37, g38, g39, g40⟩ := hw31
          have g37 : z33 = n + ((1 + dl (((w.toUInt32 >>> ((7 : Int32).toUInt32 &&& Int32.toUInt32 31)).toInt32) &&& 31) + 2 + dl (nuX kd w)) + 1 + (1 + dl (((w.toUInt32 >>> ((15 : Int32).toUInt32 &&& Int32.toUInt32 31)).toInt32) &&& 31)) + 1) := g37
          have g38 : z35 = 16 ∨ z35 = 34 := g38
          have g39 : z33 ≤ z35 := g39
          have g40 : sb_Fit f36 := g40
          have hP : va_P (dC, dI) vwCl [(sh, .inr (11, [.ref sb])), (sb, .inr (1, [.ref z34, .int 0, .int mb, .int (nI z33)])), (z34, .inl (cB, z35, .inl f36))] H := hP
          have hD : va_D A [(sh, .inr (11, [.ref sb])), (sb, .inr (1, [.ref z34, .int 0, .int mb, .int (nI z33)])), (z34, .inl (cB, z35, .inl f36))] := hD
          refine W.widen (k := 8) (n := 272) (by omega) (by omega) ?_
          refine lv_goto (tgt := 216) hx hb xdX8_addOperands_87 (by decide) ?_
          have hP9 := hP.sub (ws' := [(sh, .inr (11, [.ref sb])), (sb, .inr (1, [.ref z34, .int 0, .int mb, .int (nI z33)])), (z34, .inl (cB, z35, .inl f36))]) [0, 1, 2] rfl
          have hD9 := hD.sub (ws' := [(sh, .inr (11, [.ref sb])), (sb, .inr (1, [.ref z34, .int 0, .int mb, .int (nI z33)])), (z34, .inl (cB, z35, .inl f36))]) [0, 1, 2] (by decide) rfl
          refine W.widen (k := 8) (n := 272) (by omega) (by omega) ?_
          exact W.vret hx hb hr (fun t ht9 hW => ⟨⟨(z33, z34, z35, f36), rfl, ⟨(by dsimp only; unfold opX; rw [if_neg h9, if_neg h23, if_neg h24, if_pos h25]; omega), (by first | assumption | omega | (dsimp only; omega) | (dsimp only; assumption) | rfl), (by first | assumption | omega | (dsimp only; omega) | (dsimp only; assumption) | rfl), (by first | assumption | omega | (dsimp only; omega) | (dsimp only; assumption) | rfl)⟩, by rw [ht9]; exact hP9, hD9⟩, hS.F ht9⟩) hS.2.2 xdX8_addOperands_216
        · refine lv_iload_n hx hb xdX8_addOperands_66 rfl (lv_at hl 5 rfl) ?_
          refine lv_bipush (v := 10) hx hb xdX8_addOperands_67 (by decide) ?_
          refine lv_icmp_lt (tgt := 90) hx hb xdX8_addOperands_69 (by decide) (fun h41 => ?_) (fun h41 => ?_)
          · refine lv_iload_n hx hb xdX8_addOperands_90 rfl (lv_at hl 5 rfl) ?_
            refine lv_bipush (v := 15) hx hb xdX8_addOperands_91 (by decide) ?_
            refine lv_icmp_lt (tgt := 114) hx hb xdX8_addOperands_93 (by decide) (fun _ => ?_) (fun k42 => False.elim (by rw [← Int32.toInt_inj] at h9; rw [← Int32.toInt_inj] at h23; rw [← Int32.toInt_inj] at h24; rw [← Int32.toInt_inj] at h25; rw [Int32.lt_iff_toInt_lt] at h41; rw [Int32.lt_iff_toInt_lt] at k42; have : (0 : Int32).toInt = 0 := (by decide); have : (1 : Int32).toInt = 1 := (by decide); have : (2 : Int32).toInt = 2 := (by decide); have : (3 : Int32).toInt = 3 := (by decide); have : (10 : Int32).toInt = 10 := (by decide); have : (15 : Int32).toInt = 15 := (by decide); omega))
            refine lv_iload_n hx hb xdX8_addOperands_114 rfl (lv_at hl 5 rfl) ?_
            refine lv_bipush (v := 9) hx hb xdX8_addOperands_115 (by decide) ?_
            refine lv_icmp_gt (tgt := 146) hx hb xdX8_addOperands_117 (by decide) (fun k43 => False.elim (by rw [← Int32.toInt_inj] at h9; rw [← Int32.toInt_inj] at h23; rw [← Int32.toInt_inj] at h24; rw [← Int32.toInt_inj] at h25; rw [Int32.lt_iff_toInt_lt] at h41; rw [Int32.lt_iff_toInt_lt] at k43; have : (0 : Int32).toInt = 0 := (by decide); have : (1 : Int32).toInt = 1 := (by decide); have : (2 : Int32).toInt = 2 := (by decide); have : (3 : Int32).toInt = 3 := (by decide); have : (9 : Int32).toInt = 9 := (by decide); have : (10 : Int32).toInt = 10 := (by decide); omega)) (fun _ => ?_)
            refine lv_aload_n hx hb xdX8_addOperands_120 rfl (lv_at hl 4 rfl) ?_
            refine lv_iload hx hb xdX8_addOperands_121 (lv_at hl 1 rfl) ?_
            have hd44 := dl_31 ((w.toUInt32 >>> ((15 : Int32).toUInt32 &&& Int32.toUInt32 31)).toInt32)
            have hd45 := dl_le (((w.toUInt32 >>> ((15 : Int32).toUInt32 &&& Int32.toUInt32 31)).toInt32) &&& 31)
            refine ca_v (wr := []) (rn_V (n := 1) (As := [.int (((w.toUInt32 >>> ((15 : Int32).toUInt32 &&& Int32.toUInt32 31)).toInt32) &&& 31)]) (rest := []) hx hb hml hown ht hKK hFx hP hD hS hA (c_sx_reg l dC dI cI cB cZ cJ cR tb H.size sh sb a m n f mb (((w.toUInt32 >>> ((15 : Int32).toUInt32 &&& Int32.toUInt32 31)).toInt32) &&& 31) (by first | assumption | omega | rfl | exact sb_fit0) (by first | assumption | omega | rfl | exact sb_fit0) (by first | assumption | omega | rfl | exact sb_fit0)) xw_108 xw_109 (by decide +kernel) rfl rfl ⟨Nat.le_of_ble_eq_true rfl, Nat.le_of_ble_eq_true rfl⟩ [0, 1, 2] rfl (by decide) rfl rfl rfl rfl hl.1 rfl (Nat.le_of_ble_eq_true rfl) xdX8_addOperands_123 ⟨Nat.le_of_ble_eq_true rfl, Nat.le_of_ble_eq_true rfl⟩) hP hD hS hA (isC := [0, 1, 2]) (isR := []) rfl rfl (by decide) (by decide) (fun u H locs hw46 hP hD hS => ?_)
            obtain ⟨z48, z49, z50, f51⟩ := u
            obtain ⟨g52, g53, g54, g55⟩ := hw46
            have g52 : z48 = n + 1 + dl (((w.toUInt32 >>> ((15 : Int32).toUInt32 &&& Int32.toUInt32 31)).toInt32) &&& 31) := g52
            have g53 : z50 = 16 ∨ z50 = 34 := g53
            have g54 : z48 ≤ z50 := g54
            have g55 : sb_Fit f51 := g55
            have hP : va_P (dC, dI) vwCl [(sh, .inr (11, [.ref sb])), (sb, .inr (1, [.ref z49, .int 0, .int mb, .int (nI z48)])), (z49, .inl (cB, z50, .inl f51))] H := hP
            have hD : va_D A [(sh, .inr (11, [.ref sb])), (sb, .inr (1, [.ref z49, .int 0, .int mb, .int (nI z48)])), (z49, .inl (cB, z50, .inl f51))] := hD
            refine W.widen (k := 2) (n := 68) (by omega) (by omega) ?_
            refine lv_aload_n hx hb xdX8_addOperands_126 rfl (lv_at hl 4 rfl) ?_
            refine va_get (D := (dC, dI)) (ci := 11) (v := .ref sb) (C := RX8) (T := TX8) (N := 1) hx hb ht xiX8 hown hK hP 0 rfl rfl 0 (by decide) (ht _ xw_103) (fun _ h9 => h9) rfl xdX8_addOperands_127 ?_
            refine va_ldcS hx hb hown (st_ hKK 12 (own := RX8) (idx := 86) (tx := ", ") (n := 12) rfl) xdX8_addOperands_130 ?_
            have hlen12 : lenS.getD 12 0 = 2 := by decide
            refine ca_r (wr := [(sh, .inr (11, [.ref sb]))]) (rn_V (n := 1) (As := [.ref (tb (100 + 12))]) (rest := []) hx hb hml hown ht hKK hFx hP hD hS hA (c_sx_asB l dC dI cI cB cZ cJ cR tb H.size sb z49 z50 z48 f51 mb 12 (by first | assumption | omega | rfl | exact sb_fit0) (by first | assumption | omega | rfl | exact sb_fit0) (by first | assumption | omega | rfl | exact sb_fit0) (by first | assumption | omega | rfl | exact sb_fit0)) xw_110 xw_111 (by decide +kernel) rfl rfl ⟨Nat.le_of_ble_eq_true rfl, Nat.le_of_ble_eq_true rfl⟩ [1, 2] rfl (by decide) rfl rfl rfl rfl hl.1 rfl (Nat.le_of_ble_eq_true rfl) xdX8_addOperands_132 ⟨Nat.le_of_ble_eq_true rfl, Nat.le_of_ble_eq_true rfl⟩) hP hD hS hA (isC := [1, 2]) (isR := [0]) rfl rfl (by decide) (by decide) (fun u H locs hw56 hP hD hS => ?_)
            obtain ⟨z58, z59, z60, f61⟩ := u
            obtain ⟨g62, g63, g64, g65⟩ := hw56
            have g62 : z58 = z48 + lenS.getD 12 0 := g62
            have g63 : z60 = 16 ∨ z60 = 34 := g63
            have g64 : z58 ≤ z60 := g64
            have g65 : sb_Fit f61 := g65
            have hP : va_P (dC, dI) vwCl [(sh, .inr (11, [.ref sb])), (sb, .inr (1, [.ref z59, .int 0, .int mb, .int (nI z58)])), (z59, .inl (cB, z60, .inl f61))] H := hP
            have hD : va_D A [(sh, .inr (11, [.ref sb])), (sb, .inr (1, [.ref z59, .int 0, .int mb, .int (nI z58)])), (z59, .inl (cB, z60, .inl f61))] := hD
            refine W.widen (k := 3) (n := 102) (by omega) (by omega) ?_
            refine lv_pop hx hb xdX8_addOperands_135 rfl ?_
            refine lv_aload_n hx hb xdX8_addOperands_136 rfl (lv_at hl 4 rfl) ?_
            refine lv_iload hx hb xdX8_addOperands_137 (lv_at hl 0 rfl) ?_
            refine lv_iload_n hx hb xdX8_addOperands_139 rfl (lv_at hl 3 rfl) ?_
            have hd66 := dl_31 ((w.toUInt32 >>> ((20 : Int32).toUInt32 &&& Int32.toUInt32 31)).toInt32)
            have hd67 := dl_le (((w.toUInt32 >>> ((20 : Int32).toUInt32 &&& Int32.toUInt32 31)).toInt32) &&& 31)
            have hd68 := dl_le (nuX kd w)
            refine ca_v (wr := []) (rn_V (n := 2) (As := [.int (((w.toUInt32 >>> ((20 : Int32).toUInt32 &&& Int32.toUInt32 31)).toInt32) &&& 31), .int (nuX kd w)]) (rest := []) hx hb hml hown ht hKK hFx hP hD hS hA (c_sx_pair l dC dI cI cB cZ cJ cR tb H.size sh sb z59 z60 z58 f61 mb (((w.toUInt32 >>> ((20 : Int32).toUInt32 &&& Int32.toUInt32 31)).toInt32) &&& 31) (nuX kd w) (by first | assumption | omega | rfl | exact sb_fit0) (by first | assumption | omega | rfl | exact sb_fit0) (by first | assumption | omega | rfl | exact sb_fit0)) xw_112 xw_113 (by decide +kernel) rfl rfl ⟨Nat.le_of_ble_eq_true rfl, Nat.le_of_ble_eq_true rfl⟩ [0, 1, 2] rfl (by decide) rfl rfl rfl rfl hl.1 rfl (Nat.le_of_ble_eq_true rfl) xdX8_addOperands_140 ⟨Nat.le_of_ble_eq_true rfl, Nat.le_of_ble_eq_true rfl⟩) hP hD hS hA (isC := [0, 1, 2]) (isR := []) rfl rfl (by decide) (by decide) (fun u H locs hw69 hP hD hS => ?_)
            obtain ⟨z71, z72, z73, f74⟩ := u
            obtain ⟨g75, g76, g77, g78⟩ := hw69
            have g75 : z71 = z58 + (1 + dl (((w.toUInt32 >>> ((20 : Int32).toUInt32 &&& Int32.toUInt32 31)).toInt32) &&& 31) + 2 + dl (nuX kd w)) := g75
            have g76 : z73 = 16 ∨ z73 = 34 := g76
            have g77 : z71 ≤ z73 := g77
            have g78 : sb_Fit f74 := g78
            have hP : va_P (dC, dI) vwCl [(sh, .inr (11, [.ref sb])), (sb, .inr (1, [.ref z72, .int 0, .int mb, .int (nI z71)])), (z72, .inl (cB, z73, .inl f74))] H := hP
            have hD : va_D A [(sh, .inr (11, [.ref sb])), (sb, .inr (1, [.ref z72, .int 0, .int mb, .int (nI z71)])), (z72, .inl (cB, z73, .inl f74))] := hD
            refine W.widen (k := 7) (n := 238) (by omega) (by omega) ?_
            refine lv_goto (tgt := 216) hx hb xdX8_addOperands_143 (by decide) ?_
            have hP9 := hP.sub (ws' := [(sh, .inr (11, [.ref sb])), (sb, .inr (1, [.ref z72, .int 0, .int mb, .int (nI z71)])), (z72, .inl (cB, z73, .inl f74))]) [0, 1, 2] rfl
            have hD9 := hD.sub (ws' := [(sh, .inr (11, [.ref sb])), (sb, .inr (1, [.ref z72, .int 0, .int mb, .int (nI z71)])), (z72, .inl (cB, z73, .inl f74))]) [0, 1, 2] (by decide) rfl
            refine W.widen (k := 8) (n := 272) (by omega) (by omega) ?_
            exact W.vret hx hb hr (fun t ht9 hW => ⟨⟨(z71, z72, z73, f74), rfl, ⟨(by dsimp only; unfold opX; rw [if_neg h9, if_neg h23, if_neg h24, if_neg h25, if_pos h41]; omega), (by first | assumption | omega | (dsimp only; omega) | (dsimp only; assumption) | rfl), (by first | assumption | omega | (dsimp only; omega) | (dsimp only; assumption) | rfl), (by first | assumption | omega | (dsimp only; omega) | (dsimp only; assumption) | rfl)⟩, by rw [ht9]; exact hP9, hD9⟩, hS.F ht9⟩) hS.2.2 xdX8_addOperands_216
          · refine lv_iload_n hx hb xdX8_addOperands_72 rfl (lv_at hl 5 rfl) ?_
            refine lv_bipush (v := 14) hx hb xdX8_addOperands_73 (by decide) ?_
            refine lv_icmp_gt (tgt := 90) hx hb xdX8_addOperands_75 (by decide) (fun h79 => ?_) (fun h79 => ?_)
            · refine lv_iload_n hx hb xdX8_addOperands_90 rfl (lv_at hl 5 rfl) ?_
              refine lv_bipush (v := 15) hx hb xdX8_addOperands_91 (by decide) ?_
              refine lv_icmp_lt (tgt := 114) hx hb xdX8_addOperands_93 (by decide) (fun k80 => False.elim (by rw [← Int32.toInt_inj] at h9; rw [← Int32.toInt_inj] at h23; rw [← Int32.toInt_inj] at h24; rw [← Int32.toInt_inj] at h25; rw [Int32.lt_iff_toInt_lt] at h41; rw [Int32.lt_iff_toInt_lt] at h79; rw [Int32.lt_iff_toInt_lt] at k80; have : (0 : Int32).toInt = 0 := (by decide); have : (1 : Int32).toInt = 1 := (by decide); have : (2 : Int32).toInt = 2 := (by decide); have : (3 : Int32).toInt = 3 := (by decide); have : (10 : Int32).toInt = 10 := (by decide); have : (14 : Int32).toInt = 14 := (by decide); have : (15 : Int32).toInt = 15 := (by decide); omega)) (fun _ => ?_)
              refine lv_iload_n hx hb xdX8_addOperands_96 rfl (lv_at hl 5 rfl) ?_
              refine lv_bipush (v := 17) hx hb xdX8_addOperands_97 (by decide) ?_
              refine lv_icmp_gt (tgt := 114) hx hb xdX8_addOperands_99 (by decide) (fun h81 => ?_) (fun h81 => ?_)
              · refine lv_iload_n hx hb xdX8_addOperands_114 rfl (lv_at hl 5 rfl) ?_
                refine lv_bipush (v := 9) hx hb xdX8_addOperands_115 (by decide) ?_
                refine lv_icmp_gt (tgt := 146) hx hb xdX8_addOperands_117 (by decide) (fun _ => ?_) (fun k82 => False.elim (by rw [← Int32.toInt_inj] at h9; rw [← Int32.toInt_inj] at h23; rw [← Int32.toInt_inj] at h24; rw [← Int32.toInt_inj] at h25; rw [Int32.lt_iff_toInt_lt] at h41; rw [Int32.lt_iff_toInt_lt] at h79; rw [Int32.lt_iff_toInt_lt] at h81; rw [Int32.lt_iff_toInt_lt] at k82; have : (0 : Int32).toInt = 0 := (by decide); have : (1 : Int32).toInt = 1 := (by decide); have : (2 : Int32).toInt = 2 := (by decide); have : (3 : Int32).toInt = 3 := (by decide); have : (9 : Int32).toInt = 9 := (by decide); have : (10 : Int32).toInt = 10 := (by decide); have : (14 : Int32).toInt = 14 := (by decide); have : (17 : Int32).toInt = 17 := (by decide); omega))
                refine lv_iload_n hx hb xdX8_addOperands_146 rfl (lv_at hl 5 rfl) ?_
                refine lv_bipush (v := 26) hx hb xdX8_addOperands_147 (by decide) ?_
                refine lv_icmp_gt (tgt := 178) hx hb xdX8_addOperands_149 (by decide) (fun h83 => ?_) (fun h83 => ?_)
                · refine lv_aload_n hx hb xdX8_addOperands_178 rfl (lv_at hl 4 rfl) ?_
                  refine lv_iload hx hb xdX8_addOperands_179 (lv_at hl 2 rfl) ?_
                  have hd84 := dl_31 ((w.toUInt32 >>> ((7 : Int32).toUInt32 &&& Int32.toUInt32 31)).toInt32)
                  have hd85 := dl_le (((w.toUInt32 >>> ((7 : Int32).toUInt32 &&& Int32.toUInt32 31)).toInt32) &&& 31)
                  refine ca_v (wr := []) (rn_V (n := 1) (As := [.int (((w.toUInt32 >>> ((7 : Int32).toUInt32 &&& Int32.toUInt32 31)).toInt32) &&& 31)]) (rest := []) hx hb hml hown ht hKK hFx hP hD hS hA (c_sx_reg l dC dI cI cB cZ cJ cR tb H.size sh sb a m n f mb (((w.toUInt32 >>> ((7 : Int32).toUInt32 &&& Int32.toUInt32 31)).toInt32) &&& 31) (by first | assumption | omega | rfl | exact sb_fit0) (by first | assumption | omega | rfl | exact sb_fit0) (by first | assumption | omega | rfl | exact sb_fit0)) xw_108 xw_109 (by decide +kernel) rfl rfl ⟨Nat.le_of_ble_eq_true rfl, Nat.le_of_ble_eq_true rfl⟩ [0, 1, 2] rfl (by decide) rfl rfl rfl rfl hl.1 rfl (Nat.le_of_ble_eq_true rfl) xdX8_addOperands_181 ⟨Nat.le_of_ble_eq_true rfl, Nat.le_of_ble_eq_true rfl⟩) hP hD hS hA (isC := [0, 1, 2]) (isR := []) rfl rfl (by decide) (by decide) (fun u H locs hw86 hP hD hS => ?_)
                  obtain ⟨z88, z89, z90, f91⟩ := u
                  obtain ⟨g92, g93, g94, g95⟩ := hw86
                  have g92 : z88 = n + 1 + dl (((w.toUInt32 >>> ((7 : Int32).toUInt32 &&& Int32.toUInt32 31)).toInt32) &&& 31) := g92
                  have g93 : z90 = 16 ∨ z90 = 34 := g93
                  have g94 : z88 ≤ z90 := g94
                  have g95 : sb_Fit f91 := g95
                  have hP : va_P (dC, dI) vwCl [(sh, .inr (11, [.ref sb])), (sb, .inr (1, [.ref z89, .int 0, .int mb, .int (nI z88)])), (z89, .inl (cB, z90, .inl f91))] H := hP
                  have hD : va_D A [(sh, .inr (11, [.ref sb])), (sb, .inr (1, [.ref z89, .int 0, .int mb, .int (nI z88)])), (z89, .inl (cB, z90, .inl f91))] := hD
                  refine W.widen (k := 2) (n := 68) (by omega) (by omega) ?_
                  refine lv_aload_n hx hb xdX8_addOperands_184 rfl (lv_at hl 4 rfl) ?_
                  refine va_get (D := (dC, dI)) (ci := 11) (v := .ref sb) (C := RX8) (T := TX8) (N := 1) hx hb ht xiX8 hown hK hP 0 rfl rfl 0 (by decide) (ht _ xw_103) (fun _ h9 => h9) rfl xdX8_addOperands_185 ?_
                  refine va_ldcS hx hb hown (st_ hKK 12 (own := RX8) (idx := 86) (tx := ", ") (n := 12) rfl) xdX8_addOperands_188 ?_
                  have hlen12 : lenS.getD 12 0 = 2 := by decide
                  refine ca_r (wr := [(sh, .inr (11, [.ref sb]))]) (rn_V (n := 1) (As := [.ref (tb (100 + 12))]) (rest := []) hx hb hml hown ht hKK hFx hP hD hS hA (c_sx_asB l dC dI cI cB cZ cJ cR tb H.size sb z89 z90 z88 f91 mb 12 (by first | assumption | omega | rfl | exact sb_fit0) (by first | assumption | omega | rfl | exact sb_fit0) (by first | assumption | omega | rfl | exact sb_fit0) (by first | assumption | omega | rfl | exact sb_fit0)) xw_110 xw_111 (by decide +kernel) rfl rfl ⟨Nat.le_of_ble_eq_true rfl, Nat.le_of_ble_eq_true rfl⟩ [1, 2] rfl (by decide) rfl rfl rfl rfl hl.1 rfl (Nat.le_of_ble_eq_true rfl) xdX8_addOperands_190 ⟨Nat.le_of_ble_eq_true rfl, Nat.le_of_ble_eq_true rfl⟩) hP hD hS hA (isC := [1, 2]) (isR := [0]) rfl rfl (by decide) (by decide) (fun u H locs hw96 hP hD hS => ?_)
                  obtain ⟨z98, z99, z100, f101⟩ := u
                  obtain ⟨g102, g103, g104, g105⟩ := hw96
                  have g102 : z98 = z88 + lenS.getD 12 0 := g102
                  have g103 : z100 = 16 ∨ z100 = 34 := g103
                  have g104 : z98 ≤ z100 := g104
                  have g105 : sb_Fit f101 := g105
                  have hP : va_P (dC, dI) vwCl [(sh, .inr (11, [.ref sb])), (sb, .inr (1, [.ref z99, .int 0, .int mb, .int (nI z98)])), (z99, .inl (cB, z100, .inl f101))] H := hP
                  have hD : va_D A [(sh, .inr (11, [.ref sb])), (sb, .inr (1, [.ref z99, .int 0, .int mb, .int (nI z98)])), (z99, .inl (cB, z100, .inl f101))] := hD
                  refine W.widen (k := 3) (n := 102) (by omega) (by omega) ?_
                  refine lv_pop hx hb xdX8_addOperands_193 rfl ?_
                  refine lv_aload_n hx hb xdX8_addOperands_194 rfl (lv_at hl 4 rfl) ?_
                  refine lv_iload hx hb xdX8_addOperands_195 (lv_at hl 1 rfl) ?_
                  have hd106 := dl_31 ((w.toUInt32 >>> ((15 : Int32).toUInt32 &&& Int32.toUInt32 31)).toInt32)
                  have hd107 := dl_le (((w.toUInt32 >>> ((15 : Int32).toUInt32 &&& Int32.toUInt32 31)).toInt32) &&& 31)
                  refine ca_v (wr := []) (rn_V (n := 1) (As := [.int (((w.toUInt32 >>> ((15 : Int32).toUInt32 &&& Int32.toUInt32 31)).toInt32) &&& 31)]) (rest := []) hx hb hml hown ht hKK hFx hP hD hS hA (c_sx_reg l dC dI cI cB cZ cJ cR tb H.size sh sb z99 z100 z98 f101 mb (((w.toUInt32 >>> ((15 : Int32).toUInt32 &&& Int32.toUInt32 31)).toInt32) &&& 31) (by first | assumption | omega | rfl | exact sb_fit0) (by first | assumption | omega | rfl | exact sb_fit0) (by first | assumption | omega | rfl | exact sb_fit0)) xw_108 xw_109 (by decide +kernel) rfl rfl ⟨Nat.le_of_ble_eq_true rfl, Nat.le_of_ble_eq_true rfl⟩ [0, 1, 2] rfl (by decide) rfl rfl rfl rfl hl.1 rfl (Nat.le_of_ble_eq_true rfl) xdX8_addOperands_197 ⟨Nat.le_of_ble_eq_true rfl, Nat.le_of_ble_eq_true rfl⟩) hP hD hS hA (isC := [0, 1, 2]) (isR := []) rfl rfl (by decide) (by decide) (fun u H locs hw108 hP hD hS => ?_)
                  obtain ⟨z110, z111, z112, f113⟩ := u
                  obtain ⟨g114, g115, g116, g117⟩ := hw108
                  have g114 : z110 = z98 + 1 + dl (((w.toUInt32 >>> ((15 : Int32).toUInt32 &&& Int32.toUInt32 31)).toInt32) &&& 31) := g114
                  have g115 : z112 = 16 ∨ z112 = 34 := g115
                  have g116 : z110 ≤ z112 := g116
                  have g117 : sb_Fit f113 := g117
                  have hP : va_P (dC, dI) vwCl [(sh, .inr (11, [.ref sb])), (sb, .inr (1, [.ref z111, .int 0, .int mb, .int (nI z110)])), (z111, .inl (cB, z112, .inl f113))] H := hP
                  have hD : va_D A [(sh, .inr (11, [.ref sb])), (sb, .inr (1, [.ref z111, .int 0, .int mb, .int (nI z110)])), (z111, .inl (cB, z112, .inl f113))] := hD
                  refine W.widen (k := 5) (n := 170) (by omega) (by omega) ?_
                  refine lv_aload_n hx hb xdX8_addOperands_200 rfl (lv_at hl 4 rfl) ?_
                  refine va_get (D := (dC, dI)) (ci := 11) (v := .ref sb) (C := RX8) (T := TX8) (N := 1) hx hb ht xiX8 hown hK hP 0 rfl rfl 0 (by decide) (ht _ xw_103) (fun _ h9 => h9) rfl xdX8_addOperands_201 ?_
                  refine va_ldcS hx hb hown (st_ hKK 12 (own := RX8) (idx := 86) (tx := ", ") (n := 12) rfl) xdX8_addOperands_204 ?_
                  have hlen12 : lenS.getD 12 0 = 2 := by decide
                  refine ca_r (wr := [(sh, .inr (11, [.ref sb]))]) (rn_V (n := 1) (As := [.ref (tb (100 + 12))]) (rest := []) hx hb hml hown ht hKK hFx hP hD hS hA (c_sx_asB l dC dI cI cB cZ cJ cR tb H.size sb z111 z112 z110 f113 mb 12 (by first | assumption | omega | rfl | exact sb_fit0) (by first | assumption | omega | rfl | exact sb_fit0) (by first | assumption | omega | rfl | exact sb_fit0) (by first | assumption | omega | rfl | exact sb_fit0)) xw_110 xw_111 (by decide +kernel) rfl rfl ⟨Nat.le_of_ble_eq_true rfl, Nat.le_of_ble_eq_true rfl⟩ [1, 2] rfl (by decide) rfl rfl rfl rfl hl.1 rfl (Nat.le_of_ble_eq_true rfl) xdX8_addOperands_206 ⟨Nat.le_of_ble_eq_true rfl, Nat.le_of_ble_eq_true rfl⟩) hP hD hS hA (isC := [1, 2]) (isR := [0]) rfl rfl (by decide) (by decide) (fun u H locs hw118 hP hD hS => ?_)
                  obtain ⟨z120, z121, z122, f123⟩ := u
                  obtain ⟨g124, g125, g126, g127⟩ := hw118
                  have g124 : z120 = z110 + lenS.getD 12 0 := g124
                  have g125 : z122 = 16 ∨ z122 = 34 := g125
                  have g126 : z120 ≤ z122 := g126
                  have g127 : sb_Fit f123 := g127
                  have hP : va_P (dC, dI) vwCl [(sh, .inr (11, [.ref sb])), (sb, .inr (1, [.ref z121, .int 0, .int mb, .int (nI z120)])), (z121, .inl (cB, z122, .inl f123))] H := hP
                  have hD : va_D A [(sh, .inr (11, [.ref sb])), (sb, .inr (1, [.ref z121, .int 0, .int mb, .int (nI z120)])), (z121, .inl (cB, z122, .inl f123))] := hD
                  refine W.widen (k := 6) (n := 204) (by omega) (by omega) ?_
                  refine lv_pop hx hb xdX8_addOperands_209 rfl ?_
                  refine lv_aload_n hx hb xdX8_addOperands_210 rfl (lv_at hl 4 rfl) ?_
                  refine lv_iload hx hb xdX8_addOperands_211 (lv_at hl 0 rfl) ?_
                  have hd128 := dl_31 ((w.toUInt32 >>> ((20 : Int32).toUInt32 &&& Int32.toUInt32 31)).toInt32)
                  have hd129 := dl_le (((w.toUInt32 >>> ((20 : Int32).toUInt32 &&& Int32.toUInt32 31)).toInt32) &&& 31)
                  refine ca_v (wr := []) (rn_V (n := 1) (As := [.int (((w.toUInt32 >>> ((20 : Int32).toUInt32 &&& Int32.toUInt32 31)).toInt32) &&& 31)]) (rest := []) hx hb hml hown ht hKK hFx hP hD hS hA (c_sx_reg l dC dI cI cB cZ cJ cR tb H.size sh sb z121 z122 z120 f123 mb (((w.toUInt32 >>> ((20 : Int32).toUInt32 &&& Int32.toUInt32 31)).toInt32) &&& 31) (by first | assumption | omega | rfl | exact sb_fit0) (by first | assumption | omega | rfl | exact sb_fit0) (by first | assumption | omega | rfl | exact sb_fit0)) xw_108 xw_109 (by decide +kernel) rfl rfl ⟨Nat.le_of_ble_eq_true rfl, Nat.le_of_ble_eq_true rfl⟩ [0, 1, 2] rfl (by decide) rfl rfl rfl rfl hl.1 rfl (Nat.le_of_ble_eq_true rfl) xdX8_addOperands_213 ⟨Nat.le_of_ble_eq_true rfl, Nat.le_of_ble_eq_true rfl⟩) hP hD hS hA (isC := [0, 1, 2]) (isR := []) rfl rfl (by decide) (by decide) (fun u H locs hw130 hP hD hS => ?_)
                  obtain ⟨z132, z133, z134, f135⟩ := u
                  obtain ⟨g136, g137, g138, g139⟩ := hw130
                  have g136 : z132 = z120 + 1 + dl (((w.toUInt32 >>> ((20 : Int32).toUInt32 &&& Int32.toUInt32 31)).toInt32) &&& 31) := g136
                  have g137 : z134 = 16 ∨ z134 = 34 := g137
                  have g138 : z132 ≤ z134 := g138
                  have g139 : sb_Fit f135 := g139
                  have hP : va_P (dC, dI) vwCl [(sh, .inr (11, [.ref sb])), (sb, .inr (1, [.ref z133, .int 0, .int mb, .int (nI z132)])), (z133, .inl (cB, z134, .inl f135))] H := hP
                  have hD : va_D A [(sh, .inr (11, [.ref sb])), (sb, .inr (1, [.ref z133, .int 0, .int mb, .int (nI z132)])), (z133, .inl (cB, z134, .inl f135))] := hD
                  refine W.widen (k := 8) (n := 272) (by omega) (by omega) ?_
                  have hP9 := hP.sub (ws' := [(sh, .inr (11, [.ref sb])), (sb, .inr (1, [.ref z133, .int 0, .int mb, .int (nI z132)])), (z133, .inl (cB, z134, .inl f135))]) [0, 1, 2] rfl
                  have hD9 := hD.sub (ws' := [(sh, .inr (11, [.ref sb])), (sb, .inr (1, [.ref z133, .int 0, .int mb, .int (nI z132)])), (z133, .inl (cB, z134, .inl f135))]) [0, 1, 2] (by decide) rfl
                  refine W.widen (k := 8) (n := 272) (by omega) (by omega) ?_
                  exact W.vret hx hb hr (fun t ht9 hW => ⟨⟨(z132, z133, z134, f135), rfl, ⟨(by dsimp only; unfold opX; rw [if_neg h9, if_neg h23, if_neg h24, if_neg h25, if_neg h41, if_pos h79, if_pos h81, if_pos h83]; omega), (by first | assumption | omega | (dsimp only; omega) | (dsimp only; assumption) | rfl), (by first | assumption | omega | (dsimp only; omega) | (dsimp only; assumption) | rfl), (by first | assumption | omega | (dsimp only; omega) | (dsimp only; assumption) | rfl)⟩, by rw [ht9]; exact hP9, hD9⟩, hS.F ht9⟩) hS.2.2 xdX8_addOperands_216
                · refine lv_aload_n hx hb xdX8_addOperands_152 rfl (lv_at hl 4 rfl) ?_
                  refine lv_iload hx hb xdX8_addOperands_153 (lv_at hl 2 rfl) ?_
                  have hd140 := dl_31 ((w.toUInt32 >>> ((7 : Int32).toUInt32 &&& Int32.toUInt32 31)).toInt32)
                  have hd141 := dl_le (((w.toUInt32 >>> ((7 : Int32).toUInt32 &&& Int32.toUInt32 31)).toInt32) &&& 31)
                  refine ca_v (wr := []) (rn_V (n := 1) (As := [.int (((w.toUInt32 >>> ((7 : Int32).toUInt32 &&& Int32.toUInt32 31)).toInt32) &&& 31)]) (rest := []) hx hb hml hown ht hKK hFx hP hD hS hA (c_sx_reg l dC dI cI cB cZ cJ cR tb H.size sh sb a m n f mb (((w.toUInt32 >>> ((7 : Int32).toUInt32 &&& Int32.toUInt32 31)).toInt32) &&& 31) (by first | assumption | omega | rfl | exact sb_fit0) (by first | assumption | omega | rfl | exact sb_fit0) (by first | assumption | omega | rfl | exact sb_fit0)) xw_108 xw_109 (by decide +kernel) rfl rfl ⟨Nat.le_of_ble_eq_true rfl, Nat.le_of_ble_eq_true rfl⟩ [0, 1, 2] rfl (by decide) rfl rfl rfl rfl hl.1 rfl (Nat.le_of_ble_eq_true rfl) xdX8_addOperands_155 ⟨Nat.le_of_ble_eq_true rfl, Nat.le_of_ble_eq_true rfl⟩) hP hD hS hA (isC := [0, 1, 2]) (isR := []) rfl rfl (by decide) (by decide) (fun u H locs hw142 hP hD hS => ?_)
                  obtain ⟨z144, z145, z146, f147⟩ := u
                  obtain ⟨g148, g149, g150, g151⟩ := hw142
                  have g148 : z144 = n + 1 + dl (((w.toUInt32 >>> ((7 : Int32).toUInt32 &&& Int32.toUInt32 31)).toInt32) &&& 31) := g148
                  have g149 : z146 = 16 ∨ z146 = 34 := g149
                  have g150 : z144 ≤ z146 := g150
                  have g151 : sb_Fit f147 := g151
                  have hP : va_P (dC, dI) vwCl [(sh, .inr (11, [.ref sb])), (sb, .inr (1, [.ref z145, .int 0, .int mb, .int (nI z144)])), (z145, .inl (cB, z146, .inl f147))] H := hP
                  have hD : va_D A [(sh, .inr (11, [.ref sb])), (sb, .inr (1, [.ref z145, .int 0, .int mb, .int (nI z144)])), (z145, .inl (cB, z146, .inl f147))] := hD
                  refine W.widen (k := 2) (n := 68) (by omega) (by omega) ?_
                  refine lv_aload_n hx hb xdX8_addOperands_158 rfl (lv_at hl 4 rfl) ?_
                  refine va_get (D := (dC, dI)) (ci := 11) (v := .ref sb) (C := RX8) (T := TX8) (N := 1) hx hb ht xiX8 hown hK hP 0 rfl rfl 0 (by decide) (ht _ xw_103) (fun _ h9 => h9) rfl xdX8_addOperands_159 ?_
                  refine va_ldcS hx hb hown (st_ hKK 12 (own := RX8) (idx := 86) (tx := ", ") (n := 12) rfl) xdX8_addOperands_162 ?_
                  have hlen12 : lenS.getD 12 0 = 2 := by decide
                  refine ca_r (wr := [(sh, .inr (11, [.ref sb]))]) (rn_V (n := 1) (As := [.ref (tb (100 + 12))]) (rest := []) hx hb hml hown ht hKK hFx hP hD hS hA (c_sx_asB l dC dI cI cB cZ cJ cR tb H.size sb z145 z146 z144 f147 mb 12 (by first | assumption | omega | rfl | exact sb_fit0) (by first | assumption | omega | rfl | exact sb_fit0) (by first | assumption | omega | rfl | exact sb_fit0) (by first | assumption | omega | rfl | exact sb_fit0)) xw_110 xw_111 (by decide +kernel) rfl rfl ⟨Nat.le_of_ble_eq_true rfl, Nat.le_of_ble_eq_true rfl⟩ [1, 2] rfl (by decide) rfl rfl rfl rfl hl.1 rfl (Nat.le_of_ble_eq_true rfl) xdX8_addOperands_164 ⟨Nat.le_of_ble_eq_true rfl, Nat.le_of_ble_eq_true rfl⟩) hP hD hS hA (isC := [1, 2]) (isR := [0]) rfl rfl (by decide) (by decide) (fun u H locs hw152 hP hD hS => ?_)
                  obtain ⟨z154, z155, z156, f157⟩ := u
                  obtain ⟨g158, g159, g160, g161⟩ := hw152
                  have g158 : z154 = z144 + lenS.getD 12 0 := g158
                  have g159 : z156 = 16 ∨ z156 = 34 := g159
                  have g160 : z154 ≤ z156 := g160
                  have g161 : sb_Fit f157 := g161
                  have hP : va_P (dC, dI) vwCl [(sh, .inr (11, [.ref sb])), (sb, .inr (1, [.ref z155, .int 0, .int mb, .int (nI z154)])), (z155, .inl (cB, z156, .inl f157))] H := hP
                  have hD : va_D A [(sh, .inr (11, [.ref sb])), (sb, .inr (1, [.ref z155, .int 0, .int mb, .int (nI z154)])), (z155, .inl (cB, z156, .inl f157))] := hD
                  refine W.widen (k := 3) (n := 102) (by omega) (by omega) ?_
                  refine lv_pop hx hb xdX8_addOperands_167 rfl ?_
                  refine lv_aload_n hx hb xdX8_addOperands_168 rfl (lv_at hl 4 rfl) ?_
                  refine lv_iload hx hb xdX8_addOperands_169 (lv_at hl 1 rfl) ?_
                  refine lv_iload_n hx hb xdX8_addOperands_171 rfl (lv_at hl 3 rfl) ?_
                  have hd162 := dl_31 ((w.toUInt32 >>> ((15 : Int32).toUInt32 &&& Int32.toUInt32 31)).toInt32)
                  have hd163 := dl_le (((w.toUInt32 >>> ((15 : Int32).toUInt32 &&& Int32.toUInt32 31)).toInt32) &&& 31)
                  have hd164 := dl_le (nuX kd w)
                  refine ca_v (wr := []) (rn_V (n := 2) (As := [.int (((w.toUInt32 >>> ((15 : Int32).toUInt32 &&& Int32.toUInt32 31)).toInt32) &&& 31), .int (nuX kd w)]) (rest := []) hx hb hml hown ht hKK hFx hP hD hS hA (c_sx_pair l dC dI cI cB cZ cJ cR tb H.size sh sb z155 z156 z154 f157 mb (((w.toUInt32 >>> ((15 : Int32).toUInt32 &&& Int32.toUInt32 31)).toInt32) &&& 31) (nuX kd w) (by first | assumption | omega | rfl | exact sb_fit0) (by first | assumption | omega | rfl | exact sb_fit0) (by first | assumption | omega | rfl | exact sb_fit0)) xw_112 xw_113 (by decide +kernel) rfl rfl ⟨Nat.le_of_ble_eq_true rfl, Nat.le_of_ble_eq_true rfl⟩ [0, 1, 2] rfl (by decide) rfl rfl rfl rfl hl.1 rfl (Nat.le_of_ble_eq_true rfl) xdX8_addOperands_172 ⟨Nat.le_of_ble_eq_true rfl, Nat.le_of_ble_eq_true rfl⟩) hP hD hS hA (isC := [0, 1, 2]) (isR := []) rfl rfl (by decide) (by decide) (fun u H locs hw165 hP hD hS => ?_)
                  obtain ⟨z167, z168, z169, f170⟩ := u
                  obtain ⟨g171, g172, g173, g174⟩ := hw165
                  have g171 : z167 = z154 + (1 + dl (((w.toUInt32 >>> ((15 : Int32).toUInt32 &&& Int32.toUInt32 31)).toInt32) &&& 31) + 2 + dl (nuX kd w)) := g171
                  have g172 : z169 = 16 ∨ z169 = 34 := g172
                  have g173 : z167 ≤ z169 := g173
                  have g174 : sb_Fit f170 := g174
                  have hP : va_P (dC, dI) vwCl [(sh, .inr (11, [.ref sb])), (sb, .inr (1, [.ref z168, .int 0, .int mb, .int (nI z167)])), (z168, .inl (cB, z169, .inl f170))] H := hP
                  have hD : va_D A [(sh, .inr (11, [.ref sb])), (sb, .inr (1, [.ref z168, .int 0, .int mb, .int (nI z167)])), (z168, .inl (cB, z169, .inl f170))] := hD
                  refine W.widen (k := 7) (n := 238) (by omega) (by omega) ?_
                  refine lv_goto (tgt := 216) hx hb xdX8_addOperands_175 (by decide) ?_
                  have hP9 := hP.sub (ws' := [(sh, .inr (11, [.ref sb])), (sb, .inr (1, [.ref z168, .int 0, .int mb, .int (nI z167)])), (z168, .inl (cB, z169, .inl f170))]) [0, 1, 2] rfl
                  have hD9 := hD.sub (ws' := [(sh, .inr (11, [.ref sb])), (sb, .inr (1, [.ref z168, .int 0, .int mb, .int (nI z167)])), (z168, .inl (cB, z169, .inl f170))]) [0, 1, 2] (by decide) rfl
                  refine W.widen (k := 8) (n := 272) (by omega) (by omega) ?_
                  exact W.vret hx hb hr (fun t ht9 hW => ⟨⟨(z167, z168, z169, f170), rfl, ⟨(by dsimp only; unfold opX; rw [if_neg h9, if_neg h23, if_neg h24, if_neg h25, if_neg h41, if_pos h79, if_pos h81, if_neg h83]; omega), (by first | assumption | omega | (dsimp only; omega) | (dsimp only; assumption) | rfl), (by first | assumption | omega | (dsimp only; omega) | (dsimp only; assumption) | rfl), (by first | assumption | omega | (dsimp only; omega) | (dsimp only; assumption) | rfl)⟩, by rw [ht9]; exact hP9, hD9⟩, hS.F ht9⟩) hS.2.2 xdX8_addOperands_216
              · refine lv_aload_n hx hb xdX8_addOperands_102 rfl (lv_at hl 4 rfl) ?_
                refine lv_iload hx hb xdX8_addOperands_103 (lv_at hl 0 rfl) ?_
                refine lv_iload_n hx hb xdX8_addOperands_105 rfl (lv_at hl 3 rfl) ?_
                refine lv_iload hx hb xdX8_addOperands_106 (lv_at hl 1 rfl) ?_
                have hd175 := dl_31 ((w.toUInt32 >>> ((20 : Int32).toUInt32 &&& Int32.toUInt32 31)).toInt32)
                have hd176 := dl_le (((w.toUInt32 >>> ((20 : Int32).toUInt32 &&& Int32.toUInt32 31)).toInt32) &&& 31)
                have hd177 := dl_le (nuX kd w)
                have hd178 := dl_31 ((w.toUInt32 >>> ((15 : Int32).toUInt32 &&& Int32.toUInt32 31)).toInt32)
                have hd179 := dl_le (((w.toUInt32 >>> ((15 : Int32).toUInt32 &&& Int32.toUInt32 31)).toInt32) &&& 31)
                refine ca_v (wr := []) (rn_V (n := 3) (As := [.int (((w.toUInt32 >>> ((20 : Int32).toUInt32 &&& Int32.toUInt32 31)).toInt32) &&& 31), .int (nuX kd w), .int (((w.toUInt32 >>> ((15 : Int32).toUInt32 &&& Int32.toUInt32 31)).toInt32) &&& 31)]) (rest := []) hx hb hml hown ht hKK hFx hP hD hS hA (c_sx_reach l dC dI cI cB cZ cJ cR tb H.size sh sb a m n f mb (((w.toUInt32 >>> ((20 : Int32).toUInt32 &&& Int32.toUInt32 31)).toInt32) &&& 31) (nuX kd w) (((w.toUInt32 >>> ((15 : Int32).toUInt32 &&& Int32.toUInt32 31)).toInt32) &&& 31) (by first | assumption | omega | rfl | exact sb_fit0) (by first | assumption | omega | rfl | exact sb_fit0) (by first | assumption | omega | rfl | exact sb_fit0)) xw_124 xw_125 (by decide +kernel) rfl rfl ⟨Nat.le_of_ble_eq_true rfl, Nat.le_of_ble_eq_true rfl⟩ [0, 1, 2] rfl (by decide) rfl rfl rfl rfl hl.1 rfl (Nat.le_of_ble_eq_true rfl) xdX8_addOperands_108 ⟨Nat.le_of_ble_eq_true rfl, Nat.le_of_ble_eq_true rfl⟩) hP hD hS hA (isC := [0, 1, 2]) (isR := []) rfl rfl (by decide) (by decide) (fun u H locs hw180 hP hD hS => ?_)
                obtain ⟨z182, z183, z184, f185⟩ := u
                obtain ⟨g186, g187, g188, g189⟩ := hw180
                have g186 : z182 = n + ((1 + dl (((w.toUInt32 >>> ((20 : Int32).toUInt32 &&& Int32.toUInt32 31)).toInt32) &&& 31) + 2 + dl (nuX kd w)) + 1 + (1 + dl (((w.toUInt32 >>> ((15 : Int32).toUInt32 &&& Int32.toUInt32 31)).toInt32) &&& 31)) + 1) := g186
                have g187 : z184 = 16 ∨ z184 = 34 := g187
                have g188 : z182 ≤ z184 := g188
                have g189 : sb_Fit f185 := g189
                have hP : va_P (dC, dI) vwCl [(sh, .inr (11, [.ref sb])), (sb, .inr (1, [.ref z183, .int 0, .int mb, .int (nI z182)])), (z183, .inl (cB, z184, .inl f185))] H := hP
                have hD : va_D A [(sh, .inr (11, [.ref sb])), (sb, .inr (1, [.ref z183, .int 0, .int mb, .int (nI z182)])), (z183, .inl (cB, z184, .inl f185))] := hD
                refine W.widen (k := 8) (n := 272) (by omega) (by omega) ?_
                refine lv_goto (tgt := 216) hx hb xdX8_addOperands_111 (by decide) ?_
                have hP9 := hP.sub (ws' := [(sh, .inr (11, [.ref sb])), (sb, .inr (1, [.ref z183, .int 0, .int mb, .int (nI z182)])), (z183, .inl (cB, z184, .inl f185))]) [0, 1, 2] rfl
                have hD9 := hD.sub (ws' := [(sh, .inr (11, [.ref sb])), (sb, .inr (1, [.ref z183, .int 0, .int mb, .int (nI z182)])), (z183, .inl (cB, z184, .inl f185))]) [0, 1, 2] (by decide) rfl
                refine W.widen (k := 8) (n := 272) (by omega) (by omega) ?_
                exact W.vret hx hb hr (fun t ht9 hW => ⟨⟨(z182, z183, z184, f185), rfl, ⟨(by dsimp only; unfold opX; rw [if_neg h9, if_neg h23, if_neg h24, if_neg h25, if_neg h41, if_pos h79, if_neg h81]; omega), (by first | assumption | omega | (dsimp only; omega) | (dsimp only; assumption) | rfl), (by first | assumption | omega | (dsimp only; omega) | (dsimp only; assumption) | rfl), (by first | assumption | omega | (dsimp only; omega) | (dsimp only; assumption) | rfl)⟩, by rw [ht9]; exact hP9, hD9⟩, hS.F ht9⟩) hS.2.2 xdX8_addOperands_216
            · refine lv_aload_n hx hb xdX8_addOperands_78 rfl (lv_at hl 4 rfl) ?_
              refine lv_iload hx hb xdX8_addOperands_79 (lv_at hl 2 rfl) ?_
              refine lv_iload_n hx hb xdX8_addOperands_81 rfl (lv_at hl 3 rfl) ?_
              refine lv_iload hx hb xdX8_addOperands_82 (lv_at hl 1 rfl) ?_
              have hd190 := dl_31 ((w.toUInt32 >>> ((7 : Int32).toUInt32 &&& Int32.toUInt32 31)).toInt32)
              have hd191 := dl_le (((w.toUInt32 >>> ((7 : Int32).toUInt32 &&& Int32.toUInt32 31)).toInt32) &&& 31)
              have hd192 := dl_le (nuX kd w)
              have hd193 := dl_31 ((w.toUInt32 >>> ((15 : Int32).toUInt32 &&& Int32.toUInt32 31)).toInt32)
              have hd194 := dl_le (((w.toUInt32 >>> ((15 : Int32).toUInt32 &&& Int32.toUInt32 31)).toInt32) &&& 31)
              refine ca_v (wr := []) (rn_V (n := 3) (As := [.int (((w.toUInt32 >>> ((7 : Int32).toUInt32 &&& Int32.toUInt32 31)).toInt32) &&& 31), .int (nuX kd w), .int (((w.toUInt32 >>> ((15 : Int32).toUInt32 &&& Int32.toUInt32 31)).toInt32) &&& 31)]) (rest := []) hx hb hml hown ht hKK hFx hP hD hS hA (c_sx_reach l dC dI cI cB cZ cJ cR tb H.size sh sb a m n f mb (((w.toUInt32 >>> ((7 : Int32).toUInt32 &&& Int32.toUInt32 31)).toInt32) &&& 31) (nuX kd w) (((w.toUInt32 >>> ((15 : Int32).toUInt32 &&& Int32.toUInt32 31)).toInt32) &&& 31) (by first | assumption | omega | rfl | exact sb_fit0) (by first | assumption | omega | rfl | exact sb_fit0) (by first | assumption | omega | rfl | exact sb_fit0)) xw_124 xw_125 (by decide +kernel) rfl rfl ⟨Nat.le_of_ble_eq_true rfl, Nat.le_of_ble_eq_true rfl⟩ [0, 1, 2] rfl (by decide) rfl rfl rfl rfl hl.1 rfl (Nat.le_of_ble_eq_true rfl) xdX8_addOperands_84 ⟨Nat.le_of_ble_eq_true rfl, Nat.le_of_ble_eq_true rfl⟩) hP hD hS hA (isC := [0, 1, 2]) (isR := []) rfl rfl (by decide) (by decide) (fun u H locs hw195 hP hD hS => ?_)
              obtain ⟨z197, z198, z199, f200⟩ := u
              obtain ⟨g201, g202, g203, g204⟩ := hw195
              have g201 : z197 = n + ((1 + dl (((w.toUInt32 >>> ((7 : Int32).toUInt32 &&& Int32.toUInt32 31)).toInt32) &&& 31) + 2 + dl (nuX kd w)) + 1 + (1 + dl (((w.toUInt32 >>> ((15 : Int32).toUInt32 &&& Int32.toUInt32 31)).toInt32) &&& 31)) + 1) := g201
              have g202 : z199 = 16 ∨ z199 = 34 := g202
              have g203 : z197 ≤ z199 := g203
              have g204 : sb_Fit f200 := g204
              have hP : va_P (dC, dI) vwCl [(sh, .inr (11, [.ref sb])), (sb, .inr (1, [.ref z198, .int 0, .int mb, .int (nI z197)])), (z198, .inl (cB, z199, .inl f200))] H := hP
              have hD : va_D A [(sh, .inr (11, [.ref sb])), (sb, .inr (1, [.ref z198, .int 0, .int mb, .int (nI z197)])), (z198, .inl (cB, z199, .inl f200))] := hD
              refine W.widen (k := 8) (n := 272) (by omega) (by omega) ?_
              refine lv_goto (tgt := 216) hx hb xdX8_addOperands_87 (by decide) ?_
              have hP9 := hP.sub (ws' := [(sh, .inr (11, [.ref sb])), (sb, .inr (1, [.ref z198, .int 0, .int mb, .int (nI z197)])), (z198, .inl (cB, z199, .inl f200))]) [0, 1, 2] rfl
              have hD9 := hD.sub (ws' := [(sh, .inr (11, [.ref sb])), (sb, .inr (1, [.ref z198, .int 0, .int mb, .int (nI z197)])), (z198, .inl (cB, z199, .inl f200))]) [0, 1, 2] (by decide) rfl
              refine W.widen (k := 8) (n := 272) (by omega) (by omega) ?_
              exact W.vret hx hb hr (fun t ht9 hW => ⟨⟨(z197, z198, z199, f200), rfl, ⟨(by dsimp only; unfold opX; rw [if_neg h9, if_neg h23, if_neg h24, if_neg h25, if_neg h41, if_neg h79]; omega), (by first | assumption | omega | (dsimp only; omega) | (dsimp only; assumption) | rfl), (by first | assumption | omega | (dsimp only; omega) | (dsimp only; assumption) | rfl), (by first | assumption | omega | (dsimp only; omega) | (dsimp only; assumption) | rfl)⟩, by rw [ht9]; exact hP9, hD9⟩, hS.F ht9⟩) hS.2.2 xdX8_addOperands_216
      · refine lv_aload_n hx hb xdX8_addOperands_51 rfl (lv_at hl 4 rfl) ?_
        refine lv_iload hx hb xdX8_addOperands_52 (lv_at hl 2 rfl) ?_
        refine lv_iload_n hx hb xdX8_addOperands_54 rfl (lv_at hl 3 rfl) ?_
        have hd205 := dl_31 ((w.toUInt32 >>> ((7 : Int32).toUInt32 &&& Int32.toUInt32 31)).toInt32)
        have hd206 := dl_le (((w.toUInt32 >>> ((7 : Int32).toUInt32 &&& Int32.toUInt32 31)).toInt32) &&& 31)
        have hd207 := dl_le (nuX kd w)
        refine ca_v (wr := []) (rn_V (n := 2) (As := [.int (((w.toUInt32 >>> ((7 : Int32).toUInt32 &&& Int32.toUInt32 31)).toInt32) &&& 31), .int (nuX kd w)]) (rest := []) hx hb hml hown ht hKK hFx hP hD hS hA (c_sx_pair l dC dI cI cB cZ cJ cR tb H.size sh sb a m n f mb (((w.toUInt32 >>> ((7 : Int32).toUInt32 &&& Int32.toUInt32 31)).toInt32) &&& 31) (nuX kd w) (by first | assumption | omega | rfl | exact sb_fit0) (by first | assumption | omega | rfl | exact sb_fit0) (by first | assumption | omega | rfl | exact sb_fit0)) xw_112 xw_113 (by decide +kernel) rfl rfl ⟨Nat.le_of_ble_eq_true rfl, Nat.le_of_ble_eq_true rfl⟩ [0, 1, 2] rfl (by decide) rfl rfl rfl rfl hl.1 rfl (Nat.le_of_ble_eq_true rfl) xdX8_addOperands_55 ⟨Nat.le_of_ble_eq_true rfl, Nat.le_of_ble_eq_true rfl⟩) hP hD hS hA (isC := [0, 1, 2]) (isR := []) rfl rfl (by decide) (by decide) (fun u H locs hw208 hP hD hS => ?_)
        obtain ⟨z210, z211, z212, f213⟩ := u
        obtain ⟨g214, g215, g216, g217⟩ := hw208
        have g214 : z210 = n + (1 + dl (((w.toUInt32 >>> ((7 : Int32).toUInt32 &&& Int32.toUInt32 31)).toInt32) &&& 31) + 2 + dl (nuX kd w)) := g214
        have g215 : z212 = 16 ∨ z212 = 34 := g215
        have g216 : z210 ≤ z212 := g216
        have g217 : sb_Fit f213 := g217
        have hP : va_P (dC, dI) vwCl [(sh, .inr (11, [.ref sb])), (sb, .inr (1, [.ref z211, .int 0, .int mb, .int (nI z210)])), (z211, .inl (cB, z212, .inl f213))] H := hP
        have hD : va_D A [(sh, .inr (11, [.ref sb])), (sb, .inr (1, [.ref z211, .int 0, .int mb, .int (nI z210)])), (z211, .inl (cB, z212, .inl f213))] := hD
        refine W.widen (k := 4) (n := 136) (by omega) (by omega) ?_
        refine lv_goto (tgt := 216) hx hb xdX8_addOperands_58 (by decide) ?_
        have hP9 := hP.sub (ws' := [(sh, .inr (11, [.ref sb])), (sb, .inr (1, [.ref z211, .int 0, .int mb, .int (nI z210)])), (z211, .inl (cB, z212, .inl f213))]) [0, 1, 2] rfl
        have hD9 := hD.sub (ws' := [(sh, .inr (11, [.ref sb])), (sb, .inr (1, [.ref z211, .int 0, .int mb, .int (nI z210)])), (z211, .inl (cB, z212, .inl f213))]) [0, 1, 2] (by decide) rfl
        refine W.widen (k := 8) (n := 272) (by omega) (by omega) ?_
        exact W.vret hx hb hr (fun t ht9 hW => ⟨⟨(z210, z211, z212, f213), rfl, ⟨(by dsimp only; unfold opX; rw [if_neg h9, if_neg h23, if_pos h24]; omega), (by first | assumption | omega | (dsimp only; omega) | (dsimp only; assumption) | rfl), (by first | assumption | omega | (dsimp only; omega) | (dsimp only; assumption) | rfl), (by first | assumption | omega | (dsimp only; omega) | (dsimp only; assumption) | rfl)⟩, by rw [ht9]; exact hP9, hD9⟩, hS.F ht9⟩) hS.2.2 xdX8_addOperands_216
    · refine lv_aload_n hx hb xdX8_addOperands_33 rfl (lv_at hl 4 rfl) ?_
      refine lv_iload hx hb xdX8_addOperands_34 (lv_at hl 2 rfl) ?_
      refine lv_iload_n hx hb xdX8_addOperands_36 rfl (lv_at hl 3 rfl) ?_
      refine lv_bipush (v := 12) hx hb xdX8_addOperands_37 (by decide) ?_
      refine lv_iushr hx hb xdX8_addOperands_39 rfl ?_
      have hd218 := dl_31 ((w.toUInt32 >>> ((7 : Int32).toUInt32 &&& Int32.toUInt32 31)).toInt32)
      have hd219 := dl_le (((w.toUInt32 >>> ((7 : Int32).toUInt32 &&& Int32.toUInt32 31)).toInt32) &&& 31)
      have hd220 := dl_le (((nuX kd w).toUInt32 >>> ((12 : Int32).toUInt32 &&& Int32.toUInt32 31)).toInt32)
      refine ca_v (wr := []) (rn_V (n := 2) (As := [.int (((w.toUInt32 >>> ((7 : Int32).toUInt32 &&& Int32.toUInt32 31)).toInt32) &&& 31), .int (((nuX kd w).toUInt32 >>> ((12 : Int32).toUInt32 &&& Int32.toUInt32 31)).toInt32)]) (rest := []) hx hb hml hown ht hKK hFx hP hD hS hA (c_sx_pair l dC dI cI cB cZ cJ cR tb H.size sh sb a m n f mb (((w.toUInt32 >>> ((7 : Int32).toUInt32 &&& Int32.toUInt32 31)).toInt32) &&& 31) (((nuX kd w).toUInt32 >>> ((12 : Int32).toUInt32 &&& Int32.toUInt32 31)).toInt32) (by first | assumption | omega | rfl | exact sb_fit0) (by first | assumption | omega | rfl | exact sb_fit0) (by first | assumption | omega | rfl | exact sb_fit0)) xw_112 xw_113 (by decide +kernel) rfl rfl ⟨Nat.le_of_ble_eq_true rfl, Nat.le_of_ble_eq_true rfl⟩ [0, 1, 2] rfl (by decide) rfl rfl rfl rfl hl.1 rfl (Nat.le_of_ble_eq_true rfl) xdX8_addOperands_40 ⟨Nat.le_of_ble_eq_true rfl, Nat.le_of_ble_eq_true rfl⟩) hP hD hS hA (isC := [0, 1, 2]) (isR := []) rfl rfl (by decide) (by decide) (fun u H locs hw221 hP hD hS => ?_)
      obtain ⟨z223, z224, z225, f226⟩ := u
      obtain ⟨g227, g228, g229, g230⟩ := hw221
      have g227 : z223 = n + (1 + dl (((w.toUInt32 >>> ((7 : Int32).toUInt32 &&& Int32.toUInt32 31)).toInt32) &&& 31) + 2 + dl (((nuX kd w).toUInt32 >>> ((12 : Int32).toUInt32 &&& Int32.toUInt32 31)).toInt32)) := g227
      have g228 : z225 = 16 ∨ z225 = 34 := g228
      have g229 : z223 ≤ z225 := g229
      have g230 : sb_Fit f226 := g230
      have hP : va_P (dC, dI) vwCl [(sh, .inr (11, [.ref sb])), (sb, .inr (1, [.ref z224, .int 0, .int mb, .int (nI z223)])), (z224, .inl (cB, z225, .inl f226))] H := hP
      have hD : va_D A [(sh, .inr (11, [.ref sb])), (sb, .inr (1, [.ref z224, .int 0, .int mb, .int (nI z223)])), (z224, .inl (cB, z225, .inl f226))] := hD
      refine W.widen (k := 4) (n := 136) (by omega) (by omega) ?_
      refine lv_goto (tgt := 216) hx hb xdX8_addOperands_43 (by decide) ?_
      have hP9 := hP.sub (ws' := [(sh, .inr (11, [.ref sb])), (sb, .inr (1, [.ref z224, .int 0, .int mb, .int (nI z223)])), (z224, .inl (cB, z225, .inl f226))]) [0, 1, 2] rfl
      have hD9 := hD.sub (ws' := [(sh, .inr (11, [.ref sb])), (sb, .inr (1, [.ref z224, .int 0, .int mb, .int (nI z223)])), (z224, .inl (cB, z225, .inl f226))]) [0, 1, 2] (by decide) rfl
      refine W.widen (k := 8) (n := 272) (by omega) (by omega) ?_
      exact W.vret hx hb hr (fun t ht9 hW => ⟨⟨(z223, z224, z225, f226), rfl, ⟨(by dsimp only; unfold opX; rw [if_neg h9, if_pos h23]; omega), (by first | assumption | omega | (dsimp only; omega) | (dsimp only; assumption) | rfl), (by first | assumption | omega | (dsimp only; omega) | (dsimp only; assumption) | rfl), (by first | assumption | omega | (dsimp only; omega) | (dsimp only; assumption) | rfl)⟩, by rw [ht9]; exact hP9, hD9⟩, hS.F ht9⟩) hS.2.2 xdX8_addOperands_216
def lenK (kd : Nat) (w : Int32) : Nat := cntN kd 6 + (if kd = 40 then 11 else if 37 ≤ kd then 0 else 1 + opX kd w)
set_option maxHeartbeats 16000000 in
set_option maxRecDepth 100000 in
/-- spell -/
theorem c_sx_spell (l : Launch) (dC : Nat → ClassId) (dI : Nat → Nat → Nat) (cI cB cZ cJ cR : ClassId) (tb : Nat → Nat) (sz : Nat) (sh : Nat) (sb : Nat) (a : Nat) (m : Nat) (n : Nat) (f : Nat → Int32) (mb : Int32) (w : Int32) (hm : m = 16 ∨ m = 34) (hf : sb_Fit f) (h0 : n ≤ 34) : Met l yX8_spell (Cond.code yX8_spell cX8_spell 3 (some .int) :: tw_W) ({ frames := 10, cells := 9, slots := 306, locals := 221 }) (pc_ (dC, dI) (tyS cI cB cZ cJ cR) tb [(sh, .inr (11, [.ref sb])), (sb, .inr (1, [.ref a, .int 0, .int mb, .int (nI n)])), (a, .inl (cB, m, .inl f))] sz [.ref sh, .int w]) (qi_ (dC, dI) [(sh, .inr (11, [.ref sb])), (sb, .inr (1, [.ref a, .int 0, .int mb, .int (nI n)])), (a, .inl (cB, m, .inl f))] sz (fun (r : Int32) (u : Nat × Nat × Nat × (Nat → Int32) × Int32) => (u.2.2.1 = 16 ∨ u.2.2.1 = 34) ∧ u.1 ≤ u.2.2.1 ∧ sb_Fit u.2.2.2.1 ∧ ∃ kd : Nat, kd ≤ 40 ∧ kdI w = nI kd ∧ r = nI (lenK kd w)) (fun (u : Nat × Nat × Nat × (Nat → Int32) × Int32) => [(sh, .inr (11, [.ref sb])), (sb, .inr (1, [.ref u.2.1, .int 0, .int u.2.2.2.2, .int (nI u.1)])), (u.2.1, .inl (cB, u.2.2.1, .inl u.2.2.2.1))])) 9 306 (va_A [(sh, .inr (11, [.ref sb])), (sb, .inr (1, [.ref a, .int 0, .int mb, .int (nI n)])), (a, .inl (cB, m, .inl f))] sz) := by
  refine Met.ofW (cc := cX8_spell) (maxL := 3) (ret := (some .int)) (by decide) rfl ?_
  intro p e s m9 args below meth c s₁ B hml hv
  obtain ⟨rfl, hsz, hP, hKK, hD0, hFx⟩ := hv
  have hK := hKK.1
  have hx := B.exec
  have hb := B.bytes
  have hr := B.returns
  have ht : ∀ w ∈ tw_W, w.before _ s = true := fun w h => atoms_spec (ws := Cond.code yX8_spell cX8_spell 3 (some .int) :: tw_W) B.pre w (List.mem_cons_of_mem _ h)
  have hown : s.vm.findClass RX8 = some m9.cls := findClass_of_methodNamed B.named
  have hlocks := B.notSynchronized
  subst hsz
  unfold qi_
  have hD := hD0.self (sz := s.heap.size)
  generalize hAe : va_A [(sh, .inr (11, [.ref sb])), (sb, .inr (1, [.ref a, .int 0, .int mb, .int (nI n)])), (a, .inl (cB, m, .inl f))] s.heap.size = A at hD hFx ⊢
  have hA : ∀ q : Nat, s.heap.size ≤ q → A q := fun q h => by rw [← hAe]; exact Or.inr h
  have hS : va_S A s.heap s.heap [] := va_S.rf
  have hP : va_P (dC, dI) vwCl [(sh, .inr (11, [.ref sb])), (sb, .inr (1, [.ref a, .int 0, .int mb, .int (nI n)])), (a, .inl (cB, m, .inl f))] s.heap := hP
  have hl := lv_entry ([.ref sh, .int w]) (n := 3) (Nat.le_of_ble_eq_true rfl)
  rw [lg_entry_eq]
  generalize (lg_sl ([.ref sh, .int w]) ++ List.replicate (3 - (lg_sl ([.ref sh, .int w])).length) Slot.unset).toArray = ls at hl ⊢
  have hl : lv_has ls 3 [(0, .ref sh), (1, .int w)] := hl
  refine lv_iload_n hx hb xdX8_spell_0 rfl (lv_at hl 1 rfl) ?_
  refine ca_i (wr := [(sh, .inr (11, [.ref sb])), (sb, .inr (1, [.ref a, .int 0, .int mb, .int (nI n)])), (a, .inl (cB, m, .inl f))]) (rn_S (n := 1) (As := [.int w]) (rest := []) hx hb hml hown ht hKK hFx hP hD hS hA (c_sx_kindOf l dC dI cI cB cZ cJ cR tb s.heap.size w) xw_126 xw_127 (by decide +kernel) rfl rfl ⟨Nat.le_of_ble_eq_true rfl, Nat.le_of_ble_eq_true rfl⟩ [] rfl (by decide) rfl hl.1 rfl (Nat.le_of_ble_eq_true rfl) xdX8_spell_1 ⟨Nat.le_of_ble_eq_true rfl, Nat.le_of_ble_eq_true rfl⟩) hP hD hS hA (isC := []) (isR := [0, 1, 2]) rfl rfl (by decide) (by decide) (fun r2 u H locs hw1 hP hD hS => ?_)
  subst hw1
  have hP : va_P (dC, dI) vwCl [(sh, .inr (11, [.ref sb])), (sb, .inr (1, [.ref a, .int 0, .int mb, .int (nI n)])), (a, .inl (cB, m, .inl f))] H := hP
  have hD : va_D A [(sh, .inr (11, [.ref sb])), (sb, .inr (1, [.ref a, .int 0, .int mb, .int (nI n)])), (a, .inl (cB, m, .inl f))] := hD
  refine W.widen (k := 0) (n := 0) (by omega) (by omega) ?_
  refine tp_i (y := (kdI w)) (rfl) ?_
  obtain ⟨kd, hkd, ekd⟩ := kdI_nat w
  have hcnt := cntN_le kd 6
  refine tp_i (y := (nI kd)) (ekd) ?_
  refine lv_istore_n (lv' := [(2, .int (nI kd)), (0, .ref sh), (1, .int w)]) hx hb xdX8_spell_4 rfl hl (by decide) rfl (fun ls hl => ?_)
  refine lv_aload_n hx hb xdX8_spell_5 rfl (lv_at hl 1 rfl) ?_
  refine va_get (D := (dC, dI)) (ci := 11) (v := .ref sb) (C := RX8) (T := TX8) (N := 1) hx hb ht xiX8 hown hK hP 0 rfl rfl 0 (by decide) (ht _ xw_103) (fun _ h9 => h9) rfl xdX8_spell_6 ?_
  refine lv_iconst (v := 0) hx hb xdX8_spell_9 (by decide) ?_
  refine ca_v (wr := [(sh, .inr (11, [.ref sb]))]) (rn_V (n := 1) (As := [.int 0]) (rest := []) hx hb hml hown ht hKK hFx hP hD hS hA (c_sx_set0 l dC dI cI cB cZ cJ cR tb H.size sb a m n f mb (by first | assumption | omega | rfl | exact sb_fit0) (by first | assumption | omega | rfl | exact sb_fit0) (by first | assumption | omega | rfl | exact sb_fit0)) xw_128 xw_129 (by decide +kernel) rfl rfl ⟨Nat.le_of_ble_eq_true rfl, Nat.le_of_ble_eq_true rfl⟩ [1, 2] rfl (by decide) rfl rfl rfl rfl hl.1 rfl (Nat.le_of_ble_eq_true rfl) xdX8_spell_10 ⟨Nat.le_of_ble_eq_true rfl, Nat.le_of_ble_eq_true rfl⟩) hP hD hS hA (isC := [1, 2]) (isR := [0]) rfl rfl (by decide) (by decide) (fun u H locs hw3 hP hD hS => ?_)
  obtain ⟨z5, hq9⟩ : ∃ z, z = u := ⟨_, rfl⟩
  subst hq9
  have hP : va_P (dC, dI) vwCl [(sh, .inr (11, [.ref sb])), (sb, .inr (1, [.ref a, .int 0, .int z5, .int 0])), (a, .inl (cB, m, .inl f))] H := hP
  have hD : va_D A [(sh, .inr (11, [.ref sb])), (sb, .inr (1, [.ref a, .int 0, .int z5, .int 0])), (a, .inl (cB, m, .inl f))] := hD
  refine W.widen (k := 0) (n := 0) (by omega) (by omega) ?_
  refine lv_aload_n hx hb xdX8_spell_13 rfl (lv_at hl 1 rfl) ?_
  refine lv_iload_n hx hb xdX8_spell_14 rfl (lv_at hl 0 rfl) ?_
  refine ca_v (wr := []) (rn_V (n := 1) (As := [.int (nI kd)]) (rest := []) hx hb hml hown ht hKK hFx hP hD hS hA (c_sx_name l dC dI cI cB cZ cJ cR tb H.size sh sb a m 0 f z5 kd (by first | assumption | omega | rfl | exact sb_fit0) (by first | assumption | omega | rfl | exact sb_fit0) (by first | assumption | omega | rfl | exact sb_fit0) (by first | assumption | omega | rfl | exact sb_fit0)) xw_130 xw_131 (by decide +kernel) rfl rfl ⟨Nat.le_of_ble_eq_true rfl, Nat.le_of_ble_eq_true rfl⟩ [0, 1, 2] rfl (by decide) rfl rfl rfl rfl hl.1 rfl (Nat.le_of_ble_eq_true rfl) xdX8_spell_15 ⟨Nat.le_of_ble_eq_true rfl, Nat.le_of_ble_eq_true rfl⟩) hP hD hS hA (isC := [0, 1, 2]) (isR := []) rfl rfl (by decide) (by decide) (fun u H locs hw6 hP hD hS => ?_)
  obtain ⟨z8, f9⟩ := u
  obtain ⟨g10, g11, g12⟩ := hw6
  have g10 : z8 = 0 + cntN kd 6 := g10
  have g11 : z8 ≤ m := g11
  have g12 : sb_Fit f9 := g12
  have hP : va_P (dC, dI) vwCl [(sh, .inr (11, [.ref sb])), (sb, .inr (1, [.ref a, .int 0, .int z5, .int (nI z8)])), (a, .inl (cB, m, .inl f9))] H := hP
  have hD : va_D A [(sh, .inr (11, [.ref sb])), (sb, .inr (1, [.ref a, .int 0, .int z5, .int (nI z8)])), (a, .inl (cB, m, .inl f9))] := hD
  refine W.widen (k := 0) (n := 0) (by omega) (by omega) ?_
  refine lv_iload_n hx hb xdX8_spell_18 rfl (lv_at hl 0 rfl) ?_
  refine lv_bipush (v := 40) hx hb xdX8_spell_19 (by decide) ?_
  refine lv_icmp_ne (tgt := 32) hx hb xdX8_spell_21 (by decide) (fun h13 => ?_) (fun h13 => ?_)
  · have hk40 : ¬ kd = 40 := fun z => h13 (congrArg nI z)
    refine lv_iload_n hx hb xdX8_spell_32 rfl (lv_at hl 0 rfl) ?_
    refine lv_bipush (v := 37) hx hb xdX8_spell_33 (by decide) ?_
    refine lv_icmp_ge (tgt := 54) hx hb xdX8_spell_35 (by decide) (fun h14 => ?_) (fun h14 => ?_)
    · have hk37 : 37 ≤ kd := (nI_leI (a := 37) (by omega) (by omega)).mp h14
      refine lv_aload_n hx hb xdX8_spell_54 rfl (lv_at hl 1 rfl) ?_
      refine va_get (D := (dC, dI)) (ci := 11) (v := .ref sb) (C := RX8) (T := TX8) (N := 1) hx hb ht xiX8 hown hK hP 0 rfl rfl 0 (by decide) (ht _ xw_103) (fun _ h9 => h9) rfl xdX8_spell_55 ?_
      refine ca_i (wr := [(sh, .inr (11, [.ref sb])), (a, .inl (cB, m, .inl f9))]) (rn_V (n := 0) (As := []) (rest := []) hx hb hml hown ht hKK hFx hP hD hS hA (c_sx_len l dC dI cI cB cZ cJ cR tb H.size sb a z8 z5) xw_132 xw_133 (by decide +kernel) rfl rfl ⟨Nat.le_of_ble_eq_true rfl, Nat.le_of_ble_eq_true rfl⟩ [1] rfl (by decide) rfl rfl rfl rfl hl.1 rfl (Nat.le_of_ble_eq_true rfl) xdX8_spell_58 ⟨Nat.le_of_ble_eq_true rfl, Nat.le_of_ble_eq_true rfl⟩) hP hD hS hA (isC := [1]) (isR := [0, 2]) rfl rfl (by decide) (by decide) (fun r16 u H locs hw15 hP hD hS => ?_)
      subst hw15
      have hP : va_P (dC, dI) vwCl [(sh, .inr (11, [.ref sb])), (a, .inl (cB, m, .inl f9)), (sb, .inr (1, [.ref a, .int 0, .int z5, .int (nI z8)]))] H := hP
      have hD : va_D A [(sh, .inr (11, [.ref sb])), (a, .inl (cB, m, .inl f9)), (sb, .inr (1, [.ref a, .int 0, .int z5, .int (nI z8)]))] := hD
      refine W.widen (k := 0) (n := 0) (by omega) (by omega) ?_
      have hP9 := hP.sub (ws' := [(sh, .inr (11, [.ref sb])), (sb, .inr (1, [.ref a, .int 0, .int z5, .int (nI z8)])), (a, .inl (cB, m, .inl f9))]) [0, 2, 1] rfl
      have hD9 := hD.sub (ws' := [(sh, .inr (11, [.ref sb])), (sb, .inr (1, [.ref a, .int 0, .int z5, .int (nI z8)])), (a, .inl (cB, m, .inl f9))]) [0, 2, 1] (by decide) rfl
      refine W.widen (k := 9) (n := 306) (by omega) (by omega) ?_
      exact W.iret (v := (nI z8)) hx hb hr (fun t ht9 hW => ⟨⟨(nI z8), (z8, a, m, f9, z5), rfl, ⟨(by first | assumption | omega | (dsimp only; omega) | (dsimp only; assumption) | rfl), (by first | assumption | omega | (dsimp only; omega) | (dsimp only; assumption) | rfl), (by first | assumption | omega | (dsimp only; omega) | (dsimp only; assumption) | rfl), ⟨kd, hkd, ekd, congrArg nI (by unfold lenK; rw [if_neg hk40, if_pos hk37]; omega)⟩⟩, by rw [ht9]; exact hP9, hD9⟩, hS.F ht9⟩) hS.2.2 xdX8_spell_61
    · have hk37 : ¬ 37 ≤ kd := fun z => h14 ((nI_leI (a := 37) (by omega) (by omega)).mpr z)
      refine lv_aload_n hx hb xdX8_spell_38 rfl (lv_at hl 1 rfl) ?_
      refine va_get (D := (dC, dI)) (ci := 11) (v := .ref sb) (C := RX8) (T := TX8) (N := 1) hx hb ht xiX8 hown hK hP 0 rfl rfl 0 (by decide) (ht _ xw_103) (fun _ h9 => h9) rfl xdX8_spell_39 ?_
      refine lv_bipush (v := 32) hx hb xdX8_spell_42 (by decide) ?_
      refine ca_r (wr := [(sh, .inr (11, [.ref sb]))]) (rn_V (n := 1) (As := [.int 32]) (rest := []) hx hb hml hown ht hKK hFx hP hD hS hA (c_sx_acB l dC dI cI cB cZ cJ cR tb H.size sb a m z8 f9 z5 32 (by first | assumption | omega | rfl | exact sb_fit0) (by first | assumption | omega | rfl | exact sb_fit0) (by first | assumption | omega | rfl | exact sb_fit0) (by first | assumption | omega | rfl | exact sb_fit0)) xw_104 xw_105 (by decide +kernel) rfl rfl ⟨Nat.le_of_ble_eq_true rfl, Nat.le_of_ble_eq_true rfl⟩ [1, 2] rfl (by decide) rfl rfl rfl rfl hl.1 rfl (Nat.le_of_ble_eq_true rfl) xdX8_spell_44 ⟨Nat.le_of_ble_eq_true rfl, Nat.le_of_ble_eq_true rfl⟩) hP hD hS hA (isC := [1, 2]) (isR := [0]) rfl rfl (by decide) (by decide) (fun u H locs hw17 hP hD hS => ?_)
      obtain ⟨z19, z20, z21, f22⟩ := u
      obtain ⟨g23, g24, g25, g26⟩ := hw17
      have g23 : z19 = z8 + 1 := g23
      have g24 : z21 = 16 ∨ z21 = 34 := g24
      have g25 : z19 ≤ z21 := g25
      have g26 : sb_Fit f22 := g26
      have hP : va_P (dC, dI) vwCl [(sh, .inr (11, [.ref sb])), (sb, .inr (1, [.ref z20, .int 0, .int z5, .int (nI z19)])), (z20, .inl (cB, z21, .inl f22))] H := hP
      have hD : va_D A [(sh, .inr (11, [.ref sb])), (sb, .inr (1, [.ref z20, .int 0, .int z5, .int (nI z19)])), (z20, .inl (cB, z21, .inl f22))] := hD
      refine W.widen (k := 1) (n := 34) (by omega) (by omega) ?_
      refine lv_pop hx hb xdX8_spell_47 rfl ?_
      refine lv_aload_n hx hb xdX8_spell_48 rfl (lv_at hl 1 rfl) ?_
      refine lv_iload_n hx hb xdX8_spell_49 rfl (lv_at hl 0 rfl) ?_
      refine lv_iload_n hx hb xdX8_spell_50 rfl (lv_at hl 2 rfl) ?_
      refine ca_v (wr := []) (rn_V (n := 2) (As := [.int (nI kd), .int w]) (rest := []) hx hb hml hown ht hKK hFx hP hD hS hA (c_sx_ops l dC dI cI cB cZ cJ cR tb H.size sh sb z20 z21 z19 f22 z5 kd w (by first | assumption | omega | rfl | exact sb_fit0) (by first | assumption | omega | rfl | exact sb_fit0) (by first | assumption | omega | rfl | exact sb_fit0) (by first | assumption | omega | rfl | exact sb_fit0)) xw_134 xw_135 (by decide +kernel) rfl rfl ⟨Nat.le_of_ble_eq_true rfl, Nat.le_of_ble_eq_true rfl⟩ [0, 1, 2] rfl (by decide) rfl rfl rfl rfl hl.1 rfl (Nat.le_of_ble_eq_true rfl) xdX8_spell_51 ⟨Nat.le_of_ble_eq_true rfl, Nat.le_of_ble_eq_true rfl⟩) hP hD hS hA (isC := [0, 1, 2]) (isR := []) rfl rfl (by decide) (by decide) (fun u H locs hw27 hP hD hS => ?_)
      obtain ⟨z29, z30, z31, f32⟩ := u
      obtain ⟨g33, g34, g35, g36⟩ := hw27
      have g33 : z29 = z19 + opX kd w := g33
      have g34 : z31 = 16 ∨ z31 = 34 := g34
      have g35 : z29 ≤ z31 := g35
      have g36 : sb_Fit f32 := g36
      have hP : va_P (dC, dI) vwCl [(sh, .inr (11, [.ref sb])), (sb, .inr (1, [.ref z30, .int 0, .int z5, .int (nI z29)])), (z30, .inl (cB, z31, .inl f32))] H := hP
      have hD : va_D A [(sh, .inr (11, [.ref sb])), (sb, .inr (1, [.ref z30, .int 0, .int z5, .int (nI z29)])), (z30, .inl (cB, z31, .inl f32))] := hD
      refine W.widen (k := 9) (n := 306) (by omega) (by omega) ?_
      refine lv_aload_n hx hb xdX8_spell_54 rfl (lv_at hl 1 rfl) ?_
      refine va_get (D := (dC, dI)) (ci := 11) (v := .ref sb) (C := RX8) (T := TX8) (N := 1) hx hb ht xiX8 hown hK hP 0 rfl rfl 0 (by decide) (ht _ xw_103) (fun _ h9 => h9) rfl xdX8_spell_55 ?_
      refine ca_i (wr := [(sh, .inr (11, [.ref sb])), (z30, .inl (cB, z31, .inl f32))]) (rn_V (n := 0) (As := []) (rest := []) hx hb hml hown ht hKK hFx hP hD hS hA (c_sx_len l dC dI cI cB cZ cJ cR tb H.size sb z30 z29 z5) xw_132 xw_133 (by decide +kernel) rfl rfl ⟨Nat.le_of_ble_eq_true rfl, Nat.le_of_ble_eq_true rfl⟩ [1] rfl (by decide) rfl rfl rfl rfl hl.1 rfl (Nat.le_of_ble_eq_true rfl) xdX8_spell_58 ⟨Nat.le_of_ble_eq_true rfl, Nat.le_of_ble_eq_true rfl⟩) hP hD hS hA (isC := [1]) (isR := [0, 2]) rfl rfl (by decide) (by decide) (fun r38 u H locs hw37 hP hD hS => ?_)
      subst hw37
      have hP : va_P (dC, dI) vwCl [(sh, .inr (11, [.ref sb])), (z30, .inl (cB, z31, .inl f32)), (sb, .inr (1, [.ref z30, .int 0, .int z5, .int (nI z29)]))] H := hP
      have hD : va_D A [(sh, .inr (11, [.ref sb])), (z30, .inl (cB, z31, .inl f32)), (sb, .inr (1, [.ref z30, .int 0, .int z5, .int (nI z29)]))] := hD
      refine W.widen (k := 9) (n := 306) (by omega) (by omega) ?_
      have hP9 := hP.sub (ws' := [(sh, .inr (11, [.ref sb])), (sb, .inr (1, [.ref z30, .int 0, .int z5, .int (nI z29)])), (z30, .inl (cB, z31, .inl f32))]) [0, 2, 1] rfl
      have hD9 := hD.sub (ws' := [(sh, .inr (11, [.ref sb])), (sb, .inr (1, [.ref z30, .int 0, .int z5, .int (nI z29)])), (z30, .inl (cB, z31, .inl f32))]) [0, 2, 1] (by decide) rfl
      refine W.widen (k := 9) (n := 306) (by omega) (by omega) ?_
      exact W.iret (v := (nI z29)) hx hb hr (fun t ht9 hW => ⟨⟨(nI z29), (z29, z30, z31, f32, z5), rfl, ⟨(by first | assumption | omega | (dsimp only; omega) | (dsimp only; assumption) | rfl), (by first | assumption | omega | (dsimp only; omega) | (dsimp only; assumption) | rfl), (by first | assumption | omega | (dsimp only; omega) | (dsimp only; assumption) | rfl), ⟨kd, hkd, ekd, congrArg nI (by unfold lenK; rw [if_neg hk40, if_neg hk37]; omega)⟩⟩, by rw [ht9]; exact hP9, hD9⟩, hS.F ht9⟩) hS.2.2 xdX8_spell_61
  · have hk40 : kd = 40 := (nI_eq (b := 40) (by omega) (by omega)).mp h13
    have hc40 : cntN kd 6 = 4 := by rw [hk40]; decide
    refine lv_aload_n hx hb xdX8_spell_24 rfl (lv_at hl 1 rfl) ?_
    refine lv_iload_n hx hb xdX8_spell_25 rfl (lv_at hl 2 rfl) ?_
    refine ca_v (wr := []) (rn_V (n := 1) (As := [.int w]) (rest := []) hx hb hml hown ht hKK hFx hP hD hS hA (c_sx_hex l dC dI cI cB cZ cJ cR tb H.size sh sb a m z8 f9 z5 w (by first | assumption | omega | rfl | exact sb_fit0) (by first | assumption | omega | rfl | exact sb_fit0) (by first | assumption | omega | rfl | exact sb_fit0)) xw_136 xw_137 (by decide +kernel) rfl rfl ⟨Nat.le_of_ble_eq_true rfl, Nat.le_of_ble_eq_true rfl⟩ [0, 1, 2] rfl (by decide) rfl rfl rfl rfl hl.1 rfl (Nat.le_of_ble_eq_true rfl) xdX8_spell_26 ⟨Nat.le_of_ble_eq_true rfl, Nat.le_of_ble_eq_true rfl⟩) hP hD hS hA (isC := [0, 1, 2]) (isR := []) rfl rfl (by decide) (by decide) (fun u H locs hw39 hP hD hS => ?_)
    obtain ⟨z41, f42⟩ := u
    obtain ⟨g43, g44, g45⟩ := hw39
    have g43 : z41 = z8 + 11 := g43
    have g44 : z41 ≤ m := g44
    have g45 : sb_Fit f42 := g45
    have hP : va_P (dC, dI) vwCl [(sh, .inr (11, [.ref sb])), (sb, .inr (1, [.ref a, .int 0, .int z5, .int (nI z41)])), (a, .inl (cB, m, .inl f42))] H := hP
    have hD : va_D A [(sh, .inr (11, [.ref sb])), (sb, .inr (1, [.ref a, .int 0, .int z5, .int (nI z41)])), (a, .inl (cB, m, .inl f42))] := hD
    refine W.widen (k := 0) (n := 0) (by omega) (by omega) ?_
    refine lv_goto (tgt := 54) hx hb xdX8_spell_29 (by decide) ?_
    refine lv_aload_n hx hb xdX8_spell_54 rfl (lv_at hl 1 rfl) ?_
    refine va_get (D := (dC, dI)) (ci := 11) (v := .ref sb) (C := RX8) (T := TX8) (N := 1) hx hb ht xiX8 hown hK hP 0 rfl rfl 0 (by decide) (ht _ xw_103) (fun _ h9 => h9) rfl xdX8_spell_55 ?_
    refine ca_i (wr := [(sh, .inr (11, [.ref sb])), (a, .inl (cB, m, .inl f42))]) (rn_V (n := 0) (As := []) (rest := []) hx hb hml hown ht hKK hFx hP hD hS hA (c_sx_len l dC dI cI cB cZ cJ cR tb H.size sb a z41 z5) xw_132 xw_133 (by decide +kernel) rfl rfl ⟨Nat.le_of_ble_eq_true rfl, Nat.le_of_ble_eq_true rfl⟩ [1] rfl (by decide) rfl rfl rfl rfl hl.1 rfl (Nat.le_of_ble_eq_true rfl) xdX8_spell_58 ⟨Nat.le_of_ble_eq_true rfl, Nat.le_of_ble_eq_true rfl⟩) hP hD hS hA (isC := [1]) (isR := [0, 2]) rfl rfl (by decide) (by decide) (fun r47 u H locs hw46 hP hD hS => ?_)
    subst hw46
    have hP : va_P (dC, dI) vwCl [(sh, .inr (11, [.ref sb])), (a, .inl (cB, m, .inl f42)), (sb, .inr (1, [.ref a, .int 0, .int z5, .int (nI z41)]))] H := hP
    have hD : va_D A [(sh, .inr (11, [.ref sb])), (a, .inl (cB, m, .inl f42)), (sb, .inr (1, [.ref a, .int 0, .int z5, .int (nI z41)]))] := hD
    refine W.widen (k := 0) (n := 0) (by omega) (by omega) ?_
    have hP9 := hP.sub (ws' := [(sh, .inr (11, [.ref sb])), (sb, .inr (1, [.ref a, .int 0, .int z5, .int (nI z41)])), (a, .inl (cB, m, .inl f42))]) [0, 2, 1] rfl
    have hD9 := hD.sub (ws' := [(sh, .inr (11, [.ref sb])), (sb, .inr (1, [.ref a, .int 0, .int z5, .int (nI z41)])), (a, .inl (cB, m, .inl f42))]) [0, 2, 1] (by decide) rfl
    refine W.widen (k := 9) (n := 306) (by omega) (by omega) ?_
    exact W.iret (v := (nI z41)) hx hb hr (fun t ht9 hW => ⟨⟨(nI z41), (z41, a, m, f42, z5), rfl, ⟨(by first | assumption | omega | (dsimp only; omega) | (dsimp only; assumption) | rfl), (by first | assumption | omega | (dsimp only; omega) | (dsimp only; assumption) | rfl), (by first | assumption | omega | (dsimp only; omega) | (dsimp only; assumption) | rfl), ⟨kd, hkd, ekd, congrArg nI (by unfold lenK; rw [if_pos hk40]; omega)⟩⟩, by rw [ht9]; exact hP9, hD9⟩, hS.F ht9⟩) hS.2.2 xdX8_spell_61
set_option maxHeartbeats 16000000 in
set_option maxRecDepth 100000 in
/-- byteAt -/
theorem c_sx_byteAt (l : Launch) (dC : Nat → ClassId) (dI : Nat → Nat → Nat) (cI cB cZ cJ cR : ClassId) (tb : Nat → Nat) (sz : Nat) (sh : Nat) (sb : Nat) (a : Nat) (m : Nat) (n : Nat) (f : Nat → Int32) (mb : Int32) (x : Int32) (hm : m = 16 ∨ m = 34) (hf : sb_Fit f) (hn : n ≤ m) : Met l yX8_byteAt (Cond.code yX8_byteAt cX8_byteAt 2 (some .int) :: tw_W) ({ frames := 4, cells := 0, slots := 0, locals := 88 }) (pc_ (dC, dI) (tyS cI cB cZ cJ cR) tb [(sh, .inr (11, [.ref sb])), (sb, .inr (1, [.ref a, .int 0, .int mb, .int (nI n)])), (a, .inl (cB, m, .inl f))] sz [.ref sh, .int x]) (qi_ (dC, dI) [(sh, .inr (11, [.ref sb])), (sb, .inr (1, [.ref a, .int 0, .int mb, .int (nI n)])), (a, .inl (cB, m, .inl f))] sz (fun (r : Int32) (u : Unit) => True) (fun (u : Unit) => [(sh, .inr (11, [.ref sb])), (sb, .inr (1, [.ref a, .int 0, .int mb, .int (nI n)])), (a, .inl (cB, m, .inl f))])) 0 0 (va_A [(sh, .inr (11, [.ref sb])), (sb, .inr (1, [.ref a, .int 0, .int mb, .int (nI n)])), (a, .inl (cB, m, .inl f))] sz) := by
  refine Met.ofW (cc := cX8_byteAt) (maxL := 2) (ret := (some .int)) (by decide) rfl ?_
  intro p e s m9 args below meth c s₁ B hml hv
  obtain ⟨rfl, hsz, hP, hKK, hD0, hFx⟩ := hv
  have hK := hKK.1
  have hx := B.exec
  have hb := B.bytes
  have hr := B.returns
  have ht : ∀ w ∈ tw_W, w.before _ s = true := fun w h => atoms_spec (ws := Cond.code yX8_byteAt cX8_byteAt 2 (some .int) :: tw_W) B.pre w (List.mem_cons_of_mem _ h)
  have hown : s.vm.findClass RX8 = some m9.cls := findClass_of_methodNamed B.named
  have hlocks := B.notSynchronized
  subst hsz
  unfold qi_
  have hD := hD0.self (sz := s.heap.size)
  generalize hAe : va_A [(sh, .inr (11, [.ref sb])), (sb, .inr (1, [.ref a, .int 0, .int mb, .int (nI n)])), (a, .inl (cB, m, .inl f))] s.heap.size = A at hD hFx ⊢
  have hA : ∀ q : Nat, s.heap.size ≤ q → A q := fun q h => by rw [← hAe]; exact Or.inr h
  have hS : va_S A s.heap s.heap [] := va_S.rf
  have hP : va_P (dC, dI) vwCl [(sh, .inr (11, [.ref sb])), (sb, .inr (1, [.ref a, .int 0, .int mb, .int (nI n)])), (a, .inl (cB, m, .inl f))] s.heap := hP
  have hl := lv_entry ([.ref sh, .int x]) (n := 2) (Nat.le_of_ble_eq_true rfl)
  rw [lg_entry_eq]
  generalize (lg_sl ([.ref sh, .int x]) ++ List.replicate (2 - (lg_sl ([.ref sh, .int x])).length) Slot.unset).toArray = ls at hl ⊢
  have hl : lv_has ls 2 [(0, .ref sh), (1, .int x)] := hl
  refine lv_iload_n hx hb xdX8_byteAt_0 rfl (lv_at hl 1 rfl) ?_
  refine lv_if_lt (tgt := 26) hx hb xdX8_byteAt_1 (by decide) (fun h1 => ?_) (fun h1 => ?_)
  · refine lv_iconst (v := -1) hx hb xdX8_byteAt_26 (by decide) ?_
    have hP9 := hP.sub (ws' := [(sh, .inr (11, [.ref sb])), (sb, .inr (1, [.ref a, .int 0, .int mb, .int (nI n)])), (a, .inl (cB, m, .inl f))]) [0, 1, 2] rfl
    have hD9 := hD.sub (ws' := [(sh, .inr (11, [.ref sb])), (sb, .inr (1, [.ref a, .int 0, .int mb, .int (nI n)])), (a, .inl (cB, m, .inl f))]) [0, 1, 2] (by decide) rfl
    refine W.widen (k := 0) (n := 0) (by omega) (by omega) ?_
    exact W.iret (v := (-1)) hx hb hr (fun t ht9 hW => ⟨⟨(-1), (), rfl, trivial, by rw [ht9]; exact hP9, hD9⟩, hS.F ht9⟩) hS.2.2 xdX8_byteAt_27
  · refine lv_iload_n hx hb xdX8_byteAt_4 rfl (lv_at hl 1 rfl) ?_
    refine lv_aload_n hx hb xdX8_byteAt_5 rfl (lv_at hl 0 rfl) ?_
    refine va_get (D := (dC, dI)) (ci := 11) (v := .ref sb) (C := RX8) (T := TX8) (N := 1) hx hb ht xiX8 hown hK hP 0 rfl rfl 0 (by decide) (ht _ xw_103) (fun _ h9 => h9) rfl xdX8_byteAt_6 ?_
    refine ca_i (wr := [(sh, .inr (11, [.ref sb])), (a, .inl (cB, m, .inl f))]) (rn_V (n := 0) (As := []) (rest := [.int x]) hx hb hml hown ht hKK hFx hP hD hS hA (c_sx_len l dC dI cI cB cZ cJ cR tb s.heap.size sb a n mb) xw_132 xw_133 (by decide +kernel) rfl rfl ⟨Nat.le_of_ble_eq_true rfl, Nat.le_of_ble_eq_true rfl⟩ [1] rfl (by decide) rfl rfl rfl rfl hl.1 rfl (Nat.le_of_ble_eq_true rfl) xdX8_byteAt_9 ⟨Nat.le_of_ble_eq_true rfl, Nat.le_of_ble_eq_true rfl⟩) hP hD hS hA (isC := [1]) (isR := [0, 2]) rfl rfl (by decide) (by decide) (fun r3 u H locs hw2 hP hD hS => ?_)
    subst hw2
    have hP : va_P (dC, dI) vwCl [(sh, .inr (11, [.ref sb])), (a, .inl (cB, m, .inl f)), (sb, .inr (1, [.ref a, .int 0, .int mb, .int (nI n)]))] H := hP
    have hD : va_D A [(sh, .inr (11, [.ref sb])), (a, .inl (cB, m, .inl f)), (sb, .inr (1, [.ref a, .int 0, .int mb, .int (nI n)]))] := hD
    refine W.widen (k := 0) (n := 0) (by omega) (by omega) ?_
    refine lv_icmp_ge (tgt := 26) hx hb xdX8_byteAt_12 (by decide) (fun h4 => ?_) (fun h4 => ?_)
    · refine lv_iconst (v := -1) hx hb xdX8_byteAt_26 (by decide) ?_
      have hP9 := hP.sub (ws' := [(sh, .inr (11, [.ref sb])), (sb, .inr (1, [.ref a, .int 0, .int mb, .int (nI n)])), (a, .inl (cB, m, .inl f))]) [0, 2, 1] rfl
      have hD9 := hD.sub (ws' := [(sh, .inr (11, [.ref sb])), (sb, .inr (1, [.ref a, .int 0, .int mb, .int (nI n)])), (a, .inl (cB, m, .inl f))]) [0, 2, 1] (by decide) rfl
      refine W.widen (k := 0) (n := 0) (by omega) (by omega) ?_
      exact W.iret (v := (-1)) hx hb hr (fun t ht9 hW => ⟨⟨(-1), (), rfl, trivial, by rw [ht9]; exact hP9, hD9⟩, hS.F ht9⟩) hS.2.2 xdX8_byteAt_27
    · refine lv_aload_n hx hb xdX8_byteAt_15 rfl (lv_at hl 0 rfl) ?_
      refine va_get (D := (dC, dI)) (ci := 11) (v := .ref sb) (C := RX8) (T := TX8) (N := 1) hx hb ht xiX8 hown hK hP 0 rfl rfl 0 (by decide) (ht _ xw_103) (fun _ h9 => h9) rfl xdX8_byteAt_16 ?_
      refine lv_iload_n hx hb xdX8_byteAt_19 rfl (lv_at hl 1 rfl) ?_
      have hx0 : 0 ≤ x.toInt := nlt_z rfl (show (0 : Int32).toInt = 0 by decide) h1
      have hk9 : x.toNatClampNeg < n := by have h8 := nle_z (nI_Z (n := n) (by omega)) rfl h4; have h7 := nat_z hx0; omega
      refine tp_i (y := (nI x.toNatClampNeg)) (nI_self hx0) ?_
      refine ca_i (wr := [(sh, .inr (11, [.ref sb]))]) (rn_V (n := 1) (As := [.int (nI x.toNatClampNeg)]) (rest := []) hx hb hml hown ht hKK hFx hP hD hS hA (c_sx_cAt l dC dI cI cB cZ cJ cR tb H.size sb a m n f mb x.toNatClampNeg (by first | assumption | omega | rfl | exact sb_fit0) (by first | assumption | omega | rfl | exact sb_fit0) (by first | assumption | omega | rfl | exact sb_fit0) (by first | assumption | omega | rfl | exact sb_fit0)) xw_138 xw_139 (by decide +kernel) rfl rfl ⟨Nat.le_of_ble_eq_true rfl, Nat.le_of_ble_eq_true rfl⟩ [2, 1] rfl (by decide) rfl rfl rfl rfl hl.1 rfl (Nat.le_of_ble_eq_true rfl) xdX8_byteAt_20 ⟨Nat.le_of_ble_eq_true rfl, Nat.le_of_ble_eq_true rfl⟩) hP hD hS hA (isC := [2, 1]) (isR := [0]) rfl rfl (by decide) (by decide) (fun r6 u H locs hw5 hP hD hS => ?_)
      have hP : va_P (dC, dI) vwCl [(sh, .inr (11, [.ref sb])), (sb, .inr (1, [.ref a, .int 0, .int mb, .int (nI n)])), (a, .inl (cB, m, .inl f))] H := hP
      have hD : va_D A [(sh, .inr (11, [.ref sb])), (sb, .inr (1, [.ref a, .int 0, .int mb, .int (nI n)])), (a, .inl (cB, m, .inl f))] := hD
      refine W.widen (k := 0) (n := 0) (by omega) (by omega) ?_
      refine lv_goto (tgt := 27) hx hb xdX8_byteAt_23 (by decide) ?_
      have hP9 := hP.sub (ws' := [(sh, .inr (11, [.ref sb])), (sb, .inr (1, [.ref a, .int 0, .int mb, .int (nI n)])), (a, .inl (cB, m, .inl f))]) [0, 1, 2] rfl
      have hD9 := hD.sub (ws' := [(sh, .inr (11, [.ref sb])), (sb, .inr (1, [.ref a, .int 0, .int mb, .int (nI n)])), (a, .inl (cB, m, .inl f))]) [0, 1, 2] (by decide) rfl
      refine W.widen (k := 0) (n := 0) (by omega) (by omega) ?_
      exact W.iret (v := r6) hx hb hr (fun t ht9 hW => ⟨⟨r6, (), rfl, trivial, by rw [ht9]; exact hP9, hD9⟩, hS.F ht9⟩) hS.2.2 xdX8_byteAt_27
set_option maxHeartbeats 16000000 in
set_option maxRecDepth 100000 in
/-- show -/
theorem c_sx_show (l : Launch) (dC : Nat → ClassId) (dI : Nat → Nat → Nat) (cI cB cZ cJ cR : ClassId) (tb : Nat → Nat) (sz : Nat) (o0 : Nat) (q1 : Nat) (x1 : Int32) (q2 : Nat) (q3 : Nat) (q4 : Nat) (q5 : Nat) (x6 : Int32) (x7 : Int32) (q8 : Nat) (q9 : Nat) (q10 : Nat) (sh : Nat) (sb : Nat) (a : Nat) (m : Nat) (n : Nat) (f : Nat → Int32) (mb : Int32) (w : Int32) (hm : m = 16 ∨ m = 34) (hf : sb_Fit f) (hq0 : n ≤ 34) : Met l yX11_show (Cond.code yX11_show cX11_show 2 (some .int) :: tw_W) ({ frames := 11, cells := 9, slots := 306, locals := 243 }) (pc_ (dC, dI) (tyS cI cB cZ cJ cR) tb [(o0, .inr (14, [.ref q1, .int x1, .ref q2, .ref q3, .ref q4, .ref q5, .int x6, .int x7, .ref q8, .ref q9, .ref q10, .ref sh])), (sh, .inr (11, [.ref sb])), (sb, .inr (1, [.ref a, .int 0, .int mb, .int (nI n)])), (a, .inl (cB, m, .inl f))] sz [.ref o0, .int w]) (qi_ (dC, dI) [(o0, .inr (14, [.ref q1, .int x1, .ref q2, .ref q3, .ref q4, .ref q5, .int x6, .int x7, .ref q8, .ref q9, .ref q10, .ref sh])), (sh, .inr (11, [.ref sb])), (sb, .inr (1, [.ref a, .int 0, .int mb, .int (nI n)])), (a, .inl (cB, m, .inl f))] sz (fun (r : Int32) (u : Nat × Nat × Nat × (Nat → Int32) × Int32) => (u.2.2.1 = 16 ∨ u.2.2.1 = 34) ∧ u.1 ≤ u.2.2.1 ∧ sb_Fit u.2.2.2.1 ∧ ∃ kd : Nat, kd ≤ 40 ∧ kdI w = nI kd ∧ r = nI (lenK kd w)) (fun (u : Nat × Nat × Nat × (Nat → Int32) × Int32) => [(o0, .inr (14, [.ref q1, .int x1, .ref q2, .ref q3, .ref q4, .ref q5, .int x6, .int x7, .ref q8, .ref q9, .ref q10, .ref sh])), (sh, .inr (11, [.ref sb])), (sb, .inr (1, [.ref u.2.1, .int 0, .int u.2.2.2.2, .int (nI u.1)])), (u.2.1, .inl (cB, u.2.2.1, .inl u.2.2.2.1))])) 9 306 (va_A [(o0, .inr (14, [.ref q1, .int x1, .ref q2, .ref q3, .ref q4, .ref q5, .int x6, .int x7, .ref q8, .ref q9, .ref q10, .ref sh])), (sh, .inr (11, [.ref sb])), (sb, .inr (1, [.ref a, .int 0, .int mb, .int (nI n)])), (a, .inl (cB, m, .inl f))] sz) := by
  refine Met.ofW (cc := cX11_show) (maxL := 2) (ret := (some .int)) (by decide) rfl ?_
  intro p e s m9 args below meth c s₁ B hml hv
  obtain ⟨rfl, hsz, hP, hKK, hD0, hFx⟩ := hv
  have hK := hKK.1
  have hx := B.exec
  have hb := B.bytes
  have hr := B.returns
  have ht : ∀ w ∈ tw_W, w.before _ s = true := fun w h => atoms_spec (ws := Cond.code yX11_show cX11_show 2 (some .int) :: tw_W) B.pre w (List.mem_cons_of_mem _ h)
  have hown : s.vm.findClass RX11 = some m9.cls := findClass_of_methodNamed B.named
  have hlocks := B.notSynchronized
  subst hsz
  unfold qi_
  have hD := hD0.self (sz := s.heap.size)
  generalize hAe : va_A [(o0, .inr (14, [.ref q1, .int x1, .ref q2, .ref q3, .ref q4, .ref q5, .int x6, .int x7, .ref q8, .ref q9, .ref q10, .ref sh])), (sh, .inr (11, [.ref sb])), (sb, .inr (1, [.ref a, .int 0, .int mb, .int (nI n)])), (a, .inl (cB, m, .inl f))] s.heap.size = A at hD hFx ⊢
  have hA : ∀ q : Nat, s.heap.size ≤ q → A q := fun q h => by rw [← hAe]; exact Or.inr h
  have hS : va_S A s.heap s.heap [] := va_S.rf
  have hP : va_P (dC, dI) vwCl [(o0, .inr (14, [.ref q1, .int x1, .ref q2, .ref q3, .ref q4, .ref q5, .int x6, .int x7, .ref q8, .ref q9, .ref q10, .ref sh])), (sh, .inr (11, [.ref sb])), (sb, .inr (1, [.ref a, .int 0, .int mb, .int (nI n)])), (a, .inl (cB, m, .inl f))] s.heap := hP
  have hl := lv_entry ([.ref o0, .int w]) (n := 2) (Nat.le_of_ble_eq_true rfl)
  rw [lg_entry_eq]
  generalize (lg_sl ([.ref o0, .int w]) ++ List.replicate (2 - (lg_sl ([.ref o0, .int w])).length) Slot.unset).toArray = ls at hl ⊢
  have hl : lv_has ls 2 [(0, .ref o0), (1, .int w)] := hl
  refine lv_aload_n hx hb xdX11_show_0 rfl (lv_at hl 0 rfl) ?_
  refine va_get (D := (dC, dI)) (ci := 14) (v := .ref sh) (C := RX11) (T := TX11) (N := 12) hx hb ht xiX11 hown hK hP 0 rfl rfl 11 (by decide) (ht _ xw_140) (fun _ h9 => h9) rfl xdX11_show_1 ?_
  refine lv_iload_n hx hb xdX11_show_4 rfl (lv_at hl 1 rfl) ?_
  refine ca_i (wr := [(o0, .inr (14, [.ref q1, .int x1, .ref q2, .ref q3, .ref q4, .ref q5, .int x6, .int x7, .ref q8, .ref q9, .ref q10, .ref sh]))]) (rn_V (n := 1) (As := [.int w]) (rest := []) hx hb hml hown ht hKK hFx hP hD hS hA (c_sx_spell l dC dI cI cB cZ cJ cR tb s.heap.size sh sb a m n f mb w (by first | assumption | omega | rfl | exact sb_fit0) (by first | assumption | omega | rfl | exact sb_fit0) (by first | assumption | omega | rfl | exact sb_fit0)) xw_141 xw_142 (by decide +kernel) rfl rfl ⟨Nat.le_of_ble_eq_true rfl, Nat.le_of_ble_eq_true rfl⟩ [1, 2, 3] rfl (by decide) rfl rfl rfl rfl hl.1 rfl (Nat.le_of_ble_eq_true rfl) xdX11_show_5 ⟨Nat.le_of_ble_eq_true rfl, Nat.le_of_ble_eq_true rfl⟩) hP hD hS hA (isC := [1, 2, 3]) (isR := [0]) rfl rfl (by decide) (by decide) (fun r2 u H locs hw1 hP hD hS => ?_)
  obtain ⟨z3, z4, z5, f6, z7⟩ := u
  obtain ⟨g8, g9, g10, g11⟩ := hw1
  have g8 : z5 = 16 ∨ z5 = 34 := g8
  have g9 : z3 ≤ z5 := g9
  have g10 : sb_Fit f6 := g10
  have g11 : ∃ kd : Nat, kd ≤ 40 ∧ kdI w = nI kd ∧ r2 = nI (lenK kd w) := g11
  have hP : va_P (dC, dI) vwCl [(o0, .inr (14, [.ref q1, .int x1, .ref q2, .ref q3, .ref q4, .ref q5, .int x6, .int x7, .ref q8, .ref q9, .ref q10, .ref sh])), (sh, .inr (11, [.ref sb])), (sb, .inr (1, [.ref z4, .int 0, .int z7, .int (nI z3)])), (z4, .inl (cB, z5, .inl f6))] H := hP
  have hD : va_D A [(o0, .inr (14, [.ref q1, .int x1, .ref q2, .ref q3, .ref q4, .ref q5, .int x6, .int x7, .ref q8, .ref q9, .ref q10, .ref sh])), (sh, .inr (11, [.ref sb])), (sb, .inr (1, [.ref z4, .int 0, .int z7, .int (nI z3)])), (z4, .inl (cB, z5, .inl f6))] := hD
  refine W.widen (k := 9) (n := 306) (by omega) (by omega) ?_
  have hP9 := hP.sub (ws' := [(o0, .inr (14, [.ref q1, .int x1, .ref q2, .ref q3, .ref q4, .ref q5, .int x6, .int x7, .ref q8, .ref q9, .ref q10, .ref sh])), (sh, .inr (11, [.ref sb])), (sb, .inr (1, [.ref z4, .int 0, .int z7, .int (nI z3)])), (z4, .inl (cB, z5, .inl f6))]) [0, 1, 2, 3] rfl
  have hD9 := hD.sub (ws' := [(o0, .inr (14, [.ref q1, .int x1, .ref q2, .ref q3, .ref q4, .ref q5, .int x6, .int x7, .ref q8, .ref q9, .ref q10, .ref sh])), (sh, .inr (11, [.ref sb])), (sb, .inr (1, [.ref z4, .int 0, .int z7, .int (nI z3)])), (z4, .inl (cB, z5, .inl f6))]) [0, 1, 2, 3] (by decide) rfl
  refine W.widen (k := 9) (n := 306) (by omega) (by omega) ?_
  exact W.iret (v := r2) hx hb hr (fun t ht9 hW => ⟨⟨r2, (z3, z4, z5, f6, z7), rfl, ⟨(by first | assumption | omega | (dsimp only; omega) | (dsimp only; assumption) | rfl), (by first | assumption | omega | (dsimp only; omega) | (dsimp only; assumption) | rfl), (by first | assumption | omega | (dsimp only; omega) | (dsimp only; assumption) | rfl), (by first | assumption | omega | (dsimp only; omega) | (dsimp only; assumption) | rfl)⟩, by rw [ht9]; exact hP9, hD9⟩, hS.F ht9⟩) hS.2.2 xdX11_show_8
set_option maxHeartbeats 16000000 in
set_option maxRecDepth 100000 in
/-- octet -/
theorem c_sx_octet (l : Launch) (dC : Nat → ClassId) (dI : Nat → Nat → Nat) (cI cB cZ cJ cR : ClassId) (tb : Nat → Nat) (sz : Nat) (o0 : Nat) (q1 : Nat) (x1 : Int32) (q2 : Nat) (q3 : Nat) (q4 : Nat) (q5 : Nat) (x6 : Int32) (x7 : Int32) (q8 : Nat) (q9 : Nat) (q10 : Nat) (sh : Nat) (sb : Nat) (a : Nat) (m : Nat) (n : Nat) (f : Nat → Int32) (mb : Int32) (x : Int32) (hm : m = 16 ∨ m = 34) (hf : sb_Fit f) (hn : n ≤ m) : Met l yX11_octet (Cond.code yX11_octet cX11_octet 2 (some .int) :: tw_W) ({ frames := 5, cells := 0, slots := 0, locals := 109 }) (pc_ (dC, dI) (tyS cI cB cZ cJ cR) tb [(o0, .inr (14, [.ref q1, .int x1, .ref q2, .ref q3, .ref q4, .ref q5, .int x6, .int x7, .ref q8, .ref q9, .ref q10, .ref sh])), (sh, .inr (11, [.ref sb])), (sb, .inr (1, [.ref a, .int 0, .int mb, .int (nI n)])), (a, .inl (cB, m, .inl f))] sz [.ref o0, .int x]) (qi_ (dC, dI) [(o0, .inr (14, [.ref q1, .int x1, .ref q2, .ref q3, .ref q4, .ref q5, .int x6, .int x7, .ref q8, .ref q9, .ref q10, .ref sh])), (sh, .inr (11, [.ref sb])), (sb, .inr (1, [.ref a, .int 0, .int mb, .int (nI n)])), (a, .inl (cB, m, .inl f))] sz (fun (r : Int32) (u : Unit) => True) (fun (u : Unit) => [(o0, .inr (14, [.ref q1, .int x1, .ref q2, .ref q3, .ref q4, .ref q5, .int x6, .int x7, .ref q8, .ref q9, .ref q10, .ref sh])), (sh, .inr (11, [.ref sb])), (sb, .inr (1, [.ref a, .int 0, .int mb, .int (nI n)])), (a, .inl (cB, m, .inl f))])) 0 0 (va_A [(o0, .inr (14, [.ref q1, .int x1, .ref q2, .ref q3, .ref q4, .ref q5, .int x6, .int x7, .ref q8, .ref q9, .ref q10, .ref sh])), (sh, .inr (11, [.ref sb])), (sb, .inr (1, [.ref a, .int 0, .int mb, .int (nI n)])), (a, .inl (cB, m, .inl f))] sz) := by
  refine Met.ofW (cc := cX11_octet) (maxL := 2) (ret := (some .int)) (by decide) rfl ?_
  intro p e s m9 args below meth c s₁ B hml hv
  obtain ⟨rfl, hsz, hP, hKK, hD0, hFx⟩ := hv
  have hK := hKK.1
  have hx := B.exec
  have hb := B.bytes
  have hr := B.returns
  have ht : ∀ w ∈ tw_W, w.before _ s = true := fun w h => atoms_spec (ws := Cond.code yX11_octet cX11_octet 2 (some .int) :: tw_W) B.pre w (List.mem_cons_of_mem _ h)
  have hown : s.vm.findClass RX11 = some m9.cls := findClass_of_methodNamed B.named
  have hlocks := B.notSynchronized
  subst hsz
  unfold qi_
  have hD := hD0.self (sz := s.heap.size)
  generalize hAe : va_A [(o0, .inr (14, [.ref q1, .int x1, .ref q2, .ref q3, .ref q4, .ref q5, .int x6, .int x7, .ref q8, .ref q9, .ref q10, .ref sh])), (sh, .inr (11, [.ref sb])), (sb, .inr (1, [.ref a, .int 0, .int mb, .int (nI n)])), (a, .inl (cB, m, .inl f))] s.heap.size = A at hD hFx ⊢
  have hA : ∀ q : Nat, s.heap.size ≤ q → A q := fun q h => by rw [← hAe]; exact Or.inr h
  have hS : va_S A s.heap s.heap [] := va_S.rf
  have hP : va_P (dC, dI) vwCl [(o0, .inr (14, [.ref q1, .int x1, .ref q2, .ref q3, .ref q4, .ref q5, .int x6, .int x7, .ref q8, .ref q9, .ref q10, .ref sh])), (sh, .inr (11, [.ref sb])), (sb, .inr (1, [.ref a, .int 0, .int mb, .int (nI n)])), (a, .inl (cB, m, .inl f))] s.heap := hP
  have hl := lv_entry ([.ref o0, .int x]) (n := 2) (Nat.le_of_ble_eq_true rfl)
  rw [lg_entry_eq]
  generalize (lg_sl ([.ref o0, .int x]) ++ List.replicate (2 - (lg_sl ([.ref o0, .int x])).length) Slot.unset).toArray = ls at hl ⊢
  have hl : lv_has ls 2 [(0, .ref o0), (1, .int x)] := hl
  refine lv_aload_n hx hb xdX11_octet_0 rfl (lv_at hl 0 rfl) ?_
  refine va_get (D := (dC, dI)) (ci := 14) (v := .ref sh) (C := RX11) (T := TX11) (N := 12) hx hb ht xiX11 hown hK hP 0 rfl rfl 11 (by decide) (ht _ xw_140) (fun _ h9 => h9) rfl xdX11_octet_1 ?_
  refine lv_iload_n hx hb xdX11_octet_4 rfl (lv_at hl 1 rfl) ?_
  refine ca_i (wr := [(o0, .inr (14, [.ref q1, .int x1, .ref q2, .ref q3, .ref q4, .ref q5, .int x6, .int x7, .ref q8, .ref q9, .ref q10, .ref sh]))]) (rn_V (n := 1) (As := [.int x]) (rest := []) hx hb hml hown ht hKK hFx hP hD hS hA (c_sx_byteAt l dC dI cI cB cZ cJ cR tb s.heap.size sh sb a m n f mb x (by first | assumption | omega | rfl | exact sb_fit0) (by first | assumption | omega | rfl | exact sb_fit0) (by first | assumption | omega | rfl | exact sb_fit0)) xw_143 xw_144 (by decide +kernel) rfl rfl ⟨Nat.le_of_ble_eq_true rfl, Nat.le_of_ble_eq_true rfl⟩ [1, 2, 3] rfl (by decide) rfl rfl rfl rfl hl.1 rfl (Nat.le_of_ble_eq_true rfl) xdX11_octet_5 ⟨Nat.le_of_ble_eq_true rfl, Nat.le_of_ble_eq_true rfl⟩) hP hD hS hA (isC := [1, 2, 3]) (isR := [0]) rfl rfl (by decide) (by decide) (fun r2 u H locs hw1 hP hD hS => ?_)
  have hP : va_P (dC, dI) vwCl [(o0, .inr (14, [.ref q1, .int x1, .ref q2, .ref q3, .ref q4, .ref q5, .int x6, .int x7, .ref q8, .ref q9, .ref q10, .ref sh])), (sh, .inr (11, [.ref sb])), (sb, .inr (1, [.ref a, .int 0, .int mb, .int (nI n)])), (a, .inl (cB, m, .inl f))] H := hP
  have hD : va_D A [(o0, .inr (14, [.ref q1, .int x1, .ref q2, .ref q3, .ref q4, .ref q5, .int x6, .int x7, .ref q8, .ref q9, .ref q10, .ref sh])), (sh, .inr (11, [.ref sb])), (sb, .inr (1, [.ref a, .int 0, .int mb, .int (nI n)])), (a, .inl (cB, m, .inl f))] := hD
  refine W.widen (k := 0) (n := 0) (by omega) (by omega) ?_
  have hP9 := hP.sub (ws' := [(o0, .inr (14, [.ref q1, .int x1, .ref q2, .ref q3, .ref q4, .ref q5, .int x6, .int x7, .ref q8, .ref q9, .ref q10, .ref sh])), (sh, .inr (11, [.ref sb])), (sb, .inr (1, [.ref a, .int 0, .int mb, .int (nI n)])), (a, .inl (cB, m, .inl f))]) [0, 1, 2, 3] rfl
  have hD9 := hD.sub (ws' := [(o0, .inr (14, [.ref q1, .int x1, .ref q2, .ref q3, .ref q4, .ref q5, .int x6, .int x7, .ref q8, .ref q9, .ref q10, .ref sh])), (sh, .inr (11, [.ref sb])), (sb, .inr (1, [.ref a, .int 0, .int mb, .int (nI n)])), (a, .inl (cB, m, .inl f))]) [0, 1, 2, 3] (by decide) rfl
  refine W.widen (k := 0) (n := 0) (by omega) (by omega) ?_
  exact W.iret (v := r2) hx hb hr (fun t ht9 hW => ⟨⟨r2, (), rfl, trivial, by rw [ht9]; exact hP9, hD9⟩, hS.F ht9⟩) hS.2.2 xdX11_octet_8
