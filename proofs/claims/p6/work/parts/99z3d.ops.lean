theorem xdX8_addOperands_0 : decode cX8_addOperands 0 = .ok (.iload_n 2, 1) := by decide +kernel
theorem xdX8_addOperands_1 : decode cX8_addOperands 1 = .ok (.iload_n 1, 1) := by decide +kernel
theorem xdX8_addOperands_2 : decode cX8_addOperands 2 = .ok (.invokestatic 63, 3) := by decide +kernel
theorem xw_117 : (.code yX4_number cX4_number 2 (some .int) : Cond) ∈ tw_W := tw_in (t8_6 (List.mem_of_getElem? (i := 83) rfl)) rfl
theorem xw_118 : ∀ w ∈ ([.methodLink RX8 63 yX4_number, .static yX4_number, .initialized yX4_number.cls] : List Cond), w ∈ tw_W := al_c (tw_in (t8_7 (List.mem_of_getElem? (i := 211) rfl)) rfl) (al_c (tw_in (t8_6 (List.mem_of_getElem? (i := 82) rfl)) rfl) (al_c (tw_in (t8_1 (List.mem_of_getElem? (i := 29) rfl)) rfl) al_n))
theorem xdX8_addOperands_5 : decode cX8_addOperands 5 = .ok (.istore_n 3, 1) := by decide +kernel
theorem xdX8_addOperands_6 : decode cX8_addOperands 6 = .ok (.iload_n 2, 1) := by decide +kernel
theorem xdX8_addOperands_7 : decode cX8_addOperands 7 = .ok (.invokestatic 67, 3) := by decide +kernel
theorem xw_119 : (.code yX4_target cX4_target 1 (some .int) : Cond) ∈ tw_W := tw_in (t8_6 (List.mem_of_getElem? (i := 87) rfl)) rfl
theorem xw_120 : ∀ w ∈ ([.methodLink RX8 67 yX4_target, .static yX4_target, .initialized yX4_target.cls] : List Cond), w ∈ tw_W := al_c (tw_in (t8_7 (List.mem_of_getElem? (i := 212) rfl)) rfl) (al_c (tw_in (t8_6 (List.mem_of_getElem? (i := 86) rfl)) rfl) (al_c (tw_in (t8_1 (List.mem_of_getElem? (i := 29) rfl)) rfl) al_n))
theorem xdX8_addOperands_10 : decode cX8_addOperands 10 = .ok (.istore 4, 2) := by decide +kernel
theorem xdX8_addOperands_12 : decode cX8_addOperands 12 = .ok (.iload_n 2, 1) := by decide +kernel
theorem xdX8_addOperands_13 : decode cX8_addOperands 13 = .ok (.invokestatic 70, 3) := by decide +kernel
theorem xw_121 : (.code yX4_first cX4_first 1 (some .int) : Cond) ∈ tw_W := tw_in (t8_6 (List.mem_of_getElem? (i := 73) rfl)) rfl
theorem xw_122 : ∀ w ∈ ([.methodLink RX8 70 yX4_first, .static yX4_first, .initialized yX4_first.cls] : List Cond), w ∈ tw_W := al_c (tw_in (t8_7 (List.mem_of_getElem? (i := 213) rfl)) rfl) (al_c (tw_in (t8_6 (List.mem_of_getElem? (i := 72) rfl)) rfl) (al_c (tw_in (t8_1 (List.mem_of_getElem? (i := 29) rfl)) rfl) al_n))
theorem xdX8_addOperands_16 : decode cX8_addOperands 16 = .ok (.istore 5, 2) := by decide +kernel
theorem xdX8_addOperands_18 : decode cX8_addOperands 18 = .ok (.iload_n 2, 1) := by decide +kernel
theorem xdX8_addOperands_19 : decode cX8_addOperands 19 = .ok (.invokestatic 73, 3) := by decide +kernel
theorem xw_123 : ∀ w ∈ ([.methodLink RX8 73 yX4_second, .static yX4_second, .initialized yX4_second.cls] : List Cond), w ∈ tw_W := al_c (tw_in (t8_7 (List.mem_of_getElem? (i := 214) rfl)) rfl) (al_c (tw_in (t8_6 (List.mem_of_getElem? (i := 79) rfl)) rfl) (al_c (tw_in (t8_1 (List.mem_of_getElem? (i := 29) rfl)) rfl) al_n))
theorem xdX8_addOperands_22 : decode cX8_addOperands 22 = .ok (.istore 6, 2) := by decide +kernel
theorem xdX8_addOperands_24 : decode cX8_addOperands 24 = .ok (.iload_n 1, 1) := by decide +kernel
theorem xdX8_addOperands_25 : decode cX8_addOperands 25 = .ok (.ifCond .eq 8, 3) := by decide +kernel
theorem xdX8_addOperands_33 : decode cX8_addOperands 33 = .ok (.aload_n 0, 1) := by decide +kernel
theorem xdX8_addOperands_34 : decode cX8_addOperands 34 = .ok (.iload 4, 2) := by decide +kernel
theorem xdX8_addOperands_36 : decode cX8_addOperands 36 = .ok (.iload_n 3, 1) := by decide +kernel
theorem xdX8_addOperands_37 : decode cX8_addOperands 37 = .ok (.bipush 12, 2) := by decide +kernel
theorem xdX8_addOperands_39 : decode cX8_addOperands 39 = .ok (.iushr, 1) := by decide +kernel
theorem xdX8_addOperands_40 : decode cX8_addOperands 40 = .ok (.invokevirtual 76, 3) := by decide +kernel
theorem xdX8_addOperands_43 : decode cX8_addOperands 43 = .ok (.goto 173, 3) := by decide +kernel
theorem xdX8_addOperands_216 : decode cX8_addOperands 216 = .ok (.return_, 1) := by decide +kernel
theorem xdX8_addOperands_28 : decode cX8_addOperands 28 = .ok (.iload_n 1, 1) := by decide +kernel
theorem xdX8_addOperands_29 : decode cX8_addOperands 29 = .ok (.iconst 1, 1) := by decide +kernel
theorem xdX8_addOperands_30 : decode cX8_addOperands 30 = .ok (.if_icmp .ne 16, 3) := by decide +kernel
theorem xdX8_addOperands_46 : decode cX8_addOperands 46 = .ok (.iload_n 1, 1) := by decide +kernel
theorem xdX8_addOperands_47 : decode cX8_addOperands 47 = .ok (.iconst 2, 1) := by decide +kernel
theorem xdX8_addOperands_48 : decode cX8_addOperands 48 = .ok (.if_icmp .ne 13, 3) := by decide +kernel
theorem xdX8_addOperands_61 : decode cX8_addOperands 61 = .ok (.iload_n 1, 1) := by decide +kernel
theorem xdX8_addOperands_62 : decode cX8_addOperands 62 = .ok (.iconst 3, 1) := by decide +kernel
theorem xdX8_addOperands_63 : decode cX8_addOperands 63 = .ok (.if_icmp .eq 15, 3) := by decide +kernel
theorem xdX8_addOperands_78 : decode cX8_addOperands 78 = .ok (.aload_n 0, 1) := by decide +kernel
theorem xdX8_addOperands_79 : decode cX8_addOperands 79 = .ok (.iload 4, 2) := by decide +kernel
theorem xdX8_addOperands_81 : decode cX8_addOperands 81 = .ok (.iload_n 3, 1) := by decide +kernel
theorem xdX8_addOperands_82 : decode cX8_addOperands 82 = .ok (.iload 5, 2) := by decide +kernel
theorem xdX8_addOperands_84 : decode cX8_addOperands 84 = .ok (.invokevirtual 79, 3) := by decide +kernel
theorem xw_124 : (.code yX8_addReach cX8_addReach 4 none : Cond) ∈ tw_W := tw_in (t8_7 (List.mem_of_getElem? (i := 228) rfl)) rfl
theorem xw_125 : ∀ w ∈ ([.methodLink RX8 79 yX8_addReach, .instanceMethod yX8_addReach, .selects RX8 yX8_addReach yX8_addReach, .initialized RX8] : List Cond), w ∈ tw_W := al_c (tw_in (t8_7 (List.mem_of_getElem? (i := 225) rfl)) rfl) (al_c (tw_in (t8_7 (List.mem_of_getElem? (i := 227) rfl)) rfl) (al_c (tw_in (t7_6 (q := (yX8_addReach, 1)) (List.mem_of_getElem? (i := 9) rfl)) rfl) (al_c (tw_in (t8_1 (List.mem_of_getElem? (i := 3) rfl)) rfl) al_n)))
theorem xdX8_addOperands_87 : decode cX8_addOperands 87 = .ok (.goto 129, 3) := by decide +kernel
theorem xdX8_addOperands_66 : decode cX8_addOperands 66 = .ok (.iload_n 1, 1) := by decide +kernel
theorem xdX8_addOperands_67 : decode cX8_addOperands 67 = .ok (.bipush 10, 2) := by decide +kernel
theorem xdX8_addOperands_69 : decode cX8_addOperands 69 = .ok (.if_icmp .lt 21, 3) := by decide +kernel
theorem xdX8_addOperands_90 : decode cX8_addOperands 90 = .ok (.iload_n 1, 1) := by decide +kernel
theorem xdX8_addOperands_91 : decode cX8_addOperands 91 = .ok (.bipush 15, 2) := by decide +kernel
theorem xdX8_addOperands_93 : decode cX8_addOperands 93 = .ok (.if_icmp .lt 21, 3) := by decide +kernel
theorem xdX8_addOperands_114 : decode cX8_addOperands 114 = .ok (.iload_n 1, 1) := by decide +kernel
theorem xdX8_addOperands_115 : decode cX8_addOperands 115 = .ok (.bipush 9, 2) := by decide +kernel
theorem xdX8_addOperands_117 : decode cX8_addOperands 117 = .ok (.if_icmp .gt 29, 3) := by decide +kernel
theorem xdX8_addOperands_120 : decode cX8_addOperands 120 = .ok (.aload_n 0, 1) := by decide +kernel
theorem xdX8_addOperands_121 : decode cX8_addOperands 121 = .ok (.iload 5, 2) := by decide +kernel
theorem xdX8_addOperands_123 : decode cX8_addOperands 123 = .ok (.invokevirtual 83, 3) := by decide +kernel
theorem xdX8_addOperands_126 : decode cX8_addOperands 126 = .ok (.aload_n 0, 1) := by decide +kernel
theorem xdX8_addOperands_127 : decode cX8_addOperands 127 = .ok (.getfield 12, 3) := by decide +kernel
theorem xdX8_addOperands_130 : decode cX8_addOperands 130 = .ok (.ldc 86, 2) := by decide +kernel
theorem xdX8_addOperands_132 : decode cX8_addOperands 132 = .ok (.invokevirtual 58, 3) := by decide +kernel
theorem xdX8_addOperands_135 : decode cX8_addOperands 135 = .ok (.pop, 1) := by decide +kernel
theorem xdX8_addOperands_136 : decode cX8_addOperands 136 = .ok (.aload_n 0, 1) := by decide +kernel
theorem xdX8_addOperands_137 : decode cX8_addOperands 137 = .ok (.iload 6, 2) := by decide +kernel
theorem xdX8_addOperands_139 : decode cX8_addOperands 139 = .ok (.iload_n 3, 1) := by decide +kernel
theorem xdX8_addOperands_140 : decode cX8_addOperands 140 = .ok (.invokevirtual 76, 3) := by decide +kernel
theorem xdX8_addOperands_143 : decode cX8_addOperands 143 = .ok (.goto 73, 3) := by decide +kernel
theorem xdX8_addOperands_72 : decode cX8_addOperands 72 = .ok (.iload_n 1, 1) := by decide +kernel
theorem xdX8_addOperands_73 : decode cX8_addOperands 73 = .ok (.bipush 14, 2) := by decide +kernel
theorem xdX8_addOperands_75 : decode cX8_addOperands 75 = .ok (.if_icmp .gt 15, 3) := by decide +kernel
theorem xdX8_addOperands_96 : decode cX8_addOperands 96 = .ok (.iload_n 1, 1) := by decide +kernel
theorem xdX8_addOperands_97 : decode cX8_addOperands 97 = .ok (.bipush 17, 2) := by decide +kernel
theorem xdX8_addOperands_99 : decode cX8_addOperands 99 = .ok (.if_icmp .gt 15, 3) := by decide +kernel
theorem xdX8_addOperands_146 : decode cX8_addOperands 146 = .ok (.iload_n 1, 1) := by decide +kernel
theorem xdX8_addOperands_147 : decode cX8_addOperands 147 = .ok (.bipush 26, 2) := by decide +kernel
theorem xdX8_addOperands_149 : decode cX8_addOperands 149 = .ok (.if_icmp .gt 29, 3) := by decide +kernel
theorem xdX8_addOperands_178 : decode cX8_addOperands 178 = .ok (.aload_n 0, 1) := by decide +kernel
theorem xdX8_addOperands_179 : decode cX8_addOperands 179 = .ok (.iload 4, 2) := by decide +kernel
theorem xdX8_addOperands_181 : decode cX8_addOperands 181 = .ok (.invokevirtual 83, 3) := by decide +kernel
theorem xdX8_addOperands_184 : decode cX8_addOperands 184 = .ok (.aload_n 0, 1) := by decide +kernel
theorem xdX8_addOperands_185 : decode cX8_addOperands 185 = .ok (.getfield 12, 3) := by decide +kernel
theorem xdX8_addOperands_188 : decode cX8_addOperands 188 = .ok (.ldc 86, 2) := by decide +kernel
theorem xdX8_addOperands_190 : decode cX8_addOperands 190 = .ok (.invokevirtual 58, 3) := by decide +kernel
theorem xdX8_addOperands_193 : decode cX8_addOperands 193 = .ok (.pop, 1) := by decide +kernel
theorem xdX8_addOperands_194 : decode cX8_addOperands 194 = .ok (.aload_n 0, 1) := by decide +kernel
theorem xdX8_addOperands_195 : decode cX8_addOperands 195 = .ok (.iload 5, 2) := by decide +kernel
theorem xdX8_addOperands_197 : decode cX8_addOperands 197 = .ok (.invokevirtual 83, 3) := by decide +kernel
theorem xdX8_addOperands_200 : decode cX8_addOperands 200 = .ok (.aload_n 0, 1) := by decide +kernel
theorem xdX8_addOperands_201 : decode cX8_addOperands 201 = .ok (.getfield 12, 3) := by decide +kernel
theorem xdX8_addOperands_204 : decode cX8_addOperands 204 = .ok (.ldc 86, 2) := by decide +kernel
theorem xdX8_addOperands_206 : decode cX8_addOperands 206 = .ok (.invokevirtual 58, 3) := by decide +kernel
theorem xdX8_addOperands_209 : decode cX8_addOperands 209 = .ok (.pop, 1) := by decide +kernel
theorem xdX8_addOperands_210 : decode cX8_addOperands 210 = .ok (.aload_n 0, 1) := by decide +kernel
theorem xdX8_addOperands_211 : decode cX8_addOperands 211 = .ok (.iload 6, 2) := by decide +kernel
theorem xdX8_addOperands_213 : decode cX8_addOperands 213 = .ok (.invokevirtual 83, 3) := by decide +kernel
theorem xdX8_addOperands_152 : decode cX8_addOperands 152 = .ok (.aload_n 0, 1) := by decide +kernel
theorem xdX8_addOperands_153 : decode cX8_addOperands 153 = .ok (.iload 4, 2) := by decide +kernel
theorem xdX8_addOperands_155 : decode cX8_addOperands 155 = .ok (.invokevirtual 83, 3) := by decide +kernel
theorem xdX8_addOperands_158 : decode cX8_addOperands 158 = .ok (.aload_n 0, 1) := by decide +kernel
theorem xdX8_addOperands_159 : decode cX8_addOperands 159 = .ok (.getfield 12, 3) := by decide +kernel
theorem xdX8_addOperands_162 : decode cX8_addOperands 162 = .ok (.ldc 86, 2) := by decide +kernel
theorem xdX8_addOperands_164 : decode cX8_addOperands 164 = .ok (.invokevirtual 58, 3) := by decide +kernel
theorem xdX8_addOperands_167 : decode cX8_addOperands 167 = .ok (.pop, 1) := by decide +kernel
theorem xdX8_addOperands_168 : decode cX8_addOperands 168 = .ok (.aload_n 0, 1) := by decide +kernel
theorem xdX8_addOperands_169 : decode cX8_addOperands 169 = .ok (.iload 5, 2) := by decide +kernel
theorem xdX8_addOperands_171 : decode cX8_addOperands 171 = .ok (.iload_n 3, 1) := by decide +kernel
theorem xdX8_addOperands_172 : decode cX8_addOperands 172 = .ok (.invokevirtual 76, 3) := by decide +kernel
theorem xdX8_addOperands_175 : decode cX8_addOperands 175 = .ok (.goto 41, 3) := by decide +kernel
theorem xdX8_addOperands_102 : decode cX8_addOperands 102 = .ok (.aload_n 0, 1) := by decide +kernel
theorem xdX8_addOperands_103 : decode cX8_addOperands 103 = .ok (.iload 6, 2) := by decide +kernel
theorem xdX8_addOperands_105 : decode cX8_addOperands 105 = .ok (.iload_n 3, 1) := by decide +kernel
theorem xdX8_addOperands_106 : decode cX8_addOperands 106 = .ok (.iload 5, 2) := by decide +kernel
theorem xdX8_addOperands_108 : decode cX8_addOperands 108 = .ok (.invokevirtual 79, 3) := by decide +kernel
theorem xdX8_addOperands_111 : decode cX8_addOperands 111 = .ok (.goto 105, 3) := by decide +kernel
theorem xdX8_addOperands_51 : decode cX8_addOperands 51 = .ok (.aload_n 0, 1) := by decide +kernel
theorem xdX8_addOperands_52 : decode cX8_addOperands 52 = .ok (.iload 4, 2) := by decide +kernel
theorem xdX8_addOperands_54 : decode cX8_addOperands 54 = .ok (.iload_n 3, 1) := by decide +kernel
theorem xdX8_addOperands_55 : decode cX8_addOperands 55 = .ok (.invokevirtual 76, 3) := by decide +kernel
theorem xdX8_addOperands_58 : decode cX8_addOperands 58 = .ok (.goto 158, 3) := by decide +kernel
theorem xdX8_spell_0 : decode cX8_spell 0 = .ok (.iload_n 1, 1) := by decide +kernel
theorem xdX8_spell_1 : decode cX8_spell 1 = .ok (.invokestatic 26, 3) := by decide +kernel
theorem xw_126 : (.code yX4_kindOf cX4_kindOf 2 (some .int) : Cond) ∈ tw_W := tw_in (t8_6 (List.mem_of_getElem? (i := 49) rfl)) rfl
theorem xw_127 : ∀ w ∈ ([.methodLink RX8 26 yX4_kindOf, .static yX4_kindOf, .initialized yX4_kindOf.cls] : List Cond), w ∈ tw_W := al_c (tw_in (t8_6 (List.mem_of_getElem? (i := 156) rfl)) rfl) (al_c (tw_in (t8_6 (List.mem_of_getElem? (i := 48) rfl)) rfl) (al_c (tw_in (t8_1 (List.mem_of_getElem? (i := 29) rfl)) rfl) al_n))
theorem xdX8_spell_4 : decode cX8_spell 4 = .ok (.istore_n 2, 1) := by decide +kernel
theorem xdX8_spell_5 : decode cX8_spell 5 = .ok (.aload_n 0, 1) := by decide +kernel
theorem xdX8_spell_6 : decode cX8_spell 6 = .ok (.getfield 12, 3) := by decide +kernel
theorem xdX8_spell_9 : decode cX8_spell 9 = .ok (.iconst 0, 1) := by decide +kernel
theorem xdX8_spell_10 : decode cX8_spell 10 = .ok (.invokevirtual 32, 3) := by decide +kernel
theorem xw_128 : (.code yJ4_setLength_d00df cJ4_setLength_d00df 2 none : Cond) ∈ tw_W := tw_in (t8_6 (List.mem_of_getElem? (i := 160) rfl)) rfl
theorem xw_129 : ∀ w ∈ ([.methodLink RX8 32 yJ4_setLength_d00df, .instanceMethod yJ4_setLength_d00df, .selects RJ4 yJ4_setLength_d00df yJ4_setLength_d00df, .initialized RJ4] : List Cond), w ∈ tw_W := al_c (tw_in (t8_6 (List.mem_of_getElem? (i := 157) rfl)) rfl) (al_c (tw_in (t8_6 (List.mem_of_getElem? (i := 158) rfl)) rfl) (al_c (tw_in (t8_6 (List.mem_of_getElem? (i := 159) rfl)) rfl) (al_c (tw_in (t8_1 (List.mem_of_getElem? (i := 5) rfl)) rfl) al_n)))
theorem xdX8_spell_13 : decode cX8_spell 13 = .ok (.aload_n 0, 1) := by decide +kernel
theorem xdX8_spell_14 : decode cX8_spell 14 = .ok (.iload_n 2, 1) := by decide +kernel
theorem xdX8_spell_15 : decode cX8_spell 15 = .ok (.invokevirtual 36, 3) := by decide +kernel
theorem xw_130 : (.code yX8_addName cX8_addName 4 none : Cond) ∈ tw_W := tw_in (t8_7 (List.mem_of_getElem? (i := 183) rfl)) rfl
theorem xw_131 : ∀ w ∈ ([.methodLink RX8 36 yX8_addName, .instanceMethod yX8_addName, .selects RX8 yX8_addName yX8_addName, .initialized RX8] : List Cond), w ∈ tw_W := al_c (tw_in (t8_7 (List.mem_of_getElem? (i := 180) rfl)) rfl) (al_c (tw_in (t8_7 (List.mem_of_getElem? (i := 182) rfl)) rfl) (al_c (tw_in (t7_6 (q := (yX8_addName, 1)) (List.mem_of_getElem? (i := 4) rfl)) rfl) (al_c (tw_in (t8_1 (List.mem_of_getElem? (i := 3) rfl)) rfl) al_n)))
theorem xdX8_spell_18 : decode cX8_spell 18 = .ok (.iload_n 2, 1) := by decide +kernel
theorem xdX8_spell_19 : decode cX8_spell 19 = .ok (.bipush 40, 2) := by decide +kernel
theorem xdX8_spell_21 : decode cX8_spell 21 = .ok (.if_icmp .ne 11, 3) := by decide +kernel
theorem xdX8_spell_32 : decode cX8_spell 32 = .ok (.iload_n 2, 1) := by decide +kernel
theorem xdX8_spell_33 : decode cX8_spell 33 = .ok (.bipush 37, 2) := by decide +kernel
theorem xdX8_spell_35 : decode cX8_spell 35 = .ok (.if_icmp .ge 19, 3) := by decide +kernel
theorem xdX8_spell_54 : decode cX8_spell 54 = .ok (.aload_n 0, 1) := by decide +kernel
theorem xdX8_spell_55 : decode cX8_spell 55 = .ok (.getfield 12, 3) := by decide +kernel
theorem xdX8_spell_58 : decode cX8_spell 58 = .ok (.invokevirtual 18, 3) := by decide +kernel
theorem xw_132 : (.code yJ4_length_8abf5 cJ4_length_8abf5 1 (some .int) : Cond) ∈ tw_W := tw_in (t8_7 (List.mem_of_getElem? (i := 75) rfl)) rfl
theorem xw_133 : ∀ w ∈ ([.methodLink RX8 18 yJ4_length_8abf5, .instanceMethod yJ4_length_8abf5, .selects RJ4 yJ4_length_8abf5 yJ4_length_8abf5, .initialized RJ4] : List Cond), w ∈ tw_W := al_c (tw_in (t8_7 (List.mem_of_getElem? (i := 229) rfl)) rfl) (al_c (tw_in (t8_7 (List.mem_of_getElem? (i := 74) rfl)) rfl) (al_c (tw_in (t8_13 (List.mem_of_getElem? (i := 92) rfl)) rfl) (al_c (tw_in (t8_1 (List.mem_of_getElem? (i := 5) rfl)) rfl) al_n)))
theorem xdX8_spell_61 : decode cX8_spell 61 = .ok (.ireturn, 1) := by decide +kernel
theorem xdX8_spell_38 : decode cX8_spell 38 = .ok (.aload_n 0, 1) := by decide +kernel
theorem xdX8_spell_39 : decode cX8_spell 39 = .ok (.getfield 12, 3) := by decide +kernel
theorem xdX8_spell_42 : decode cX8_spell 42 = .ok (.bipush 32, 2) := by decide +kernel
theorem xdX8_spell_44 : decode cX8_spell 44 = .ok (.invokevirtual 42, 3) := by decide +kernel
theorem xdX8_spell_47 : decode cX8_spell 47 = .ok (.pop, 1) := by decide +kernel
theorem xdX8_spell_48 : decode cX8_spell 48 = .ok (.aload_n 0, 1) := by decide +kernel
theorem xdX8_spell_49 : decode cX8_spell 49 = .ok (.iload_n 2, 1) := by decide +kernel
theorem xdX8_spell_50 : decode cX8_spell 50 = .ok (.iload_n 1, 1) := by decide +kernel
theorem xdX8_spell_51 : decode cX8_spell 51 = .ok (.invokevirtual 46, 3) := by decide +kernel
theorem xw_134 : (.code yX8_addOperands cX8_addOperands 7 none : Cond) ∈ tw_W := tw_in (t8_7 (List.mem_of_getElem? (i := 210) rfl)) rfl
theorem xw_135 : ∀ w ∈ ([.methodLink RX8 46 yX8_addOperands, .instanceMethod yX8_addOperands, .selects RX8 yX8_addOperands yX8_addOperands, .initialized RX8] : List Cond), w ∈ tw_W := al_c (tw_in (t8_7 (List.mem_of_getElem? (i := 207) rfl)) rfl) (al_c (tw_in (t8_7 (List.mem_of_getElem? (i := 209) rfl)) rfl) (al_c (tw_in (t7_6 (q := (yX8_addOperands, 1)) (List.mem_of_getElem? (i := 6) rfl)) rfl) (al_c (tw_in (t8_1 (List.mem_of_getElem? (i := 3) rfl)) rfl) al_n)))
theorem xdX8_spell_24 : decode cX8_spell 24 = .ok (.aload_n 0, 1) := by decide +kernel
theorem xdX8_spell_25 : decode cX8_spell 25 = .ok (.iload_n 1, 1) := by decide +kernel
theorem xdX8_spell_26 : decode cX8_spell 26 = .ok (.invokevirtual 39, 3) := by decide +kernel
theorem xw_136 : (.code yX8_addHex cX8_addHex 3 none : Cond) ∈ tw_W := tw_in (t8_7 (List.mem_of_getElem? (i := 203) rfl)) rfl
theorem xw_137 : ∀ w ∈ ([.methodLink RX8 39 yX8_addHex, .instanceMethod yX8_addHex, .selects RX8 yX8_addHex yX8_addHex, .initialized RX8] : List Cond), w ∈ tw_W := al_c (tw_in (t8_7 (List.mem_of_getElem? (i := 200) rfl)) rfl) (al_c (tw_in (t8_7 (List.mem_of_getElem? (i := 202) rfl)) rfl) (al_c (tw_in (t7_6 (q := (yX8_addHex, 1)) (List.mem_of_getElem? (i := 5) rfl)) rfl) (al_c (tw_in (t8_1 (List.mem_of_getElem? (i := 3) rfl)) rfl) al_n)))
theorem xdX8_spell_29 : decode cX8_spell 29 = .ok (.goto 25, 3) := by decide +kernel
theorem xdX8_byteAt_0 : decode cX8_byteAt 0 = .ok (.iload_n 1, 1) := by decide +kernel
theorem xdX8_byteAt_1 : decode cX8_byteAt 1 = .ok (.ifCond .lt 25, 3) := by decide +kernel
theorem xdX8_byteAt_26 : decode cX8_byteAt 26 = .ok (.iconst (-1), 1) := by decide +kernel
theorem xdX8_byteAt_27 : decode cX8_byteAt 27 = .ok (.ireturn, 1) := by decide +kernel
theorem xdX8_byteAt_4 : decode cX8_byteAt 4 = .ok (.iload_n 1, 1) := by decide +kernel
theorem xdX8_byteAt_5 : decode cX8_byteAt 5 = .ok (.aload_n 0, 1) := by decide +kernel
theorem xdX8_byteAt_6 : decode cX8_byteAt 6 = .ok (.getfield 12, 3) := by decide +kernel
theorem xdX8_byteAt_9 : decode cX8_byteAt 9 = .ok (.invokevirtual 18, 3) := by decide +kernel
theorem xdX8_byteAt_12 : decode cX8_byteAt 12 = .ok (.if_icmp .ge 14, 3) := by decide +kernel
theorem xdX8_byteAt_15 : decode cX8_byteAt 15 = .ok (.aload_n 0, 1) := by decide +kernel
theorem xdX8_byteAt_16 : decode cX8_byteAt 16 = .ok (.getfield 12, 3) := by decide +kernel
theorem xdX8_byteAt_19 : decode cX8_byteAt 19 = .ok (.iload_n 1, 1) := by decide +kernel
theorem xdX8_byteAt_20 : decode cX8_byteAt 20 = .ok (.invokevirtual 22, 3) := by decide +kernel
theorem xw_138 : (.code yJ4_charAt_5068e cJ4_charAt_5068e 2 (some .char) : Cond) ∈ tw_W := tw_in (t8_8 (List.mem_of_getElem? (i := 1) rfl)) rfl
theorem xw_139 : ∀ w ∈ ([.methodLink RX8 22 yJ4_charAt_5068e, .instanceMethod yJ4_charAt_5068e, .selects RJ4 yJ4_charAt_5068e yJ4_charAt_5068e, .initialized RJ4] : List Cond), w ∈ tw_W := al_c (tw_in (t8_7 (List.mem_of_getElem? (i := 238) rfl)) rfl) (al_c (tw_in (t8_7 (List.mem_of_getElem? (i := 239) rfl)) rfl) (al_c (tw_in (t8_8 (List.mem_of_getElem? (i := 0) rfl)) rfl) (al_c (tw_in (t8_1 (List.mem_of_getElem? (i := 5) rfl)) rfl) al_n)))
theorem xdX8_byteAt_23 : decode cX8_byteAt 23 = .ok (.goto 4, 3) := by decide +kernel
theorem xdX11_show_0 : decode cX11_show 0 = .ok (.aload_n 0, 1) := by decide +kernel
theorem xdX11_show_1 : decode cX11_show 1 = .ok (.getfield 27, 3) := by decide +kernel
theorem xw_140 : (.fieldLink RX11 27 "PocketCompiler" "shower" "LPocketCompiler$Shower;" : Cond) ∈ tw_W := tw_in (t8_5 (List.mem_of_getElem? (i := 160) rfl)) rfl
theorem xiX11 : ∀ w ∈ wsX110, w ∈ tw_W := tw_all (by decide +kernel)
theorem xdX11_show_4 : decode cX11_show 4 = .ok (.iload_n 1, 1) := by decide +kernel
theorem xdX11_show_5 : decode cX11_show 5 = .ok (.invokevirtual 213, 3) := by decide +kernel
theorem xw_141 : (.code yX8_spell cX8_spell 3 (some .int) : Cond) ∈ tw_W := tw_in (t8_6 (List.mem_of_getElem? (i := 155) rfl)) rfl
theorem xw_142 : ∀ w ∈ ([.methodLink RX11 213 yX8_spell, .instanceMethod yX8_spell, .selects RX8 yX8_spell yX8_spell, .initialized RX8] : List Cond), w ∈ tw_W := al_c (tw_in (t8_6 (List.mem_of_getElem? (i := 152) rfl)) rfl) (al_c (tw_in (t8_6 (List.mem_of_getElem? (i := 153) rfl)) rfl) (al_c (tw_in (t8_6 (List.mem_of_getElem? (i := 154) rfl)) rfl) (al_c (tw_in (t8_1 (List.mem_of_getElem? (i := 3) rfl)) rfl) al_n)))
theorem xdX11_show_8 : decode cX11_show 8 = .ok (.ireturn, 1) := by decide +kernel
theorem xdX11_octet_0 : decode cX11_octet 0 = .ok (.aload_n 0, 1) := by decide +kernel
theorem xdX11_octet_1 : decode cX11_octet 1 = .ok (.getfield 27, 3) := by decide +kernel
theorem xdX11_octet_4 : decode cX11_octet 4 = .ok (.iload_n 1, 1) := by decide +kernel
theorem xdX11_octet_5 : decode cX11_octet 5 = .ok (.invokevirtual 216, 3) := by decide +kernel
theorem xw_143 : (.code yX8_byteAt cX8_byteAt 2 (some .int) : Cond) ∈ tw_W := tw_in (t8_7 (List.mem_of_getElem? (i := 237) rfl)) rfl
theorem xw_144 : ∀ w ∈ ([.methodLink RX11 216 yX8_byteAt, .instanceMethod yX8_byteAt, .selects RX8 yX8_byteAt yX8_byteAt, .initialized RX8] : List Cond), w ∈ tw_W := al_c (tw_in (t8_7 (List.mem_of_getElem? (i := 234) rfl)) rfl) (al_c (tw_in (t8_7 (List.mem_of_getElem? (i := 235) rfl)) rfl) (al_c (tw_in (t8_7 (List.mem_of_getElem? (i := 236) rfl)) rfl) (al_c (tw_in (t8_1 (List.mem_of_getElem? (i := 3) rfl)) rfl) al_n)))
theorem xdX11_octet_8 : decode cX11_octet 8 = .ok (.ireturn, 1) := by decide +kernel
def opX (kd : Nat) (w : Int32) : Nat := (if (nI kd) = 0 then (1 + dl (((w.toUInt32 >>> ((7 : Int32).toUInt32 &&& Int32.toUInt32 31)).toInt32) &&& 31) + 2 + dl (((nuX kd w).toUInt32 >>> ((12 : Int32).toUInt32 &&& Int32.toUInt32 31)).toInt32)) else (if (nI kd) = 1 then (1 + dl (((w.toUInt32 >>> ((7 : Int32).toUInt32 &&& Int32.toUInt32 31)).toInt32) &&& 31) + 2 + dl (((nuX kd w).toUInt32 >>> ((12 : Int32).toUInt32 &&& Int32.toUInt32 31)).toInt32)) else (if (nI kd) = 2 then (1 + dl (((w.toUInt32 >>> ((7 : Int32).toUInt32 &&& Int32.toUInt32 31)).toInt32) &&& 31) + 2 + dl (nuX kd w)) else (if (nI kd) = 3 then ((1 + dl (((w.toUInt32 >>> ((7 : Int32).toUInt32 &&& Int32.toUInt32 31)).toInt32) &&& 31) + 2 + dl (nuX kd w)) + 1 + (1 + dl (((w.toUInt32 >>> ((15 : Int32).toUInt32 &&& Int32.toUInt32 31)).toInt32) &&& 31)) + 1) else (if (nI kd) < 10 then ((1 + dl (((w.toUInt32 >>> ((15 : Int32).toUInt32 &&& Int32.toUInt32 31)).toInt32) &&& 31)) + 2 + (1 + dl (((w.toUInt32 >>> ((20 : Int32).toUInt32 &&& Int32.toUInt32 31)).toInt32) &&& 31) + 2 + dl (nuX kd w))) else (if 14 < (nI kd) then (if 17 < (nI kd) then (if 26 < (nI kd) then ((1 + dl (((w.toUInt32 >>> ((7 : Int32).toUInt32 &&& Int32.toUInt32 31)).toInt32) &&& 31)) + 2 + (1 + dl (((w.toUInt32 >>> ((15 : Int32).toUInt32 &&& Int32.toUInt32 31)).toInt32) &&& 31)) + 2 + (1 + dl (((w.toUInt32 >>> ((20 : Int32).toUInt32 &&& Int32.toUInt32 31)).toInt32) &&& 31))) else ((1 + dl (((w.toUInt32 >>> ((7 : Int32).toUInt32 &&& Int32.toUInt32 31)).toInt32) &&& 31)) + 2 + (1 + dl (((w.toUInt32 >>> ((15 : Int32).toUInt32 &&& Int32.toUInt32 31)).toInt32) &&& 31) + 2 + dl (nuX kd w)))) else ((1 + dl (((w.toUInt32 >>> ((20 : Int32).toUInt32 &&& Int32.toUInt32 31)).toInt32) &&& 31) + 2 + dl (nuX kd w)) + 1 + (1 + dl (((w.toUInt32 >>> ((15 : Int32).toUInt32 &&& Int32.toUInt32 31)).toInt32) &&& 31)) + 1)) else ((1 + dl (((w.toUInt32 >>> ((7 : Int32).toUInt32 &&& Int32.toUInt32 31)).toInt32) &&& 31) + 2 + dl (nuX kd w)) + 1 + (1 + dl (((w.toUInt32 >>> ((15 : Int32).toUInt32 &&& Int32.toUInt32 31)).toInt32) &&& 31)) + 1)))))))
def opXT (kd : Nat) (w : Int32) : List Int32 := (if (nI kd) = 0 then (pairT (((w.toUInt32 >>> ((7 : Int32).toUInt32 &&& Int32.toUInt32 31)).toInt32) &&& 31) (((nuX kd w).toUInt32 >>> ((12 : Int32).toUInt32 &&& Int32.toUInt32 31)).toInt32)) else (if (nI kd) = 1 then (pairT (((w.toUInt32 >>> ((7 : Int32).toUInt32 &&& Int32.toUInt32 31)).toInt32) &&& 31) (((nuX kd w).toUInt32 >>> ((12 : Int32).toUInt32 &&& Int32.toUInt32 31)).toInt32)) else (if (nI kd) = 2 then (pairT (((w.toUInt32 >>> ((7 : Int32).toUInt32 &&& Int32.toUInt32 31)).toInt32) &&& 31) (nuX kd w)) else (if (nI kd) = 3 then (reachT (((w.toUInt32 >>> ((7 : Int32).toUInt32 &&& Int32.toUInt32 31)).toInt32) &&& 31) (nuX kd w) (((w.toUInt32 >>> ((15 : Int32).toUInt32 &&& Int32.toUInt32 31)).toInt32) &&& 31)) else (if (nI kd) < 10 then (((rgT (((w.toUInt32 >>> ((15 : Int32).toUInt32 &&& Int32.toUInt32 31)).toInt32) &&& 31)) ++ (strT 12)) ++ (pairT (((w.toUInt32 >>> ((20 : Int32).toUInt32 &&& Int32.toUInt32 31)).toInt32) &&& 31) (nuX kd w))) else (if 14 < (nI kd) then (if 17 < (nI kd) then (if 26 < (nI kd) then (((((rgT (((w.toUInt32 >>> ((7 : Int32).toUInt32 &&& Int32.toUInt32 31)).toInt32) &&& 31)) ++ (strT 12)) ++ (rgT (((w.toUInt32 >>> ((15 : Int32).toUInt32 &&& Int32.toUInt32 31)).toInt32) &&& 31))) ++ (strT 12)) ++ (rgT (((w.toUInt32 >>> ((20 : Int32).toUInt32 &&& Int32.toUInt32 31)).toInt32) &&& 31))) else (((rgT (((w.toUInt32 >>> ((7 : Int32).toUInt32 &&& Int32.toUInt32 31)).toInt32) &&& 31)) ++ (strT 12)) ++ (pairT (((w.toUInt32 >>> ((15 : Int32).toUInt32 &&& Int32.toUInt32 31)).toInt32) &&& 31) (nuX kd w)))) else (reachT (((w.toUInt32 >>> ((20 : Int32).toUInt32 &&& Int32.toUInt32 31)).toInt32) &&& 31) (nuX kd w) (((w.toUInt32 >>> ((15 : Int32).toUInt32 &&& Int32.toUInt32 31)).toInt32) &&& 31))) else (reachT (((w.toUInt32 >>> ((7 : Int32).toUInt32 &&& Int32.toUInt32 31)).toInt32) &&& 31) (nuX kd w) (((w.toUInt32 >>> ((15 : Int32).toUInt32 &&& Int32.toUInt32 31)).toInt32) &&& 31))))))))
set_option maxHeartbeats 16000000 in
set_option maxRecDepth 100000 in
/-- addOperands -/
theorem c_sx_ops (l : Launch) (dC : Nat → ClassId) (dI : Nat → Nat → Nat) (cI cB cZ cJ cR : ClassId) (tb : Nat → Nat) (sz : Nat) (sh : Nat) (sb : Nat) (a : Nat) (m : Nat) (n : Nat) (f : Nat → Int32) (mb : Int32) (kd : Nat) (w : Int32) (hm : m = 16 ∨ m = 34) (hf : sb_Fit f) (h1 : kd ≤ 36) (h2 : n ≤ 7) (hnm : n ≤ m) : Met l yX8_addOperands (Cond.code yX8_addOperands cX8_addOperands 7 none :: tw_W) ({ frames := 9, cells := 8, slots := 272, locals := 195 }) (pc_ (dC, dI) (tyS cI cB cZ cJ cR) tb [(sh, .inr (11, [.ref sb])), (sb, .inr (1, [.ref a, .int 0, .int mb, .int (nI n)])), (a, .inl (cB, m, .inl f))] sz [.ref sh, .int (nI kd), .int w]) (qv_ (dC, dI) [(sh, .inr (11, [.ref sb])), (sb, .inr (1, [.ref a, .int 0, .int mb, .int (nI n)])), (a, .inl (cB, m, .inl f))] sz (fun (u : Nat × Nat × Nat × (Nat → Int32)) => u.1 = n + opX kd w ∧ (u.2.2.1 = 16 ∨ u.2.2.1 = 34) ∧ u.1 ≤ u.2.2.1 ∧ sb_Fit u.2.2.2 ∧ TA f n u.2.2.2 u.1 (opXT kd w)) (fun (u : Nat × Nat × Nat × (Nat → Int32)) => [(sh, .inr (11, [.ref sb])), (sb, .inr (1, [.ref u.2.1, .int 0, .int mb, .int (nI u.1)])), (u.2.1, .inl (cB, u.2.2.1, .inl u.2.2.2))])) 8 272 (va_A [(sh, .inr (11, [.ref sb])), (sb, .inr (1, [.ref a, .int 0, .int mb, .int (nI n)])), (a, .inl (cB, m, .inl f))] sz) := by
  refine Met.ofW (cc := cX8_addOperands) (maxL := 7) (ret := none) (by decide) rfl ?_
  intro p e s m9 args below meth c s₁ B hml hv
  obtain ⟨rfl, hsz, hP, hKK, hD0, hFx⟩ := hv
  have hK := hKK.1
  have hx := B.exec
  have hb := B.bytes
  have hr := B.returns
  have ht : ∀ w ∈ tw_W, w.before _ s = true := fun w h => atoms_spec (ws := Cond.code yX8_addOperands cX8_addOperands 7 none :: tw_W) B.pre w (List.mem_cons_of_mem _ h)
  have hown : s.vm.findClass RX8 = some m9.cls := findClass_of_methodNamed B.named
  have hlocks := B.notSynchronized
  subst hsz
  unfold qv_
  have hD := hD0.self (sz := s.heap.size)
  generalize hAe : va_A [(sh, .inr (11, [.ref sb])), (sb, .inr (1, [.ref a, .int 0, .int mb, .int (nI n)])), (a, .inl (cB, m, .inl f))] s.heap.size = A at hD hFx ⊢
  have hA : ∀ q : Nat, s.heap.size ≤ q → A q := fun q h => by rw [← hAe]; exact Or.inr h
  have hS : va_S A s.heap s.heap [] := va_S.rf
  have hP : va_P (dC, dI) vwCl [(sh, .inr (11, [.ref sb])), (sb, .inr (1, [.ref a, .int 0, .int mb, .int (nI n)])), (a, .inl (cB, m, .inl f))] s.heap := hP
  have hl := lv_entry ([.ref sh, .int (nI kd), .int w]) (n := 7) (Nat.le_of_ble_eq_true rfl)
  rw [lg_entry_eq]
  generalize (lg_sl ([.ref sh, .int (nI kd), .int w]) ++ List.replicate (7 - (lg_sl ([.ref sh, .int (nI kd), .int w])).length) Slot.unset).toArray = ls at hl ⊢
  have hl : lv_has ls 7 [(0, .ref sh), (1, .int (nI kd)), (2, .int w)] := hl
  have hl12 : lenS.getD 12 0 = 2 := by decide
  refine lv_iload_n hx hb xdX8_addOperands_0 rfl (lv_at hl 2 rfl) ?_
  refine lv_iload_n hx hb xdX8_addOperands_1 rfl (lv_at hl 1 rfl) ?_
  refine ca_i (wr := [(sh, .inr (11, [.ref sb])), (sb, .inr (1, [.ref a, .int 0, .int mb, .int (nI n)])), (a, .inl (cB, m, .inl f))]) (rn_S (n := 2) (As := [.int w, .int (nI kd)]) (rest := []) hx hb hml hown ht hKK hFx hP hD hS hA (c_sx_number l dC dI cI cB cZ cJ cR tb s.heap.size w kd) xw_117 xw_118 (by decide +kernel) rfl rfl ⟨Nat.le_of_ble_eq_true rfl, Nat.le_of_ble_eq_true rfl⟩ [] rfl (by decide) rfl hl.1 rfl (Nat.le_of_ble_eq_true rfl) xdX8_addOperands_2 ⟨Nat.le_of_ble_eq_true rfl, Nat.le_of_ble_eq_true rfl⟩) hP hD hS hA (isC := []) (isR := [0, 1, 2]) rfl rfl (by decide) (by decide) (fun r2 u H locs hw1 hP hD hS => ?_)
  subst hw1
  have hP : va_P (dC, dI) vwCl [(sh, .inr (11, [.ref sb])), (sb, .inr (1, [.ref a, .int 0, .int mb, .int (nI n)])), (a, .inl (cB, m, .inl f))] H := hP
  have hD : va_D A [(sh, .inr (11, [.ref sb])), (sb, .inr (1, [.ref a, .int 0, .int mb, .int (nI n)])), (a, .inl (cB, m, .inl f))] := hD
  refine W.widen (k := 0) (n := 0) (by omega) (by omega) ?_
  refine tp_i (y := (nuX kd w)) (rfl) ?_
  refine lv_istore_n (lv' := [(3, .int (nuX kd w)), (0, .ref sh), (1, .int (nI kd)), (2, .int w)]) hx hb xdX8_addOperands_5 rfl hl (by decide) rfl (fun ls hl => ?_)
  refine lv_iload_n hx hb xdX8_addOperands_6 rfl (lv_at hl 3 rfl) ?_
  refine ca_i (wr := [(sh, .inr (11, [.ref sb])), (sb, .inr (1, [.ref a, .int 0, .int mb, .int (nI n)])), (a, .inl (cB, m, .inl f))]) (rn_S (n := 1) (As := [.int w]) (rest := []) hx hb hml hown ht hKK hFx hP hD hS hA (c_sx_target l dC dI cI cB cZ cJ cR tb H.size w) xw_119 xw_120 (by decide +kernel) rfl rfl ⟨Nat.le_of_ble_eq_true rfl, Nat.le_of_ble_eq_true rfl⟩ [] rfl (by decide) rfl hl.1 rfl (Nat.le_of_ble_eq_true rfl) xdX8_addOperands_7 ⟨Nat.le_of_ble_eq_true rfl, Nat.le_of_ble_eq_true rfl⟩) hP hD hS hA (isC := []) (isR := [0, 1, 2]) rfl rfl (by decide) (by decide) (fun r4 u H locs hw3 hP hD hS => ?_)
  subst hw3
  have hP : va_P (dC, dI) vwCl [(sh, .inr (11, [.ref sb])), (sb, .inr (1, [.ref a, .int 0, .int mb, .int (nI n)])), (a, .inl (cB, m, .inl f))] H := hP
  have hD : va_D A [(sh, .inr (11, [.ref sb])), (sb, .inr (1, [.ref a, .int 0, .int mb, .int (nI n)])), (a, .inl (cB, m, .inl f))] := hD
  refine W.widen (k := 0) (n := 0) (by omega) (by omega) ?_
  refine lv_istore (lv' := [(4, .int (((w.toUInt32 >>> ((7 : Int32).toUInt32 &&& Int32.toUInt32 31)).toInt32) &&& 31)), (3, .int (nuX kd w)), (0, .ref sh), (1, .int (nI kd)), (2, .int w)]) hx hb xdX8_addOperands_10 hl (by decide) rfl (fun ls hl => ?_)
  refine lv_iload_n hx hb xdX8_addOperands_12 rfl (lv_at hl 4 rfl) ?_
  refine ca_i (wr := [(sh, .inr (11, [.ref sb])), (sb, .inr (1, [.ref a, .int 0, .int mb, .int (nI n)])), (a, .inl (cB, m, .inl f))]) (rn_S (n := 1) (As := [.int w]) (rest := []) hx hb hml hown ht hKK hFx hP hD hS hA (c_sx_first l dC dI cI cB cZ cJ cR tb H.size w) xw_121 xw_122 (by decide +kernel) rfl rfl ⟨Nat.le_of_ble_eq_true rfl, Nat.le_of_ble_eq_true rfl⟩ [] rfl (by decide) rfl hl.1 rfl (Nat.le_of_ble_eq_true rfl) xdX8_addOperands_13 ⟨Nat.le_of_ble_eq_true rfl, Nat.le_of_ble_eq_true rfl⟩) hP hD hS hA (isC := []) (isR := [0, 1, 2]) rfl rfl (by decide) (by decide) (fun r6 u H locs hw5 hP hD hS => ?_)
  subst hw5
  have hP : va_P (dC, dI) vwCl [(sh, .inr (11, [.ref sb])), (sb, .inr (1, [.ref a, .int 0, .int mb, .int (nI n)])), (a, .inl (cB, m, .inl f))] H := hP
  have hD : va_D A [(sh, .inr (11, [.ref sb])), (sb, .inr (1, [.ref a, .int 0, .int mb, .int (nI n)])), (a, .inl (cB, m, .inl f))] := hD
  refine W.widen (k := 0) (n := 0) (by omega) (by omega) ?_
  refine lv_istore (lv' := [(5, .int (((w.toUInt32 >>> ((15 : Int32).toUInt32 &&& Int32.toUInt32 31)).toInt32) &&& 31)), (4, .int (((w.toUInt32 >>> ((7 : Int32).toUInt32 &&& Int32.toUInt32 31)).toInt32) &&& 31)), (3, .int (nuX kd w)), (0, .ref sh), (1, .int (nI kd)), (2, .int w)]) hx hb xdX8_addOperands_16 hl (by decide) rfl (fun ls hl => ?_)
  refine lv_iload_n hx hb xdX8_addOperands_18 rfl (lv_at hl 5 rfl) ?_
  refine ca_i (wr := [(sh, .inr (11, [.ref sb])), (sb, .inr (1, [.ref a, .int 0, .int mb, .int (nI n)])), (a, .inl (cB, m, .inl f))]) (rn_S (n := 1) (As := [.int w]) (rest := []) hx hb hml hown ht hKK hFx hP hD hS hA (c_sx_second l dC dI cI cB cZ cJ cR tb H.size w) xw_101 xw_123 (by decide +kernel) rfl rfl ⟨Nat.le_of_ble_eq_true rfl, Nat.le_of_ble_eq_true rfl⟩ [] rfl (by decide) rfl hl.1 rfl (Nat.le_of_ble_eq_true rfl) xdX8_addOperands_19 ⟨Nat.le_of_ble_eq_true rfl, Nat.le_of_ble_eq_true rfl⟩) hP hD hS hA (isC := []) (isR := [0, 1, 2]) rfl rfl (by decide) (by decide) (fun r8 u H locs hw7 hP hD hS => ?_)
  subst hw7
  have hP : va_P (dC, dI) vwCl [(sh, .inr (11, [.ref sb])), (sb, .inr (1, [.ref a, .int 0, .int mb, .int (nI n)])), (a, .inl (cB, m, .inl f))] H := hP
  have hD : va_D A [(sh, .inr (11, [.ref sb])), (sb, .inr (1, [.ref a, .int 0, .int mb, .int (nI n)])), (a, .inl (cB, m, .inl f))] := hD
  refine W.widen (k := 0) (n := 0) (by omega) (by omega) ?_
  refine lv_istore (lv' := [(6, .int (((w.toUInt32 >>> ((20 : Int32).toUInt32 &&& Int32.toUInt32 31)).toInt32) &&& 31)), (5, .int (((w.toUInt32 >>> ((15 : Int32).toUInt32 &&& Int32.toUInt32 31)).toInt32) &&& 31)), (4, .int (((w.toUInt32 >>> ((7 : Int32).toUInt32 &&& Int32.toUInt32 31)).toInt32) &&& 31)), (3, .int (nuX kd w)), (0, .ref sh), (1, .int (nI kd)), (2, .int w)]) hx hb xdX8_addOperands_22 hl (by decide) rfl (fun ls hl => ?_)
  refine lv_iload_n hx hb xdX8_addOperands_24 rfl (lv_at hl 5 rfl) ?_
  refine lv_if_eq (tgt := 33) hx hb xdX8_addOperands_25 (by decide) (fun h9 => ?_) (fun h9 => ?_)
  · refine lv_aload_n hx hb xdX8_addOperands_33 rfl (lv_at hl 4 rfl) ?_
    refine lv_iload hx hb xdX8_addOperands_34 (lv_at hl 2 rfl) ?_
    refine lv_iload_n hx hb xdX8_addOperands_36 rfl (lv_at hl 3 rfl) ?_
    refine lv_bipush (v := 12) hx hb xdX8_addOperands_37 (by decide) ?_
    refine lv_iushr hx hb xdX8_addOperands_39 rfl ?_
    have hd10 := dl_31 ((w.toUInt32 >>> ((7 : Int32).toUInt32 &&& Int32.toUInt32 31)).toInt32)
    have hd11 := dl_le (((w.toUInt32 >>> ((7 : Int32).toUInt32 &&& Int32.toUInt32 31)).toInt32) &&& 31)
    have hd12 := dl_le (((nuX kd w).toUInt32 >>> ((12 : Int32).toUInt32 &&& Int32.toUInt32 31)).toInt32)
    refine ca_v (wr := []) (rn_V (n := 2) (As := [.int (((w.toUInt32 >>> ((7 : Int32).toUInt32 &&& Int32.toUInt32 31)).toInt32) &&& 31), .int (((nuX kd w).toUInt32 >>> ((12 : Int32).toUInt32 &&& Int32.toUInt32 31)).toInt32)]) (rest := []) hx hb hml hown ht hKK hFx hP hD hS hA (c_sx_pair l dC dI cI cB cZ cJ cR tb H.size sh sb a m n f mb (((w.toUInt32 >>> ((7 : Int32).toUInt32 &&& Int32.toUInt32 31)).toInt32) &&& 31) (((nuX kd w).toUInt32 >>> ((12 : Int32).toUInt32 &&& Int32.toUInt32 31)).toInt32) (by first | assumption | omega | rfl | exact sb_fit0) (by first | assumption | omega | rfl | exact sb_fit0) (by first | assumption | omega | rfl | exact sb_fit0) (by first | assumption | omega | rfl | exact sb_fit0)) xw_112 xw_113 (by decide +kernel) rfl rfl ⟨Nat.le_of_ble_eq_true rfl, Nat.le_of_ble_eq_true rfl⟩ [0, 1, 2] rfl (by decide) rfl rfl rfl rfl hl.1 rfl (Nat.le_of_ble_eq_true rfl) xdX8_addOperands_40 ⟨Nat.le_of_ble_eq_true rfl, Nat.le_of_ble_eq_true rfl⟩) hP hD hS hA (isC := [0, 1, 2]) (isR := []) rfl rfl (by decide) (by decide) (fun u H locs hw13 hP hD hS => ?_)
    obtain ⟨z15, z16, z17, f18⟩ := u
    obtain ⟨g19, g20, g21, g22, g23⟩ := hw13
    have g19 : z15 = n + (1 + dl (((w.toUInt32 >>> ((7 : Int32).toUInt32 &&& Int32.toUInt32 31)).toInt32) &&& 31) + 2 + dl (((nuX kd w).toUInt32 >>> ((12 : Int32).toUInt32 &&& Int32.toUInt32 31)).toInt32)) := g19
    have g20 : z17 = 16 ∨ z17 = 34 := g20
    have g21 : z15 ≤ z17 := g21
    have g22 : sb_Fit f18 := g22
    have g23 : TA f n f18 z15 (pairT (((w.toUInt32 >>> ((7 : Int32).toUInt32 &&& Int32.toUInt32 31)).toInt32) &&& 31) (((nuX kd w).toUInt32 >>> ((12 : Int32).toUInt32 &&& Int32.toUInt32 31)).toInt32)) := g23
    have hP : va_P (dC, dI) vwCl [(sh, .inr (11, [.ref sb])), (sb, .inr (1, [.ref z16, .int 0, .int mb, .int (nI z15)])), (z16, .inl (cB, z17, .inl f18))] H := hP
    have hD : va_D A [(sh, .inr (11, [.ref sb])), (sb, .inr (1, [.ref z16, .int 0, .int mb, .int (nI z15)])), (z16, .inl (cB, z17, .inl f18))] := hD
    refine W.widen (k := 4) (n := 136) (by omega) (by omega) ?_
    refine lv_goto (tgt := 216) hx hb xdX8_addOperands_43 (by decide) ?_
    have hP9 := hP.sub (ws' := [(sh, .inr (11, [.ref sb])), (sb, .inr (1, [.ref z16, .int 0, .int mb, .int (nI z15)])), (z16, .inl (cB, z17, .inl f18))]) [0, 1, 2] rfl
    have hD9 := hD.sub (ws' := [(sh, .inr (11, [.ref sb])), (sb, .inr (1, [.ref z16, .int 0, .int mb, .int (nI z15)])), (z16, .inl (cB, z17, .inl f18))]) [0, 1, 2] (by decide) rfl
    refine W.widen (k := 8) (n := 272) (by omega) (by omega) ?_
    exact W.vret hx hb hr (fun t ht9 hW => ⟨⟨(z15, z16, z17, f18), rfl, ⟨(by dsimp only; unfold opX; rw [if_pos h9]; omega), (by first | assumption | omega | (dsimp only; omega) | (dsimp only; assumption) | rfl), (by first | assumption | omega | (dsimp only; omega) | (dsimp only; assumption) | rfl), (by first | assumption | omega | (dsimp only; omega) | (dsimp only; assumption) | rfl), (TA.eq g23 (by unfold opXT; rw [if_pos h9]))⟩, by rw [ht9]; exact hP9, hD9⟩, hS.F ht9⟩) hS.2.2 xdX8_addOperands_216
  · refine lv_iload_n hx hb xdX8_addOperands_28 rfl (lv_at hl 5 rfl) ?_
    refine lv_iconst (v := 1) hx hb xdX8_addOperands_29 (by decide) ?_
    refine lv_icmp_ne (tgt := 46) hx hb xdX8_addOperands_30 (by decide) (fun h24 => ?_) (fun h24 => ?_)
    · refine lv_iload_n hx hb xdX8_addOperands_46 rfl (lv_at hl 5 rfl) ?_
      refine lv_iconst (v := 2) hx hb xdX8_addOperands_47 (by decide) ?_
      refine lv_icmp_ne (tgt := 61) hx hb xdX8_addOperands_48 (by decide) (fun h25 => ?_) (fun h25 => ?_)
      · refine lv_iload_n hx hb xdX8_addOperands_61 rfl (lv_at hl 5 rfl) ?_
        refine lv_iconst (v := 3) hx hb xdX8_addOperands_62 (by decide) ?_
        refine lv_icmp_eq (tgt := 78) hx hb xdX8_addOperands_63 (by decide) (fun h26 => ?_) (fun h26 => ?_)
        · refine lv_aload_n hx hb xdX8_addOperands_78 rfl (lv_at hl 4 rfl) ?_
          refine lv_iload hx hb xdX8_addOperands_79 (lv_at hl 2 rfl) ?_
          refine lv_iload_n hx hb xdX8_addOperands_81 rfl (lv_at hl 3 rfl) ?_
          refine lv_iload hx hb xdX8_addOperands_82 (lv_at hl 1 rfl) ?_
          have hd27 := dl_31 ((w.toUInt32 >>> ((7 : Int32).toUInt32 &&& Int32.toUInt32 31)).toInt32)
          have hd28 := dl_le (((w.toUInt32 >>> ((7 : Int32).toUInt32 &&& Int32.toUInt32 31)).toInt32) &&& 31)
          have hd29 := dl_le (nuX kd w)
          have hd30 := dl_31 ((w.toUInt32 >>> ((15 : Int32).toUInt32 &&& Int32.toUInt32 31)).toInt32)
          have hd31 := dl_le (((w.toUInt32 >>> ((15 : Int32).toUInt32 &&& Int32.toUInt32 31)).toInt32) &&& 31)
          refine ca_v (wr := []) (rn_V (n := 3) (As := [.int (((w.toUInt32 >>> ((7 : Int32).toUInt32 &&& Int32.toUInt32 31)).toInt32) &&& 31), .int (nuX kd w), .int (((w.toUInt32 >>> ((15 : Int32).toUInt32 &&& Int32.toUInt32 31)).toInt32) &&& 31)]) (rest := []) hx hb hml hown ht hKK hFx hP hD hS hA (c_sx_reach l dC dI cI cB cZ cJ cR tb H.size sh sb a m n f mb (((w.toUInt32 >>> ((7 : Int32).toUInt32 &&& Int32.toUInt32 31)).toInt32) &&& 31) (nuX kd w) (((w.toUInt32 >>> ((15 : Int32).toUInt32 &&& Int32.toUInt32 31)).toInt32) &&& 31) (by first | assumption | omega | rfl | exact sb_fit0) (by first | assumption | omega | rfl | exact sb_fit0) (by first | assumption | omega | rfl | exact sb_fit0) (by first | assumption | omega | rfl | exact sb_fit0)) xw_124 xw_125 (by decide +kernel) rfl rfl ⟨Nat.le_of_ble_eq_true rfl, Nat.le_of_ble_eq_true rfl⟩ [0, 1, 2] rfl (by decide) rfl rfl rfl rfl hl.1 rfl (Nat.le_of_ble_eq_true rfl) xdX8_addOperands_84 ⟨Nat.le_of_ble_eq_true rfl, Nat.le_of_ble_eq_true rfl⟩) hP hD hS hA (isC := [0, 1, 2]) (isR := []) rfl rfl (by decide) (by decide) (fun u H locs hw32 hP hD hS => ?_)
          obtain ⟨z34, z35, z36, f37⟩ := u
          obtain ⟨g38, g39, g40, g41, g42⟩ := hw32
          have g38 : z34 = n + ((1 + dl (((w.toUInt32 >>> ((7 : Int32).toUInt32 &&& Int32.toUInt32 31)).toInt32) &&& 31) + 2 + dl (nuX kd w)) + 1 + (1 + dl (((w.toUInt32 >>> ((15 : Int32).toUInt32 &&& Int32.toUInt32 31)).toInt32) &&& 31)) + 1) := g38
          have g39 : z36 = 16 ∨ z36 = 34 := g39
          have g40 : z34 ≤ z36 := g40
          have g41 : sb_Fit f37 := g41
          have g42 : TA f n f37 z34 (reachT (((w.toUInt32 >>> ((7 : Int32).toUInt32 &&& Int32.toUInt32 31)).toInt32) &&& 31) (nuX kd w) (((w.toUInt32 >>> ((15 : Int32).toUInt32 &&& Int32.toUInt32 31)).toInt32) &&& 31)) := g42
          have hP : va_P (dC, dI) vwCl [(sh, .inr (11, [.ref sb])), (sb, .inr (1, [.ref z35, .int 0, .int mb, .int (nI z34)])), (z35, .inl (cB, z36, .inl f37))] H := hP
          have hD : va_D A [(sh, .inr (11, [.ref sb])), (sb, .inr (1, [.ref z35, .int 0, .int mb, .int (nI z34)])), (z35, .inl (cB, z36, .inl f37))] := hD
          refine W.widen (k := 8) (n := 272) (by omega) (by omega) ?_
          refine lv_goto (tgt := 216) hx hb xdX8_addOperands_87 (by decide) ?_
          have hP9 := hP.sub (ws' := [(sh, .inr (11, [.ref sb])), (sb, .inr (1, [.ref z35, .int 0, .int mb, .int (nI z34)])), (z35, .inl (cB, z36, .inl f37))]) [0, 1, 2] rfl
          have hD9 := hD.sub (ws' := [(sh, .inr (11, [.ref sb])), (sb, .inr (1, [.ref z35, .int 0, .int mb, .int (nI z34)])), (z35, .inl (cB, z36, .inl f37))]) [0, 1, 2] (by decide) rfl
          refine W.widen (k := 8) (n := 272) (by omega) (by omega) ?_
          exact W.vret hx hb hr (fun t ht9 hW => ⟨⟨(z34, z35, z36, f37), rfl, ⟨(by dsimp only; unfold opX; rw [if_neg h9, if_neg h24, if_neg h25, if_pos h26]; omega), (by first | assumption | omega | (dsimp only; omega) | (dsimp only; assumption) | rfl), (by first | assumption | omega | (dsimp only; omega) | (dsimp only; assumption) | rfl), (by first | assumption | omega | (dsimp only; omega) | (dsimp only; assumption) | rfl), (TA.eq g42 (by unfold opXT; rw [if_neg h9, if_neg h24, if_neg h25, if_pos h26]))⟩, by rw [ht9]; exact hP9, hD9⟩, hS.F ht9⟩) hS.2.2 xdX8_addOperands_216
        · refine lv_iload_n hx hb xdX8_addOperands_66 rfl (lv_at hl 5 rfl) ?_
          refine lv_bipush (v := 10) hx hb xdX8_addOperands_67 (by decide) ?_
          refine lv_icmp_lt (tgt := 90) hx hb xdX8_addOperands_69 (by decide) (fun h43 => ?_) (fun h43 => ?_)
          · refine lv_iload_n hx hb xdX8_addOperands_90 rfl (lv_at hl 5 rfl) ?_
            refine lv_bipush (v := 15) hx hb xdX8_addOperands_91 (by decide) ?_
            refine lv_icmp_lt (tgt := 114) hx hb xdX8_addOperands_93 (by decide) (fun _ => ?_) (fun k44 => False.elim (by rw [← Int32.toInt_inj] at h9; rw [← Int32.toInt_inj] at h24; rw [← Int32.toInt_inj] at h25; rw [← Int32.toInt_inj] at h26; rw [Int32.lt_iff_toInt_lt] at h43; rw [Int32.lt_iff_toInt_lt] at k44; have : (0 : Int32).toInt = 0 := (by decide); have : (1 : Int32).toInt = 1 := (by decide); have : (2 : Int32).toInt = 2 := (by decide); have : (3 : Int32).toInt = 3 := (by decide); have : (10 : Int32).toInt = 10 := (by decide); have : (15 : Int32).toInt = 15 := (by decide); omega))
            refine lv_iload_n hx hb xdX8_addOperands_114 rfl (lv_at hl 5 rfl) ?_
            refine lv_bipush (v := 9) hx hb xdX8_addOperands_115 (by decide) ?_
            refine lv_icmp_gt (tgt := 146) hx hb xdX8_addOperands_117 (by decide) (fun k45 => False.elim (by rw [← Int32.toInt_inj] at h9; rw [← Int32.toInt_inj] at h24; rw [← Int32.toInt_inj] at h25; rw [← Int32.toInt_inj] at h26; rw [Int32.lt_iff_toInt_lt] at h43; rw [Int32.lt_iff_toInt_lt] at k45; have : (0 : Int32).toInt = 0 := (by decide); have : (1 : Int32).toInt = 1 := (by decide); have : (2 : Int32).toInt = 2 := (by decide); have : (3 : Int32).toInt = 3 := (by decide); have : (9 : Int32).toInt = 9 := (by decide); have : (10 : Int32).toInt = 10 := (by decide); omega)) (fun _ => ?_)
            refine lv_aload_n hx hb xdX8_addOperands_120 rfl (lv_at hl 4 rfl) ?_
            refine lv_iload hx hb xdX8_addOperands_121 (lv_at hl 1 rfl) ?_
            have hd46 := dl_31 ((w.toUInt32 >>> ((15 : Int32).toUInt32 &&& Int32.toUInt32 31)).toInt32)
            have hd47 := dl_le (((w.toUInt32 >>> ((15 : Int32).toUInt32 &&& Int32.toUInt32 31)).toInt32) &&& 31)
            refine ca_v (wr := []) (rn_V (n := 1) (As := [.int (((w.toUInt32 >>> ((15 : Int32).toUInt32 &&& Int32.toUInt32 31)).toInt32) &&& 31)]) (rest := []) hx hb hml hown ht hKK hFx hP hD hS hA (c_sx_reg l dC dI cI cB cZ cJ cR tb H.size sh sb a m n f mb (((w.toUInt32 >>> ((15 : Int32).toUInt32 &&& Int32.toUInt32 31)).toInt32) &&& 31) (by first | assumption | omega | rfl | exact sb_fit0) (by first | assumption | omega | rfl | exact sb_fit0) (by first | assumption | omega | rfl | exact sb_fit0) (by first | assumption | omega | rfl | exact sb_fit0)) xw_108 xw_109 (by decide +kernel) rfl rfl ⟨Nat.le_of_ble_eq_true rfl, Nat.le_of_ble_eq_true rfl⟩ [0, 1, 2] rfl (by decide) rfl rfl rfl rfl hl.1 rfl (Nat.le_of_ble_eq_true rfl) xdX8_addOperands_123 ⟨Nat.le_of_ble_eq_true rfl, Nat.le_of_ble_eq_true rfl⟩) hP hD hS hA (isC := [0, 1, 2]) (isR := []) rfl rfl (by decide) (by decide) (fun u H locs hw48 hP hD hS => ?_)
            obtain ⟨z50, z51, z52, f53⟩ := u
            obtain ⟨g54, g55, g56, g57, g58⟩ := hw48
            have g54 : z50 = n + 1 + dl (((w.toUInt32 >>> ((15 : Int32).toUInt32 &&& Int32.toUInt32 31)).toInt32) &&& 31) := g54
            have g55 : z52 = 16 ∨ z52 = 34 := g55
            have g56 : z50 ≤ z52 := g56
            have g57 : sb_Fit f53 := g57
            have g58 : TA f n f53 z50 (rgT (((w.toUInt32 >>> ((15 : Int32).toUInt32 &&& Int32.toUInt32 31)).toInt32) &&& 31)) := g58
            have hP : va_P (dC, dI) vwCl [(sh, .inr (11, [.ref sb])), (sb, .inr (1, [.ref z51, .int 0, .int mb, .int (nI z50)])), (z51, .inl (cB, z52, .inl f53))] H := hP
            have hD : va_D A [(sh, .inr (11, [.ref sb])), (sb, .inr (1, [.ref z51, .int 0, .int mb, .int (nI z50)])), (z51, .inl (cB, z52, .inl f53))] := hD
            refine W.widen (k := 2) (n := 68) (by omega) (by omega) ?_
            refine lv_aload_n hx hb xdX8_addOperands_126 rfl (lv_at hl 4 rfl) ?_
            refine va_get (D := (dC, dI)) (ci := 11) (v := .ref sb) (C := RX8) (T := TX8) (N := 1) hx hb ht xiX8 hown hK hP 0 rfl rfl 0 (by decide) (ht _ xw_103) (fun _ h9 => h9) rfl xdX8_addOperands_127 ?_
            refine va_ldcS hx hb hown (st_ hKK 12 (own := RX8) (idx := 86) (tx := ", ") (n := 12) rfl) xdX8_addOperands_130 ?_
            have hlen12 : lenS.getD 12 0 = 2 := by decide
            refine ca_r (wr := [(sh, .inr (11, [.ref sb]))]) (rn_V (n := 1) (As := [.ref (tb (100 + 12))]) (rest := []) hx hb hml hown ht hKK hFx hP hD hS hA (c_sx_asB l dC dI cI cB cZ cJ cR tb H.size sb z51 z52 z50 f53 mb 12 (by first | assumption | omega | rfl | exact sb_fit0) (by first | assumption | omega | rfl | exact sb_fit0) (by first | assumption | omega | rfl | exact sb_fit0) (by first | assumption | omega | rfl | exact sb_fit0) (by first | assumption | omega | rfl | exact sb_fit0)) xw_110 xw_111 (by decide +kernel) rfl rfl ⟨Nat.le_of_ble_eq_true rfl, Nat.le_of_ble_eq_true rfl⟩ [1, 2] rfl (by decide) rfl rfl rfl rfl hl.1 rfl (Nat.le_of_ble_eq_true rfl) xdX8_addOperands_132 ⟨Nat.le_of_ble_eq_true rfl, Nat.le_of_ble_eq_true rfl⟩) hP hD hS hA (isC := [1, 2]) (isR := [0]) rfl rfl (by decide) (by decide) (fun u H locs hw59 hP hD hS => ?_)
            obtain ⟨z61, z62, z63, f64⟩ := u
            obtain ⟨g65, g66, g67, g68, g69⟩ := hw59
            have g65 : z61 = z50 + lenS.getD 12 0 := g65
            have g66 : z63 = 16 ∨ z63 = 34 := g66
            have g67 : z61 ≤ z63 := g67
            have g68 : sb_Fit f64 := g68
            have g69 : TA f53 z50 f64 z61 (strT 12) := g69
            have hP : va_P (dC, dI) vwCl [(sh, .inr (11, [.ref sb])), (sb, .inr (1, [.ref z62, .int 0, .int mb, .int (nI z61)])), (z62, .inl (cB, z63, .inl f64))] H := hP
            have hD : va_D A [(sh, .inr (11, [.ref sb])), (sb, .inr (1, [.ref z62, .int 0, .int mb, .int (nI z61)])), (z62, .inl (cB, z63, .inl f64))] := hD
            refine W.widen (k := 3) (n := 102) (by omega) (by omega) ?_
            refine lv_pop hx hb xdX8_addOperands_135 rfl ?_
            refine lv_aload_n hx hb xdX8_addOperands_136 rfl (lv_at hl 4 rfl) ?_
            refine lv_iload hx hb xdX8_addOperands_137 (lv_at hl 0 rfl) ?_
            refine lv_iload_n hx hb xdX8_addOperands_139 rfl (lv_at hl 3 rfl) ?_
            have hd70 := dl_31 ((w.toUInt32 >>> ((20 : Int32).toUInt32 &&& Int32.toUInt32 31)).toInt32)
            have hd71 := dl_le (((w.toUInt32 >>> ((20 : Int32).toUInt32 &&& Int32.toUInt32 31)).toInt32) &&& 31)
            have hd72 := dl_le (nuX kd w)
            refine ca_v (wr := []) (rn_V (n := 2) (As := [.int (((w.toUInt32 >>> ((20 : Int32).toUInt32 &&& Int32.toUInt32 31)).toInt32) &&& 31), .int (nuX kd w)]) (rest := []) hx hb hml hown ht hKK hFx hP hD hS hA (c_sx_pair l dC dI cI cB cZ cJ cR tb H.size sh sb z62 z63 z61 f64 mb (((w.toUInt32 >>> ((20 : Int32).toUInt32 &&& Int32.toUInt32 31)).toInt32) &&& 31) (nuX kd w) (by first | assumption | omega | rfl | exact sb_fit0) (by first | assumption | omega | rfl | exact sb_fit0) (by first | assumption | omega | rfl | exact sb_fit0) (by first | assumption | omega | rfl | exact sb_fit0)) xw_112 xw_113 (by decide +kernel) rfl rfl ⟨Nat.le_of_ble_eq_true rfl, Nat.le_of_ble_eq_true rfl⟩ [0, 1, 2] rfl (by decide) rfl rfl rfl rfl hl.1 rfl (Nat.le_of_ble_eq_true rfl) xdX8_addOperands_140 ⟨Nat.le_of_ble_eq_true rfl, Nat.le_of_ble_eq_true rfl⟩) hP hD hS hA (isC := [0, 1, 2]) (isR := []) rfl rfl (by decide) (by decide) (fun u H locs hw73 hP hD hS => ?_)
            obtain ⟨z75, z76, z77, f78⟩ := u
            obtain ⟨g79, g80, g81, g82, g83⟩ := hw73
            have g79 : z75 = z61 + (1 + dl (((w.toUInt32 >>> ((20 : Int32).toUInt32 &&& Int32.toUInt32 31)).toInt32) &&& 31) + 2 + dl (nuX kd w)) := g79
            have g80 : z77 = 16 ∨ z77 = 34 := g80
            have g81 : z75 ≤ z77 := g81
            have g82 : sb_Fit f78 := g82
            have g83 : TA f64 z61 f78 z75 (pairT (((w.toUInt32 >>> ((20 : Int32).toUInt32 &&& Int32.toUInt32 31)).toInt32) &&& 31) (nuX kd w)) := g83
            have hP : va_P (dC, dI) vwCl [(sh, .inr (11, [.ref sb])), (sb, .inr (1, [.ref z76, .int 0, .int mb, .int (nI z75)])), (z76, .inl (cB, z77, .inl f78))] H := hP
            have hD : va_D A [(sh, .inr (11, [.ref sb])), (sb, .inr (1, [.ref z76, .int 0, .int mb, .int (nI z75)])), (z76, .inl (cB, z77, .inl f78))] := hD
            refine W.widen (k := 7) (n := 238) (by omega) (by omega) ?_
            refine lv_goto (tgt := 216) hx hb xdX8_addOperands_143 (by decide) ?_
            have hP9 := hP.sub (ws' := [(sh, .inr (11, [.ref sb])), (sb, .inr (1, [.ref z76, .int 0, .int mb, .int (nI z75)])), (z76, .inl (cB, z77, .inl f78))]) [0, 1, 2] rfl
            have hD9 := hD.sub (ws' := [(sh, .inr (11, [.ref sb])), (sb, .inr (1, [.ref z76, .int 0, .int mb, .int (nI z75)])), (z76, .inl (cB, z77, .inl f78))]) [0, 1, 2] (by decide) rfl
            refine W.widen (k := 8) (n := 272) (by omega) (by omega) ?_
            exact W.vret hx hb hr (fun t ht9 hW => ⟨⟨(z75, z76, z77, f78), rfl, ⟨(by dsimp only; unfold opX; rw [if_neg h9, if_neg h24, if_neg h25, if_neg h26, if_pos h43]; omega), (by first | assumption | omega | (dsimp only; omega) | (dsimp only; assumption) | rfl), (by first | assumption | omega | (dsimp only; omega) | (dsimp only; assumption) | rfl), (by first | assumption | omega | (dsimp only; omega) | (dsimp only; assumption) | rfl), (TA.eq (TA.tr (TA.tr g58 g69) g83) (by unfold opXT; rw [if_neg h9, if_neg h24, if_neg h25, if_neg h26, if_pos h43]))⟩, by rw [ht9]; exact hP9, hD9⟩, hS.F ht9⟩) hS.2.2 xdX8_addOperands_216
          · refine lv_iload_n hx hb xdX8_addOperands_72 rfl (lv_at hl 5 rfl) ?_
            refine lv_bipush (v := 14) hx hb xdX8_addOperands_73 (by decide) ?_
            refine lv_icmp_gt (tgt := 90) hx hb xdX8_addOperands_75 (by decide) (fun h84 => ?_) (fun h84 => ?_)
            · refine lv_iload_n hx hb xdX8_addOperands_90 rfl (lv_at hl 5 rfl) ?_
              refine lv_bipush (v := 15) hx hb xdX8_addOperands_91 (by decide) ?_
              refine lv_icmp_lt (tgt := 114) hx hb xdX8_addOperands_93 (by decide) (fun k85 => False.elim (by rw [← Int32.toInt_inj] at h9; rw [← Int32.toInt_inj] at h24; rw [← Int32.toInt_inj] at h25; rw [← Int32.toInt_inj] at h26; rw [Int32.lt_iff_toInt_lt] at h43; rw [Int32.lt_iff_toInt_lt] at h84; rw [Int32.lt_iff_toInt_lt] at k85; have : (0 : Int32).toInt = 0 := (by decide); have : (1 : Int32).toInt = 1 := (by decide); have : (2 : Int32).toInt = 2 := (by decide); have : (3 : Int32).toInt = 3 := (by decide); have : (10 : Int32).toInt = 10 := (by decide); have : (14 : Int32).toInt = 14 := (by decide); have : (15 : Int32).toInt = 15 := (by decide); omega)) (fun _ => ?_)
              refine lv_iload_n hx hb xdX8_addOperands_96 rfl (lv_at hl 5 rfl) ?_
              refine lv_bipush (v := 17) hx hb xdX8_addOperands_97 (by decide) ?_
              refine lv_icmp_gt (tgt := 114) hx hb xdX8_addOperands_99 (by decide) (fun h86 => ?_) (fun h86 => ?_)
              · refine lv_iload_n hx hb xdX8_addOperands_114 rfl (lv_at hl 5 rfl) ?_
                refine lv_bipush (v := 9) hx hb xdX8_addOperands_115 (by decide) ?_
                refine lv_icmp_gt (tgt := 146) hx hb xdX8_addOperands_117 (by decide) (fun _ => ?_) (fun k87 => False.elim (by rw [← Int32.toInt_inj] at h9; rw [← Int32.toInt_inj] at h24; rw [← Int32.toInt_inj] at h25; rw [← Int32.toInt_inj] at h26; rw [Int32.lt_iff_toInt_lt] at h43; rw [Int32.lt_iff_toInt_lt] at h84; rw [Int32.lt_iff_toInt_lt] at h86; rw [Int32.lt_iff_toInt_lt] at k87; have : (0 : Int32).toInt = 0 := (by decide); have : (1 : Int32).toInt = 1 := (by decide); have : (2 : Int32).toInt = 2 := (by decide); have : (3 : Int32).toInt = 3 := (by decide); have : (9 : Int32).toInt = 9 := (by decide); have : (10 : Int32).toInt = 10 := (by decide); have : (14 : Int32).toInt = 14 := (by decide); have : (17 : Int32).toInt = 17 := (by decide); omega))
                refine lv_iload_n hx hb xdX8_addOperands_146 rfl (lv_at hl 5 rfl) ?_
                refine lv_bipush (v := 26) hx hb xdX8_addOperands_147 (by decide) ?_
                refine lv_icmp_gt (tgt := 178) hx hb xdX8_addOperands_149 (by decide) (fun h88 => ?_) (fun h88 => ?_)
                · refine lv_aload_n hx hb xdX8_addOperands_178 rfl (lv_at hl 4 rfl) ?_
                  refine lv_iload hx hb xdX8_addOperands_179 (lv_at hl 2 rfl) ?_
                  have hd89 := dl_31 ((w.toUInt32 >>> ((7 : Int32).toUInt32 &&& Int32.toUInt32 31)).toInt32)
                  have hd90 := dl_le (((w.toUInt32 >>> ((7 : Int32).toUInt32 &&& Int32.toUInt32 31)).toInt32) &&& 31)
                  refine ca_v (wr := []) (rn_V (n := 1) (As := [.int (((w.toUInt32 >>> ((7 : Int32).toUInt32 &&& Int32.toUInt32 31)).toInt32) &&& 31)]) (rest := []) hx hb hml hown ht hKK hFx hP hD hS hA (c_sx_reg l dC dI cI cB cZ cJ cR tb H.size sh sb a m n f mb (((w.toUInt32 >>> ((7 : Int32).toUInt32 &&& Int32.toUInt32 31)).toInt32) &&& 31) (by first | assumption | omega | rfl | exact sb_fit0) (by first | assumption | omega | rfl | exact sb_fit0) (by first | assumption | omega | rfl | exact sb_fit0) (by first | assumption | omega | rfl | exact sb_fit0)) xw_108 xw_109 (by decide +kernel) rfl rfl ⟨Nat.le_of_ble_eq_true rfl, Nat.le_of_ble_eq_true rfl⟩ [0, 1, 2] rfl (by decide) rfl rfl rfl rfl hl.1 rfl (Nat.le_of_ble_eq_true rfl) xdX8_addOperands_181 ⟨Nat.le_of_ble_eq_true rfl, Nat.le_of_ble_eq_true rfl⟩) hP hD hS hA (isC := [0, 1, 2]) (isR := []) rfl rfl (by decide) (by decide) (fun u H locs hw91 hP hD hS => ?_)
                  obtain ⟨z93, z94, z95, f96⟩ := u
                  obtain ⟨g97, g98, g99, g100, g101⟩ := hw91
                  have g97 : z93 = n + 1 + dl (((w.toUInt32 >>> ((7 : Int32).toUInt32 &&& Int32.toUInt32 31)).toInt32) &&& 31) := g97
                  have g98 : z95 = 16 ∨ z95 = 34 := g98
                  have g99 : z93 ≤ z95 := g99
                  have g100 : sb_Fit f96 := g100
                  have g101 : TA f n f96 z93 (rgT (((w.toUInt32 >>> ((7 : Int32).toUInt32 &&& Int32.toUInt32 31)).toInt32) &&& 31)) := g101
                  have hP : va_P (dC, dI) vwCl [(sh, .inr (11, [.ref sb])), (sb, .inr (1, [.ref z94, .int 0, .int mb, .int (nI z93)])), (z94, .inl (cB, z95, .inl f96))] H := hP
                  have hD : va_D A [(sh, .inr (11, [.ref sb])), (sb, .inr (1, [.ref z94, .int 0, .int mb, .int (nI z93)])), (z94, .inl (cB, z95, .inl f96))] := hD
                  refine W.widen (k := 2) (n := 68) (by omega) (by omega) ?_
                  refine lv_aload_n hx hb xdX8_addOperands_184 rfl (lv_at hl 4 rfl) ?_
                  refine va_get (D := (dC, dI)) (ci := 11) (v := .ref sb) (C := RX8) (T := TX8) (N := 1) hx hb ht xiX8 hown hK hP 0 rfl rfl 0 (by decide) (ht _ xw_103) (fun _ h9 => h9) rfl xdX8_addOperands_185 ?_
                  refine va_ldcS hx hb hown (st_ hKK 12 (own := RX8) (idx := 86) (tx := ", ") (n := 12) rfl) xdX8_addOperands_188 ?_
                  have hlen12 : lenS.getD 12 0 = 2 := by decide
                  refine ca_r (wr := [(sh, .inr (11, [.ref sb]))]) (rn_V (n := 1) (As := [.ref (tb (100 + 12))]) (rest := []) hx hb hml hown ht hKK hFx hP hD hS hA (c_sx_asB l dC dI cI cB cZ cJ cR tb H.size sb z94 z95 z93 f96 mb 12 (by first | assumption | omega | rfl | exact sb_fit0) (by first | assumption | omega | rfl | exact sb_fit0) (by first | assumption | omega | rfl | exact sb_fit0) (by first | assumption | omega | rfl | exact sb_fit0) (by first | assumption | omega | rfl | exact sb_fit0)) xw_110 xw_111 (by decide +kernel) rfl rfl ⟨Nat.le_of_ble_eq_true rfl, Nat.le_of_ble_eq_true rfl⟩ [1, 2] rfl (by decide) rfl rfl rfl rfl hl.1 rfl (Nat.le_of_ble_eq_true rfl) xdX8_addOperands_190 ⟨Nat.le_of_ble_eq_true rfl, Nat.le_of_ble_eq_true rfl⟩) hP hD hS hA (isC := [1, 2]) (isR := [0]) rfl rfl (by decide) (by decide) (fun u H locs hw102 hP hD hS => ?_)
                  obtain ⟨z104, z105, z106, f107⟩ := u
                  obtain ⟨g108, g109, g110, g111, g112⟩ := hw102
                  have g108 : z104 = z93 + lenS.getD 12 0 := g108
                  have g109 : z106 = 16 ∨ z106 = 34 := g109
                  have g110 : z104 ≤ z106 := g110
                  have g111 : sb_Fit f107 := g111
                  have g112 : TA f96 z93 f107 z104 (strT 12) := g112
                  have hP : va_P (dC, dI) vwCl [(sh, .inr (11, [.ref sb])), (sb, .inr (1, [.ref z105, .int 0, .int mb, .int (nI z104)])), (z105, .inl (cB, z106, .inl f107))] H := hP
                  have hD : va_D A [(sh, .inr (11, [.ref sb])), (sb, .inr (1, [.ref z105, .int 0, .int mb, .int (nI z104)])), (z105, .inl (cB, z106, .inl f107))] := hD
                  refine W.widen (k := 3) (n := 102) (by omega) (by omega) ?_
                  refine lv_pop hx hb xdX8_addOperands_193 rfl ?_
                  refine lv_aload_n hx hb xdX8_addOperands_194 rfl (lv_at hl 4 rfl) ?_
                  refine lv_iload hx hb xdX8_addOperands_195 (lv_at hl 1 rfl) ?_
                  have hd113 := dl_31 ((w.toUInt32 >>> ((15 : Int32).toUInt32 &&& Int32.toUInt32 31)).toInt32)
                  have hd114 := dl_le (((w.toUInt32 >>> ((15 : Int32).toUInt32 &&& Int32.toUInt32 31)).toInt32) &&& 31)
                  refine ca_v (wr := []) (rn_V (n := 1) (As := [.int (((w.toUInt32 >>> ((15 : Int32).toUInt32 &&& Int32.toUInt32 31)).toInt32) &&& 31)]) (rest := []) hx hb hml hown ht hKK hFx hP hD hS hA (c_sx_reg l dC dI cI cB cZ cJ cR tb H.size sh sb z105 z106 z104 f107 mb (((w.toUInt32 >>> ((15 : Int32).toUInt32 &&& Int32.toUInt32 31)).toInt32) &&& 31) (by first | assumption | omega | rfl | exact sb_fit0) (by first | assumption | omega | rfl | exact sb_fit0) (by first | assumption | omega | rfl | exact sb_fit0) (by first | assumption | omega | rfl | exact sb_fit0)) xw_108 xw_109 (by decide +kernel) rfl rfl ⟨Nat.le_of_ble_eq_true rfl, Nat.le_of_ble_eq_true rfl⟩ [0, 1, 2] rfl (by decide) rfl rfl rfl rfl hl.1 rfl (Nat.le_of_ble_eq_true rfl) xdX8_addOperands_197 ⟨Nat.le_of_ble_eq_true rfl, Nat.le_of_ble_eq_true rfl⟩) hP hD hS hA (isC := [0, 1, 2]) (isR := []) rfl rfl (by decide) (by decide) (fun u H locs hw115 hP hD hS => ?_)
                  obtain ⟨z117, z118, z119, f120⟩ := u
                  obtain ⟨g121, g122, g123, g124, g125⟩ := hw115
                  have g121 : z117 = z104 + 1 + dl (((w.toUInt32 >>> ((15 : Int32).toUInt32 &&& Int32.toUInt32 31)).toInt32) &&& 31) := g121
                  have g122 : z119 = 16 ∨ z119 = 34 := g122
                  have g123 : z117 ≤ z119 := g123
                  have g124 : sb_Fit f120 := g124
                  have g125 : TA f107 z104 f120 z117 (rgT (((w.toUInt32 >>> ((15 : Int32).toUInt32 &&& Int32.toUInt32 31)).toInt32) &&& 31)) := g125
                  have hP : va_P (dC, dI) vwCl [(sh, .inr (11, [.ref sb])), (sb, .inr (1, [.ref z118, .int 0, .int mb, .int (nI z117)])), (z118, .inl (cB, z119, .inl f120))] H := hP
                  have hD : va_D A [(sh, .inr (11, [.ref sb])), (sb, .inr (1, [.ref z118, .int 0, .int mb, .int (nI z117)])), (z118, .inl (cB, z119, .inl f120))] := hD
                  refine W.widen (k := 5) (n := 170) (by omega) (by omega) ?_
                  refine lv_aload_n hx hb xdX8_addOperands_200 rfl (lv_at hl 4 rfl) ?_
                  refine va_get (D := (dC, dI)) (ci := 11) (v := .ref sb) (C := RX8) (T := TX8) (N := 1) hx hb ht xiX8 hown hK hP 0 rfl rfl 0 (by decide) (ht _ xw_103) (fun _ h9 => h9) rfl xdX8_addOperands_201 ?_
                  refine va_ldcS hx hb hown (st_ hKK 12 (own := RX8) (idx := 86) (tx := ", ") (n := 12) rfl) xdX8_addOperands_204 ?_
                  have hlen12 : lenS.getD 12 0 = 2 := by decide
                  refine ca_r (wr := [(sh, .inr (11, [.ref sb]))]) (rn_V (n := 1) (As := [.ref (tb (100 + 12))]) (rest := []) hx hb hml hown ht hKK hFx hP hD hS hA (c_sx_asB l dC dI cI cB cZ cJ cR tb H.size sb z118 z119 z117 f120 mb 12 (by first | assumption | omega | rfl | exact sb_fit0) (by first | assumption | omega | rfl | exact sb_fit0) (by first | assumption | omega | rfl | exact sb_fit0) (by first | assumption | omega | rfl | exact sb_fit0) (by first | assumption | omega | rfl | exact sb_fit0)) xw_110 xw_111 (by decide +kernel) rfl rfl ⟨Nat.le_of_ble_eq_true rfl, Nat.le_of_ble_eq_true rfl⟩ [1, 2] rfl (by decide) rfl rfl rfl rfl hl.1 rfl (Nat.le_of_ble_eq_true rfl) xdX8_addOperands_206 ⟨Nat.le_of_ble_eq_true rfl, Nat.le_of_ble_eq_true rfl⟩) hP hD hS hA (isC := [1, 2]) (isR := [0]) rfl rfl (by decide) (by decide) (fun u H locs hw126 hP hD hS => ?_)
                  obtain ⟨z128, z129, z130, f131⟩ := u
                  obtain ⟨g132, g133, g134, g135, g136⟩ := hw126
                  have g132 : z128 = z117 + lenS.getD 12 0 := g132
                  have g133 : z130 = 16 ∨ z130 = 34 := g133
                  have g134 : z128 ≤ z130 := g134
                  have g135 : sb_Fit f131 := g135
                  have g136 : TA f120 z117 f131 z128 (strT 12) := g136
                  have hP : va_P (dC, dI) vwCl [(sh, .inr (11, [.ref sb])), (sb, .inr (1, [.ref z129, .int 0, .int mb, .int (nI z128)])), (z129, .inl (cB, z130, .inl f131))] H := hP
                  have hD : va_D A [(sh, .inr (11, [.ref sb])), (sb, .inr (1, [.ref z129, .int 0, .int mb, .int (nI z128)])), (z129, .inl (cB, z130, .inl f131))] := hD
                  refine W.widen (k := 6) (n := 204) (by omega) (by omega) ?_
                  refine lv_pop hx hb xdX8_addOperands_209 rfl ?_
                  refine lv_aload_n hx hb xdX8_addOperands_210 rfl (lv_at hl 4 rfl) ?_
                  refine lv_iload hx hb xdX8_addOperands_211 (lv_at hl 0 rfl) ?_
                  have hd137 := dl_31 ((w.toUInt32 >>> ((20 : Int32).toUInt32 &&& Int32.toUInt32 31)).toInt32)
                  have hd138 := dl_le (((w.toUInt32 >>> ((20 : Int32).toUInt32 &&& Int32.toUInt32 31)).toInt32) &&& 31)
                  refine ca_v (wr := []) (rn_V (n := 1) (As := [.int (((w.toUInt32 >>> ((20 : Int32).toUInt32 &&& Int32.toUInt32 31)).toInt32) &&& 31)]) (rest := []) hx hb hml hown ht hKK hFx hP hD hS hA (c_sx_reg l dC dI cI cB cZ cJ cR tb H.size sh sb z129 z130 z128 f131 mb (((w.toUInt32 >>> ((20 : Int32).toUInt32 &&& Int32.toUInt32 31)).toInt32) &&& 31) (by first | assumption | omega | rfl | exact sb_fit0) (by first | assumption | omega | rfl | exact sb_fit0) (by first | assumption | omega | rfl | exact sb_fit0) (by first | assumption | omega | rfl | exact sb_fit0)) xw_108 xw_109 (by decide +kernel) rfl rfl ⟨Nat.le_of_ble_eq_true rfl, Nat.le_of_ble_eq_true rfl⟩ [0, 1, 2] rfl (by decide) rfl rfl rfl rfl hl.1 rfl (Nat.le_of_ble_eq_true rfl) xdX8_addOperands_213 ⟨Nat.le_of_ble_eq_true rfl, Nat.le_of_ble_eq_true rfl⟩) hP hD hS hA (isC := [0, 1, 2]) (isR := []) rfl rfl (by decide) (by decide) (fun u H locs hw139 hP hD hS => ?_)
                  obtain ⟨z141, z142, z143, f144⟩ := u
                  obtain ⟨g145, g146, g147, g148, g149⟩ := hw139
                  have g145 : z141 = z128 + 1 + dl (((w.toUInt32 >>> ((20 : Int32).toUInt32 &&& Int32.toUInt32 31)).toInt32) &&& 31) := g145
                  have g146 : z143 = 16 ∨ z143 = 34 := g146
                  have g147 : z141 ≤ z143 := g147
                  have g148 : sb_Fit f144 := g148
                  have g149 : TA f131 z128 f144 z141 (rgT (((w.toUInt32 >>> ((20 : Int32).toUInt32 &&& Int32.toUInt32 31)).toInt32) &&& 31)) := g149
                  have hP : va_P (dC, dI) vwCl [(sh, .inr (11, [.ref sb])), (sb, .inr (1, [.ref z142, .int 0, .int mb, .int (nI z141)])), (z142, .inl (cB, z143, .inl f144))] H := hP
                  have hD : va_D A [(sh, .inr (11, [.ref sb])), (sb, .inr (1, [.ref z142, .int 0, .int mb, .int (nI z141)])), (z142, .inl (cB, z143, .inl f144))] := hD
                  refine W.widen (k := 8) (n := 272) (by omega) (by omega) ?_
                  have hP9 := hP.sub (ws' := [(sh, .inr (11, [.ref sb])), (sb, .inr (1, [.ref z142, .int 0, .int mb, .int (nI z141)])), (z142, .inl (cB, z143, .inl f144))]) [0, 1, 2] rfl
                  have hD9 := hD.sub (ws' := [(sh, .inr (11, [.ref sb])), (sb, .inr (1, [.ref z142, .int 0, .int mb, .int (nI z141)])), (z142, .inl (cB, z143, .inl f144))]) [0, 1, 2] (by decide) rfl
                  refine W.widen (k := 8) (n := 272) (by omega) (by omega) ?_
                  exact W.vret hx hb hr (fun t ht9 hW => ⟨⟨(z141, z142, z143, f144), rfl, ⟨(by dsimp only; unfold opX; rw [if_neg h9, if_neg h24, if_neg h25, if_neg h26, if_neg h43, if_pos h84, if_pos h86, if_pos h88]; omega), (by first | assumption | omega | (dsimp only; omega) | (dsimp only; assumption) | rfl), (by first | assumption | omega | (dsimp only; omega) | (dsimp only; assumption) | rfl), (by first | assumption | omega | (dsimp only; omega) | (dsimp only; assumption) | rfl), (TA.eq (TA.tr (TA.tr (TA.tr (TA.tr g101 g112) g125) g136) g149) (by unfold opXT; rw [if_neg h9, if_neg h24, if_neg h25, if_neg h26, if_neg h43, if_pos h84, if_pos h86, if_pos h88]))⟩, by rw [ht9]; exact hP9, hD9⟩, hS.F ht9⟩) hS.2.2 xdX8_addOperands_216
                · refine lv_aload_n hx hb xdX8_addOperands_152 rfl (lv_at hl 4 rfl) ?_
                  refine lv_iload hx hb xdX8_addOperands_153 (lv_at hl 2 rfl) ?_
                  have hd150 := dl_31 ((w.toUInt32 >>> ((7 : Int32).toUInt32 &&& Int32.toUInt32 31)).toInt32)
                  have hd151 := dl_le (((w.toUInt32 >>> ((7 : Int32).toUInt32 &&& Int32.toUInt32 31)).toInt32) &&& 31)
                  refine ca_v (wr := []) (rn_V (n := 1) (As := [.int (((w.toUInt32 >>> ((7 : Int32).toUInt32 &&& Int32.toUInt32 31)).toInt32) &&& 31)]) (rest := []) hx hb hml hown ht hKK hFx hP hD hS hA (c_sx_reg l dC dI cI cB cZ cJ cR tb H.size sh sb a m n f mb (((w.toUInt32 >>> ((7 : Int32).toUInt32 &&& Int32.toUInt32 31)).toInt32) &&& 31) (by first | assumption | omega | rfl | exact sb_fit0) (by first | assumption | omega | rfl | exact sb_fit0) (by first | assumption | omega | rfl | exact sb_fit0) (by first | assumption | omega | rfl | exact sb_fit0)) xw_108 xw_109 (by decide +kernel) rfl rfl ⟨Nat.le_of_ble_eq_true rfl, Nat.le_of_ble_eq_true rfl⟩ [0, 1, 2] rfl (by decide) rfl rfl rfl rfl hl.1 rfl (Nat.le_of_ble_eq_true rfl) xdX8_addOperands_155 ⟨Nat.le_of_ble_eq_true rfl, Nat.le_of_ble_eq_true rfl⟩) hP hD hS hA (isC := [0, 1, 2]) (isR := []) rfl rfl (by decide) (by decide) (fun u H locs hw152 hP hD hS => ?_)
                  obtain ⟨z154, z155, z156, f157⟩ := u
                  obtain ⟨g158, g159, g160, g161, g162⟩ := hw152
                  have g158 : z154 = n + 1 + dl (((w.toUInt32 >>> ((7 : Int32).toUInt32 &&& Int32.toUInt32 31)).toInt32) &&& 31) := g158
                  have g159 : z156 = 16 ∨ z156 = 34 := g159
                  have g160 : z154 ≤ z156 := g160
                  have g161 : sb_Fit f157 := g161
                  have g162 : TA f n f157 z154 (rgT (((w.toUInt32 >>> ((7 : Int32).toUInt32 &&& Int32.toUInt32 31)).toInt32) &&& 31)) := g162
                  have hP : va_P (dC, dI) vwCl [(sh, .inr (11, [.ref sb])), (sb, .inr (1, [.ref z155, .int 0, .int mb, .int (nI z154)])), (z155, .inl (cB, z156, .inl f157))] H := hP
                  have hD : va_D A [(sh, .inr (11, [.ref sb])), (sb, .inr (1, [.ref z155, .int 0, .int mb, .int (nI z154)])), (z155, .inl (cB, z156, .inl f157))] := hD
                  refine W.widen (k := 2) (n := 68) (by omega) (by omega) ?_
                  refine lv_aload_n hx hb xdX8_addOperands_158 rfl (lv_at hl 4 rfl) ?_
                  refine va_get (D := (dC, dI)) (ci := 11) (v := .ref sb) (C := RX8) (T := TX8) (N := 1) hx hb ht xiX8 hown hK hP 0 rfl rfl 0 (by decide) (ht _ xw_103) (fun _ h9 => h9) rfl xdX8_addOperands_159 ?_
                  refine va_ldcS hx hb hown (st_ hKK 12 (own := RX8) (idx := 86) (tx := ", ") (n := 12) rfl) xdX8_addOperands_162 ?_
                  have hlen12 : lenS.getD 12 0 = 2 := by decide
                  refine ca_r (wr := [(sh, .inr (11, [.ref sb]))]) (rn_V (n := 1) (As := [.ref (tb (100 + 12))]) (rest := []) hx hb hml hown ht hKK hFx hP hD hS hA (c_sx_asB l dC dI cI cB cZ cJ cR tb H.size sb z155 z156 z154 f157 mb 12 (by first | assumption | omega | rfl | exact sb_fit0) (by first | assumption | omega | rfl | exact sb_fit0) (by first | assumption | omega | rfl | exact sb_fit0) (by first | assumption | omega | rfl | exact sb_fit0) (by first | assumption | omega | rfl | exact sb_fit0)) xw_110 xw_111 (by decide +kernel) rfl rfl ⟨Nat.le_of_ble_eq_true rfl, Nat.le_of_ble_eq_true rfl⟩ [1, 2] rfl (by decide) rfl rfl rfl rfl hl.1 rfl (Nat.le_of_ble_eq_true rfl) xdX8_addOperands_164 ⟨Nat.le_of_ble_eq_true rfl, Nat.le_of_ble_eq_true rfl⟩) hP hD hS hA (isC := [1, 2]) (isR := [0]) rfl rfl (by decide) (by decide) (fun u H locs hw163 hP hD hS => ?_)
                  obtain ⟨z165, z166, z167, f168⟩ := u
                  obtain ⟨g169, g170, g171, g172, g173⟩ := hw163
                  have g169 : z165 = z154 + lenS.getD 12 0 := g169
                  have g170 : z167 = 16 ∨ z167 = 34 := g170
                  have g171 : z165 ≤ z167 := g171
                  have g172 : sb_Fit f168 := g172
                  have g173 : TA f157 z154 f168 z165 (strT 12) := g173
                  have hP : va_P (dC, dI) vwCl [(sh, .inr (11, [.ref sb])), (sb, .inr (1, [.ref z166, .int 0, .int mb, .int (nI z165)])), (z166, .inl (cB, z167, .inl f168))] H := hP
                  have hD : va_D A [(sh, .inr (11, [.ref sb])), (sb, .inr (1, [.ref z166, .int 0, .int mb, .int (nI z165)])), (z166, .inl (cB, z167, .inl f168))] := hD
                  refine W.widen (k := 3) (n := 102) (by omega) (by omega) ?_
                  refine lv_pop hx hb xdX8_addOperands_167 rfl ?_
                  refine lv_aload_n hx hb xdX8_addOperands_168 rfl (lv_at hl 4 rfl) ?_
                  refine lv_iload hx hb xdX8_addOperands_169 (lv_at hl 1 rfl) ?_
                  refine lv_iload_n hx hb xdX8_addOperands_171 rfl (lv_at hl 3 rfl) ?_
                  have hd174 := dl_31 ((w.toUInt32 >>> ((15 : Int32).toUInt32 &&& Int32.toUInt32 31)).toInt32)
                  have hd175 := dl_le (((w.toUInt32 >>> ((15 : Int32).toUInt32 &&& Int32.toUInt32 31)).toInt32) &&& 31)
                  have hd176 := dl_le (nuX kd w)
                  refine ca_v (wr := []) (rn_V (n := 2) (As := [.int (((w.toUInt32 >>> ((15 : Int32).toUInt32 &&& Int32.toUInt32 31)).toInt32) &&& 31), .int (nuX kd w)]) (rest := []) hx hb hml hown ht hKK hFx hP hD hS hA (c_sx_pair l dC dI cI cB cZ cJ cR tb H.size sh sb z166 z167 z165 f168 mb (((w.toUInt32 >>> ((15 : Int32).toUInt32 &&& Int32.toUInt32 31)).toInt32) &&& 31) (nuX kd w) (by first | assumption | omega | rfl | exact sb_fit0) (by first | assumption | omega | rfl | exact sb_fit0) (by first | assumption | omega | rfl | exact sb_fit0) (by first | assumption | omega | rfl | exact sb_fit0)) xw_112 xw_113 (by decide +kernel) rfl rfl ⟨Nat.le_of_ble_eq_true rfl, Nat.le_of_ble_eq_true rfl⟩ [0, 1, 2] rfl (by decide) rfl rfl rfl rfl hl.1 rfl (Nat.le_of_ble_eq_true rfl) xdX8_addOperands_172 ⟨Nat.le_of_ble_eq_true rfl, Nat.le_of_ble_eq_true rfl⟩) hP hD hS hA (isC := [0, 1, 2]) (isR := []) rfl rfl (by decide) (by decide) (fun u H locs hw177 hP hD hS => ?_)
                  obtain ⟨z179, z180, z181, f182⟩ := u
                  obtain ⟨g183, g184, g185, g186, g187⟩ := hw177
                  have g183 : z179 = z165 + (1 + dl (((w.toUInt32 >>> ((15 : Int32).toUInt32 &&& Int32.toUInt32 31)).toInt32) &&& 31) + 2 + dl (nuX kd w)) := g183
                  have g184 : z181 = 16 ∨ z181 = 34 := g184
                  have g185 : z179 ≤ z181 := g185
                  have g186 : sb_Fit f182 := g186
                  have g187 : TA f168 z165 f182 z179 (pairT (((w.toUInt32 >>> ((15 : Int32).toUInt32 &&& Int32.toUInt32 31)).toInt32) &&& 31) (nuX kd w)) := g187
                  have hP : va_P (dC, dI) vwCl [(sh, .inr (11, [.ref sb])), (sb, .inr (1, [.ref z180, .int 0, .int mb, .int (nI z179)])), (z180, .inl (cB, z181, .inl f182))] H := hP
                  have hD : va_D A [(sh, .inr (11, [.ref sb])), (sb, .inr (1, [.ref z180, .int 0, .int mb, .int (nI z179)])), (z180, .inl (cB, z181, .inl f182))] := hD
                  refine W.widen (k := 7) (n := 238) (by omega) (by omega) ?_
                  refine lv_goto (tgt := 216) hx hb xdX8_addOperands_175 (by decide) ?_
                  have hP9 := hP.sub (ws' := [(sh, .inr (11, [.ref sb])), (sb, .inr (1, [.ref z180, .int 0, .int mb, .int (nI z179)])), (z180, .inl (cB, z181, .inl f182))]) [0, 1, 2] rfl
                  have hD9 := hD.sub (ws' := [(sh, .inr (11, [.ref sb])), (sb, .inr (1, [.ref z180, .int 0, .int mb, .int (nI z179)])), (z180, .inl (cB, z181, .inl f182))]) [0, 1, 2] (by decide) rfl
                  refine W.widen (k := 8) (n := 272) (by omega) (by omega) ?_
                  exact W.vret hx hb hr (fun t ht9 hW => ⟨⟨(z179, z180, z181, f182), rfl, ⟨(by dsimp only; unfold opX; rw [if_neg h9, if_neg h24, if_neg h25, if_neg h26, if_neg h43, if_pos h84, if_pos h86, if_neg h88]; omega), (by first | assumption | omega | (dsimp only; omega) | (dsimp only; assumption) | rfl), (by first | assumption | omega | (dsimp only; omega) | (dsimp only; assumption) | rfl), (by first | assumption | omega | (dsimp only; omega) | (dsimp only; assumption) | rfl), (TA.eq (TA.tr (TA.tr g162 g173) g187) (by unfold opXT; rw [if_neg h9, if_neg h24, if_neg h25, if_neg h26, if_neg h43, if_pos h84, if_pos h86, if_neg h88]))⟩, by rw [ht9]; exact hP9, hD9⟩, hS.F ht9⟩) hS.2.2 xdX8_addOperands_216
              · refine lv_aload_n hx hb xdX8_addOperands_102 rfl (lv_at hl 4 rfl) ?_
                refine lv_iload hx hb xdX8_addOperands_103 (lv_at hl 0 rfl) ?_
                refine lv_iload_n hx hb xdX8_addOperands_105 rfl (lv_at hl 3 rfl) ?_
                refine lv_iload hx hb xdX8_addOperands_106 (lv_at hl 1 rfl) ?_
                have hd188 := dl_31 ((w.toUInt32 >>> ((20 : Int32).toUInt32 &&& Int32.toUInt32 31)).toInt32)
                have hd189 := dl_le (((w.toUInt32 >>> ((20 : Int32).toUInt32 &&& Int32.toUInt32 31)).toInt32) &&& 31)
                have hd190 := dl_le (nuX kd w)
                have hd191 := dl_31 ((w.toUInt32 >>> ((15 : Int32).toUInt32 &&& Int32.toUInt32 31)).toInt32)
                have hd192 := dl_le (((w.toUInt32 >>> ((15 : Int32).toUInt32 &&& Int32.toUInt32 31)).toInt32) &&& 31)
                refine ca_v (wr := []) (rn_V (n := 3) (As := [.int (((w.toUInt32 >>> ((20 : Int32).toUInt32 &&& Int32.toUInt32 31)).toInt32) &&& 31), .int (nuX kd w), .int (((w.toUInt32 >>> ((15 : Int32).toUInt32 &&& Int32.toUInt32 31)).toInt32) &&& 31)]) (rest := []) hx hb hml hown ht hKK hFx hP hD hS hA (c_sx_reach l dC dI cI cB cZ cJ cR tb H.size sh sb a m n f mb (((w.toUInt32 >>> ((20 : Int32).toUInt32 &&& Int32.toUInt32 31)).toInt32) &&& 31) (nuX kd w) (((w.toUInt32 >>> ((15 : Int32).toUInt32 &&& Int32.toUInt32 31)).toInt32) &&& 31) (by first | assumption | omega | rfl | exact sb_fit0) (by first | assumption | omega | rfl | exact sb_fit0) (by first | assumption | omega | rfl | exact sb_fit0) (by first | assumption | omega | rfl | exact sb_fit0)) xw_124 xw_125 (by decide +kernel) rfl rfl ⟨Nat.le_of_ble_eq_true rfl, Nat.le_of_ble_eq_true rfl⟩ [0, 1, 2] rfl (by decide) rfl rfl rfl rfl hl.1 rfl (Nat.le_of_ble_eq_true rfl) xdX8_addOperands_108 ⟨Nat.le_of_ble_eq_true rfl, Nat.le_of_ble_eq_true rfl⟩) hP hD hS hA (isC := [0, 1, 2]) (isR := []) rfl rfl (by decide) (by decide) (fun u H locs hw193 hP hD hS => ?_)
                obtain ⟨z195, z196, z197, f198⟩ := u
                obtain ⟨g199, g200, g201, g202, g203⟩ := hw193
                have g199 : z195 = n + ((1 + dl (((w.toUInt32 >>> ((20 : Int32).toUInt32 &&& Int32.toUInt32 31)).toInt32) &&& 31) + 2 + dl (nuX kd w)) + 1 + (1 + dl (((w.toUInt32 >>> ((15 : Int32).toUInt32 &&& Int32.toUInt32 31)).toInt32) &&& 31)) + 1) := g199
                have g200 : z197 = 16 ∨ z197 = 34 := g200
                have g201 : z195 ≤ z197 := g201
                have g202 : sb_Fit f198 := g202
                have g203 : TA f n f198 z195 (reachT (((w.toUInt32 >>> ((20 : Int32).toUInt32 &&& Int32.toUInt32 31)).toInt32) &&& 31) (nuX kd w) (((w.toUInt32 >>> ((15 : Int32).toUInt32 &&& Int32.toUInt32 31)).toInt32) &&& 31)) := g203
                have hP : va_P (dC, dI) vwCl [(sh, .inr (11, [.ref sb])), (sb, .inr (1, [.ref z196, .int 0, .int mb, .int (nI z195)])), (z196, .inl (cB, z197, .inl f198))] H := hP
                have hD : va_D A [(sh, .inr (11, [.ref sb])), (sb, .inr (1, [.ref z196, .int 0, .int mb, .int (nI z195)])), (z196, .inl (cB, z197, .inl f198))] := hD
                refine W.widen (k := 8) (n := 272) (by omega) (by omega) ?_
                refine lv_goto (tgt := 216) hx hb xdX8_addOperands_111 (by decide) ?_
                have hP9 := hP.sub (ws' := [(sh, .inr (11, [.ref sb])), (sb, .inr (1, [.ref z196, .int 0, .int mb, .int (nI z195)])), (z196, .inl (cB, z197, .inl f198))]) [0, 1, 2] rfl
                have hD9 := hD.sub (ws' := [(sh, .inr (11, [.ref sb])), (sb, .inr (1, [.ref z196, .int 0, .int mb, .int (nI z195)])), (z196, .inl (cB, z197, .inl f198))]) [0, 1, 2] (by decide) rfl
                refine W.widen (k := 8) (n := 272) (by omega) (by omega) ?_
                exact W.vret hx hb hr (fun t ht9 hW => ⟨⟨(z195, z196, z197, f198), rfl, ⟨(by dsimp only; unfold opX; rw [if_neg h9, if_neg h24, if_neg h25, if_neg h26, if_neg h43, if_pos h84, if_neg h86]; omega), (by first | assumption | omega | (dsimp only; omega) | (dsimp only; assumption) | rfl), (by first | assumption | omega | (dsimp only; omega) | (dsimp only; assumption) | rfl), (by first | assumption | omega | (dsimp only; omega) | (dsimp only; assumption) | rfl), (TA.eq g203 (by unfold opXT; rw [if_neg h9, if_neg h24, if_neg h25, if_neg h26, if_neg h43, if_pos h84, if_neg h86]))⟩, by rw [ht9]; exact hP9, hD9⟩, hS.F ht9⟩) hS.2.2 xdX8_addOperands_216
            · refine lv_aload_n hx hb xdX8_addOperands_78 rfl (lv_at hl 4 rfl) ?_
              refine lv_iload hx hb xdX8_addOperands_79 (lv_at hl 2 rfl) ?_
              refine lv_iload_n hx hb xdX8_addOperands_81 rfl (lv_at hl 3 rfl) ?_
              refine lv_iload hx hb xdX8_addOperands_82 (lv_at hl 1 rfl) ?_
              have hd204 := dl_31 ((w.toUInt32 >>> ((7 : Int32).toUInt32 &&& Int32.toUInt32 31)).toInt32)
              have hd205 := dl_le (((w.toUInt32 >>> ((7 : Int32).toUInt32 &&& Int32.toUInt32 31)).toInt32) &&& 31)
              have hd206 := dl_le (nuX kd w)
              have hd207 := dl_31 ((w.toUInt32 >>> ((15 : Int32).toUInt32 &&& Int32.toUInt32 31)).toInt32)
              have hd208 := dl_le (((w.toUInt32 >>> ((15 : Int32).toUInt32 &&& Int32.toUInt32 31)).toInt32) &&& 31)
              refine ca_v (wr := []) (rn_V (n := 3) (As := [.int (((w.toUInt32 >>> ((7 : Int32).toUInt32 &&& Int32.toUInt32 31)).toInt32) &&& 31), .int (nuX kd w), .int (((w.toUInt32 >>> ((15 : Int32).toUInt32 &&& Int32.toUInt32 31)).toInt32) &&& 31)]) (rest := []) hx hb hml hown ht hKK hFx hP hD hS hA (c_sx_reach l dC dI cI cB cZ cJ cR tb H.size sh sb a m n f mb (((w.toUInt32 >>> ((7 : Int32).toUInt32 &&& Int32.toUInt32 31)).toInt32) &&& 31) (nuX kd w) (((w.toUInt32 >>> ((15 : Int32).toUInt32 &&& Int32.toUInt32 31)).toInt32) &&& 31) (by first | assumption | omega | rfl | exact sb_fit0) (by first | assumption | omega | rfl | exact sb_fit0) (by first | assumption | omega | rfl | exact sb_fit0) (by first | assumption | omega | rfl | exact sb_fit0)) xw_124 xw_125 (by decide +kernel) rfl rfl ⟨Nat.le_of_ble_eq_true rfl, Nat.le_of_ble_eq_true rfl⟩ [0, 1, 2] rfl (by decide) rfl rfl rfl rfl hl.1 rfl (Nat.le_of_ble_eq_true rfl) xdX8_addOperands_84 ⟨Nat.le_of_ble_eq_true rfl, Nat.le_of_ble_eq_true rfl⟩) hP hD hS hA (isC := [0, 1, 2]) (isR := []) rfl rfl (by decide) (by decide) (fun u H locs hw209 hP hD hS => ?_)
              obtain ⟨z211, z212, z213, f214⟩ := u
              obtain ⟨g215, g216, g217, g218, g219⟩ := hw209
              have g215 : z211 = n + ((1 + dl (((w.toUInt32 >>> ((7 : Int32).toUInt32 &&& Int32.toUInt32 31)).toInt32) &&& 31) + 2 + dl (nuX kd w)) + 1 + (1 + dl (((w.toUInt32 >>> ((15 : Int32).toUInt32 &&& Int32.toUInt32 31)).toInt32) &&& 31)) + 1) := g215
              have g216 : z213 = 16 ∨ z213 = 34 := g216
              have g217 : z211 ≤ z213 := g217
              have g218 : sb_Fit f214 := g218
              have g219 : TA f n f214 z211 (reachT (((w.toUInt32 >>> ((7 : Int32).toUInt32 &&& Int32.toUInt32 31)).toInt32) &&& 31) (nuX kd w) (((w.toUInt32 >>> ((15 : Int32).toUInt32 &&& Int32.toUInt32 31)).toInt32) &&& 31)) := g219
              have hP : va_P (dC, dI) vwCl [(sh, .inr (11, [.ref sb])), (sb, .inr (1, [.ref z212, .int 0, .int mb, .int (nI z211)])), (z212, .inl (cB, z213, .inl f214))] H := hP
              have hD : va_D A [(sh, .inr (11, [.ref sb])), (sb, .inr (1, [.ref z212, .int 0, .int mb, .int (nI z211)])), (z212, .inl (cB, z213, .inl f214))] := hD
              refine W.widen (k := 8) (n := 272) (by omega) (by omega) ?_
              refine lv_goto (tgt := 216) hx hb xdX8_addOperands_87 (by decide) ?_
              have hP9 := hP.sub (ws' := [(sh, .inr (11, [.ref sb])), (sb, .inr (1, [.ref z212, .int 0, .int mb, .int (nI z211)])), (z212, .inl (cB, z213, .inl f214))]) [0, 1, 2] rfl
              have hD9 := hD.sub (ws' := [(sh, .inr (11, [.ref sb])), (sb, .inr (1, [.ref z212, .int 0, .int mb, .int (nI z211)])), (z212, .inl (cB, z213, .inl f214))]) [0, 1, 2] (by decide) rfl
              refine W.widen (k := 8) (n := 272) (by omega) (by omega) ?_
              exact W.vret hx hb hr (fun t ht9 hW => ⟨⟨(z211, z212, z213, f214), rfl, ⟨(by dsimp only; unfold opX; rw [if_neg h9, if_neg h24, if_neg h25, if_neg h26, if_neg h43, if_neg h84]; omega), (by first | assumption | omega | (dsimp only; omega) | (dsimp only; assumption) | rfl), (by first | assumption | omega | (dsimp only; omega) | (dsimp only; assumption) | rfl), (by first | assumption | omega | (dsimp only; omega) | (dsimp only; assumption) | rfl), (TA.eq g219 (by unfold opXT; rw [if_neg h9, if_neg h24, if_neg h25, if_neg h26, if_neg h43, if_neg h84]))⟩, by rw [ht9]; exact hP9, hD9⟩, hS.F ht9⟩) hS.2.2 xdX8_addOperands_216
      · refine lv_aload_n hx hb xdX8_addOperands_51 rfl (lv_at hl 4 rfl) ?_
        refine lv_iload hx hb xdX8_addOperands_52 (lv_at hl 2 rfl) ?_
        refine lv_iload_n hx hb xdX8_addOperands_54 rfl (lv_at hl 3 rfl) ?_
        have hd220 := dl_31 ((w.toUInt32 >>> ((7 : Int32).toUInt32 &&& Int32.toUInt32 31)).toInt32)
        have hd221 := dl_le (((w.toUInt32 >>> ((7 : Int32).toUInt32 &&& Int32.toUInt32 31)).toInt32) &&& 31)
        have hd222 := dl_le (nuX kd w)
        refine ca_v (wr := []) (rn_V (n := 2) (As := [.int (((w.toUInt32 >>> ((7 : Int32).toUInt32 &&& Int32.toUInt32 31)).toInt32) &&& 31), .int (nuX kd w)]) (rest := []) hx hb hml hown ht hKK hFx hP hD hS hA (c_sx_pair l dC dI cI cB cZ cJ cR tb H.size sh sb a m n f mb (((w.toUInt32 >>> ((7 : Int32).toUInt32 &&& Int32.toUInt32 31)).toInt32) &&& 31) (nuX kd w) (by first | assumption | omega | rfl | exact sb_fit0) (by first | assumption | omega | rfl | exact sb_fit0) (by first | assumption | omega | rfl | exact sb_fit0) (by first | assumption | omega | rfl | exact sb_fit0)) xw_112 xw_113 (by decide +kernel) rfl rfl ⟨Nat.le_of_ble_eq_true rfl, Nat.le_of_ble_eq_true rfl⟩ [0, 1, 2] rfl (by decide) rfl rfl rfl rfl hl.1 rfl (Nat.le_of_ble_eq_true rfl) xdX8_addOperands_55 ⟨Nat.le_of_ble_eq_true rfl, Nat.le_of_ble_eq_true rfl⟩) hP hD hS hA (isC := [0, 1, 2]) (isR := []) rfl rfl (by decide) (by decide) (fun u H locs hw223 hP hD hS => ?_)
        obtain ⟨z225, z226, z227, f228⟩ := u
        obtain ⟨g229, g230, g231, g232, g233⟩ := hw223
        have g229 : z225 = n + (1 + dl (((w.toUInt32 >>> ((7 : Int32).toUInt32 &&& Int32.toUInt32 31)).toInt32) &&& 31) + 2 + dl (nuX kd w)) := g229
        have g230 : z227 = 16 ∨ z227 = 34 := g230
        have g231 : z225 ≤ z227 := g231
        have g232 : sb_Fit f228 := g232
        have g233 : TA f n f228 z225 (pairT (((w.toUInt32 >>> ((7 : Int32).toUInt32 &&& Int32.toUInt32 31)).toInt32) &&& 31) (nuX kd w)) := g233
        have hP : va_P (dC, dI) vwCl [(sh, .inr (11, [.ref sb])), (sb, .inr (1, [.ref z226, .int 0, .int mb, .int (nI z225)])), (z226, .inl (cB, z227, .inl f228))] H := hP
        have hD : va_D A [(sh, .inr (11, [.ref sb])), (sb, .inr (1, [.ref z226, .int 0, .int mb, .int (nI z225)])), (z226, .inl (cB, z227, .inl f228))] := hD
        refine W.widen (k := 4) (n := 136) (by omega) (by omega) ?_
        refine lv_goto (tgt := 216) hx hb xdX8_addOperands_58 (by decide) ?_
        have hP9 := hP.sub (ws' := [(sh, .inr (11, [.ref sb])), (sb, .inr (1, [.ref z226, .int 0, .int mb, .int (nI z225)])), (z226, .inl (cB, z227, .inl f228))]) [0, 1, 2] rfl
        have hD9 := hD.sub (ws' := [(sh, .inr (11, [.ref sb])), (sb, .inr (1, [.ref z226, .int 0, .int mb, .int (nI z225)])), (z226, .inl (cB, z227, .inl f228))]) [0, 1, 2] (by decide) rfl
        refine W.widen (k := 8) (n := 272) (by omega) (by omega) ?_
        exact W.vret hx hb hr (fun t ht9 hW => ⟨⟨(z225, z226, z227, f228), rfl, ⟨(by dsimp only; unfold opX; rw [if_neg h9, if_neg h24, if_pos h25]; omega), (by first | assumption | omega | (dsimp only; omega) | (dsimp only; assumption) | rfl), (by first | assumption | omega | (dsimp only; omega) | (dsimp only; assumption) | rfl), (by first | assumption | omega | (dsimp only; omega) | (dsimp only; assumption) | rfl), (TA.eq g233 (by unfold opXT; rw [if_neg h9, if_neg h24, if_pos h25]))⟩, by rw [ht9]; exact hP9, hD9⟩, hS.F ht9⟩) hS.2.2 xdX8_addOperands_216
    · refine lv_aload_n hx hb xdX8_addOperands_33 rfl (lv_at hl 4 rfl) ?_
      refine lv_iload hx hb xdX8_addOperands_34 (lv_at hl 2 rfl) ?_
      refine lv_iload_n hx hb xdX8_addOperands_36 rfl (lv_at hl 3 rfl) ?_
      refine lv_bipush (v := 12) hx hb xdX8_addOperands_37 (by decide) ?_
      refine lv_iushr hx hb xdX8_addOperands_39 rfl ?_
      have hd234 := dl_31 ((w.toUInt32 >>> ((7 : Int32).toUInt32 &&& Int32.toUInt32 31)).toInt32)
      have hd235 := dl_le (((w.toUInt32 >>> ((7 : Int32).toUInt32 &&& Int32.toUInt32 31)).toInt32) &&& 31)
      have hd236 := dl_le (((nuX kd w).toUInt32 >>> ((12 : Int32).toUInt32 &&& Int32.toUInt32 31)).toInt32)
      refine ca_v (wr := []) (rn_V (n := 2) (As := [.int (((w.toUInt32 >>> ((7 : Int32).toUInt32 &&& Int32.toUInt32 31)).toInt32) &&& 31), .int (((nuX kd w).toUInt32 >>> ((12 : Int32).toUInt32 &&& Int32.toUInt32 31)).toInt32)]) (rest := []) hx hb hml hown ht hKK hFx hP hD hS hA (c_sx_pair l dC dI cI cB cZ cJ cR tb H.size sh sb a m n f mb (((w.toUInt32 >>> ((7 : Int32).toUInt32 &&& Int32.toUInt32 31)).toInt32) &&& 31) (((nuX kd w).toUInt32 >>> ((12 : Int32).toUInt32 &&& Int32.toUInt32 31)).toInt32) (by first | assumption | omega | rfl | exact sb_fit0) (by first | assumption | omega | rfl | exact sb_fit0) (by first | assumption | omega | rfl | exact sb_fit0) (by first | assumption | omega | rfl | exact sb_fit0)) xw_112 xw_113 (by decide +kernel) rfl rfl ⟨Nat.le_of_ble_eq_true rfl, Nat.le_of_ble_eq_true rfl⟩ [0, 1, 2] rfl (by decide) rfl rfl rfl rfl hl.1 rfl (Nat.le_of_ble_eq_true rfl) xdX8_addOperands_40 ⟨Nat.le_of_ble_eq_true rfl, Nat.le_of_ble_eq_true rfl⟩) hP hD hS hA (isC := [0, 1, 2]) (isR := []) rfl rfl (by decide) (by decide) (fun u H locs hw237 hP hD hS => ?_)
      obtain ⟨z239, z240, z241, f242⟩ := u
      obtain ⟨g243, g244, g245, g246, g247⟩ := hw237
      have g243 : z239 = n + (1 + dl (((w.toUInt32 >>> ((7 : Int32).toUInt32 &&& Int32.toUInt32 31)).toInt32) &&& 31) + 2 + dl (((nuX kd w).toUInt32 >>> ((12 : Int32).toUInt32 &&& Int32.toUInt32 31)).toInt32)) := g243
      have g244 : z241 = 16 ∨ z241 = 34 := g244
      have g245 : z239 ≤ z241 := g245
      have g246 : sb_Fit f242 := g246
      have g247 : TA f n f242 z239 (pairT (((w.toUInt32 >>> ((7 : Int32).toUInt32 &&& Int32.toUInt32 31)).toInt32) &&& 31) (((nuX kd w).toUInt32 >>> ((12 : Int32).toUInt32 &&& Int32.toUInt32 31)).toInt32)) := g247
      have hP : va_P (dC, dI) vwCl [(sh, .inr (11, [.ref sb])), (sb, .inr (1, [.ref z240, .int 0, .int mb, .int (nI z239)])), (z240, .inl (cB, z241, .inl f242))] H := hP
      have hD : va_D A [(sh, .inr (11, [.ref sb])), (sb, .inr (1, [.ref z240, .int 0, .int mb, .int (nI z239)])), (z240, .inl (cB, z241, .inl f242))] := hD
      refine W.widen (k := 4) (n := 136) (by omega) (by omega) ?_
      refine lv_goto (tgt := 216) hx hb xdX8_addOperands_43 (by decide) ?_
      have hP9 := hP.sub (ws' := [(sh, .inr (11, [.ref sb])), (sb, .inr (1, [.ref z240, .int 0, .int mb, .int (nI z239)])), (z240, .inl (cB, z241, .inl f242))]) [0, 1, 2] rfl
      have hD9 := hD.sub (ws' := [(sh, .inr (11, [.ref sb])), (sb, .inr (1, [.ref z240, .int 0, .int mb, .int (nI z239)])), (z240, .inl (cB, z241, .inl f242))]) [0, 1, 2] (by decide) rfl
      refine W.widen (k := 8) (n := 272) (by omega) (by omega) ?_
      exact W.vret hx hb hr (fun t ht9 hW => ⟨⟨(z239, z240, z241, f242), rfl, ⟨(by dsimp only; unfold opX; rw [if_neg h9, if_pos h24]; omega), (by first | assumption | omega | (dsimp only; omega) | (dsimp only; assumption) | rfl), (by first | assumption | omega | (dsimp only; omega) | (dsimp only; assumption) | rfl), (by first | assumption | omega | (dsimp only; omega) | (dsimp only; assumption) | rfl), (TA.eq g247 (by unfold opXT; rw [if_neg h9, if_pos h24]))⟩, by rw [ht9]; exact hP9, hD9⟩, hS.F ht9⟩) hS.2.2 xdX8_addOperands_216
def lenK (kd : Nat) (w : Int32) : Nat := cntN kd 6 + (if kd = 40 then 11 else if 37 ≤ kd then 0 else 1 + opX kd w)
def tK (kd : Nat) (w : Int32) : List Int32 := nmT kd 6 ++ (if kd = 40 then strT 10 ++ hexT w else if 37 ≤ kd then [] else [chB 32] ++ opXT kd w)
set_option maxHeartbeats 16000000 in
set_option maxRecDepth 100000 in
/-- spell -/
theorem c_sx_spell (l : Launch) (dC : Nat → ClassId) (dI : Nat → Nat → Nat) (cI cB cZ cJ cR : ClassId) (tb : Nat → Nat) (sz : Nat) (sh : Nat) (sb : Nat) (a : Nat) (m : Nat) (n : Nat) (f : Nat → Int32) (mb : Int32) (w : Int32) (hm : m = 16 ∨ m = 34) (hf : sb_Fit f) (h0 : n ≤ 34) : Met l yX8_spell (Cond.code yX8_spell cX8_spell 3 (some .int) :: tw_W) ({ frames := 10, cells := 9, slots := 306, locals := 221 }) (pc_ (dC, dI) (tyS cI cB cZ cJ cR) tb [(sh, .inr (11, [.ref sb])), (sb, .inr (1, [.ref a, .int 0, .int mb, .int (nI n)])), (a, .inl (cB, m, .inl f))] sz [.ref sh, .int w]) (qi_ (dC, dI) [(sh, .inr (11, [.ref sb])), (sb, .inr (1, [.ref a, .int 0, .int mb, .int (nI n)])), (a, .inl (cB, m, .inl f))] sz (fun (r : Int32) (u : Nat × Nat × Nat × (Nat → Int32) × Int32) => (u.2.2.1 = 16 ∨ u.2.2.1 = 34) ∧ u.1 ≤ u.2.2.1 ∧ sb_Fit u.2.2.2.1 ∧ ∃ kd : Nat, kd ≤ 40 ∧ kdI w = nI kd ∧ r = nI (lenK kd w) ∧ TA f 0 u.2.2.2.1 u.1 (tK kd w)) (fun (u : Nat × Nat × Nat × (Nat → Int32) × Int32) => [(sh, .inr (11, [.ref sb])), (sb, .inr (1, [.ref u.2.1, .int 0, .int u.2.2.2.2, .int (nI u.1)])), (u.2.1, .inl (cB, u.2.2.1, .inl u.2.2.2.1))])) 9 306 (va_A [(sh, .inr (11, [.ref sb])), (sb, .inr (1, [.ref a, .int 0, .int mb, .int (nI n)])), (a, .inl (cB, m, .inl f))] sz) := by
  refine Met.ofW (cc := cX8_spell) (maxL := 3) (ret := (some .int)) (by decide) rfl ?_
  intro p e s m9 args below meth c s₁ B hml hv
  obtain ⟨rfl, hsz, hP, hKK, hD0, hFx⟩ := hv
  have hK := hKK.1
  have hx := B.exec
  have hb := B.bytes
  have hr := B.returns
  have ht : ∀ w ∈ tw_W, w.before _ s = true := fun w h => atoms_spec (ws := Cond.code yX8_spell cX8_spell 3 (some .int) :: tw_W) B.pre w (List.mem_cons_of_mem _ h)
  have hown : s.vm.findClass RX8 = some m9.cls := findClass_of_methodNamed B.named
  have hlocks := B.notSynchronized
  subst hsz
  unfold qi_
  have hD := hD0.self (sz := s.heap.size)
  generalize hAe : va_A [(sh, .inr (11, [.ref sb])), (sb, .inr (1, [.ref a, .int 0, .int mb, .int (nI n)])), (a, .inl (cB, m, .inl f))] s.heap.size = A at hD hFx ⊢
  have hA : ∀ q : Nat, s.heap.size ≤ q → A q := fun q h => by rw [← hAe]; exact Or.inr h
  have hS : va_S A s.heap s.heap [] := va_S.rf
  have hP : va_P (dC, dI) vwCl [(sh, .inr (11, [.ref sb])), (sb, .inr (1, [.ref a, .int 0, .int mb, .int (nI n)])), (a, .inl (cB, m, .inl f))] s.heap := hP
  have hl := lv_entry ([.ref sh, .int w]) (n := 3) (Nat.le_of_ble_eq_true rfl)
  rw [lg_entry_eq]
  generalize (lg_sl ([.ref sh, .int w]) ++ List.replicate (3 - (lg_sl ([.ref sh, .int w])).length) Slot.unset).toArray = ls at hl ⊢
  have hl : lv_has ls 3 [(0, .ref sh), (1, .int w)] := hl
  refine lv_iload_n hx hb xdX8_spell_0 rfl (lv_at hl 1 rfl) ?_
  refine ca_i (wr := [(sh, .inr (11, [.ref sb])), (sb, .inr (1, [.ref a, .int 0, .int mb, .int (nI n)])), (a, .inl (cB, m, .inl f))]) (rn_S (n := 1) (As := [.int w]) (rest := []) hx hb hml hown ht hKK hFx hP hD hS hA (c_sx_kindOf l dC dI cI cB cZ cJ cR tb s.heap.size w) xw_126 xw_127 (by decide +kernel) rfl rfl ⟨Nat.le_of_ble_eq_true rfl, Nat.le_of_ble_eq_true rfl⟩ [] rfl (by decide) rfl hl.1 rfl (Nat.le_of_ble_eq_true rfl) xdX8_spell_1 ⟨Nat.le_of_ble_eq_true rfl, Nat.le_of_ble_eq_true rfl⟩) hP hD hS hA (isC := []) (isR := [0, 1, 2]) rfl rfl (by decide) (by decide) (fun r2 u H locs hw1 hP hD hS => ?_)
  subst hw1
  have hP : va_P (dC, dI) vwCl [(sh, .inr (11, [.ref sb])), (sb, .inr (1, [.ref a, .int 0, .int mb, .int (nI n)])), (a, .inl (cB, m, .inl f))] H := hP
  have hD : va_D A [(sh, .inr (11, [.ref sb])), (sb, .inr (1, [.ref a, .int 0, .int mb, .int (nI n)])), (a, .inl (cB, m, .inl f))] := hD
  refine W.widen (k := 0) (n := 0) (by omega) (by omega) ?_
  refine tp_i (y := (kdI w)) (rfl) ?_
  obtain ⟨kd, hkd, ekd⟩ := kdI_nat w
  have hcnt := cntN_le kd 6
  refine tp_i (y := (nI kd)) (ekd) ?_
  refine lv_istore_n (lv' := [(2, .int (nI kd)), (0, .ref sh), (1, .int w)]) hx hb xdX8_spell_4 rfl hl (by decide) rfl (fun ls hl => ?_)
  refine lv_aload_n hx hb xdX8_spell_5 rfl (lv_at hl 1 rfl) ?_
  refine va_get (D := (dC, dI)) (ci := 11) (v := .ref sb) (C := RX8) (T := TX8) (N := 1) hx hb ht xiX8 hown hK hP 0 rfl rfl 0 (by decide) (ht _ xw_103) (fun _ h9 => h9) rfl xdX8_spell_6 ?_
  refine lv_iconst (v := 0) hx hb xdX8_spell_9 (by decide) ?_
  refine ca_v (wr := [(sh, .inr (11, [.ref sb]))]) (rn_V (n := 1) (As := [.int 0]) (rest := []) hx hb hml hown ht hKK hFx hP hD hS hA (c_sx_set0 l dC dI cI cB cZ cJ cR tb H.size sb a m n f mb (by first | assumption | omega | rfl | exact sb_fit0) (by first | assumption | omega | rfl | exact sb_fit0) (by first | assumption | omega | rfl | exact sb_fit0)) xw_128 xw_129 (by decide +kernel) rfl rfl ⟨Nat.le_of_ble_eq_true rfl, Nat.le_of_ble_eq_true rfl⟩ [1, 2] rfl (by decide) rfl rfl rfl rfl hl.1 rfl (Nat.le_of_ble_eq_true rfl) xdX8_spell_10 ⟨Nat.le_of_ble_eq_true rfl, Nat.le_of_ble_eq_true rfl⟩) hP hD hS hA (isC := [1, 2]) (isR := [0]) rfl rfl (by decide) (by decide) (fun u H locs hw3 hP hD hS => ?_)
  obtain ⟨z5, hq9⟩ : ∃ z, z = u := ⟨_, rfl⟩
  subst hq9
  have hP : va_P (dC, dI) vwCl [(sh, .inr (11, [.ref sb])), (sb, .inr (1, [.ref a, .int 0, .int z5, .int 0])), (a, .inl (cB, m, .inl f))] H := hP
  have hD : va_D A [(sh, .inr (11, [.ref sb])), (sb, .inr (1, [.ref a, .int 0, .int z5, .int 0])), (a, .inl (cB, m, .inl f))] := hD
  refine W.widen (k := 0) (n := 0) (by omega) (by omega) ?_
  refine lv_aload_n hx hb xdX8_spell_13 rfl (lv_at hl 1 rfl) ?_
  refine lv_iload_n hx hb xdX8_spell_14 rfl (lv_at hl 0 rfl) ?_
  refine ca_v (wr := []) (rn_V (n := 1) (As := [.int (nI kd)]) (rest := []) hx hb hml hown ht hKK hFx hP hD hS hA (c_sx_name l dC dI cI cB cZ cJ cR tb H.size sh sb a m 0 f z5 kd (by first | assumption | omega | rfl | exact sb_fit0) (by first | assumption | omega | rfl | exact sb_fit0) (by first | assumption | omega | rfl | exact sb_fit0) (by first | assumption | omega | rfl | exact sb_fit0)) xw_130 xw_131 (by decide +kernel) rfl rfl ⟨Nat.le_of_ble_eq_true rfl, Nat.le_of_ble_eq_true rfl⟩ [0, 1, 2] rfl (by decide) rfl rfl rfl rfl hl.1 rfl (Nat.le_of_ble_eq_true rfl) xdX8_spell_15 ⟨Nat.le_of_ble_eq_true rfl, Nat.le_of_ble_eq_true rfl⟩) hP hD hS hA (isC := [0, 1, 2]) (isR := []) rfl rfl (by decide) (by decide) (fun u H locs hw6 hP hD hS => ?_)
  obtain ⟨z8, f9⟩ := u
  obtain ⟨g10, g11, g12, g13⟩ := hw6
  have g10 : z8 = 0 + cntN kd 6 := g10
  have g11 : z8 ≤ m := g11
  have g12 : sb_Fit f9 := g12
  have g13 : TA f 0 f9 z8 (nmT kd 6) := g13
  have hP : va_P (dC, dI) vwCl [(sh, .inr (11, [.ref sb])), (sb, .inr (1, [.ref a, .int 0, .int z5, .int (nI z8)])), (a, .inl (cB, m, .inl f9))] H := hP
  have hD : va_D A [(sh, .inr (11, [.ref sb])), (sb, .inr (1, [.ref a, .int 0, .int z5, .int (nI z8)])), (a, .inl (cB, m, .inl f9))] := hD
  refine W.widen (k := 0) (n := 0) (by omega) (by omega) ?_
  refine lv_iload_n hx hb xdX8_spell_18 rfl (lv_at hl 0 rfl) ?_
  refine lv_bipush (v := 40) hx hb xdX8_spell_19 (by decide) ?_
  refine lv_icmp_ne (tgt := 32) hx hb xdX8_spell_21 (by decide) (fun h14 => ?_) (fun h14 => ?_)
  · have hk40 : ¬ kd = 40 := fun z => h14 (congrArg nI z)
    refine lv_iload_n hx hb xdX8_spell_32 rfl (lv_at hl 0 rfl) ?_
    refine lv_bipush (v := 37) hx hb xdX8_spell_33 (by decide) ?_
    refine lv_icmp_ge (tgt := 54) hx hb xdX8_spell_35 (by decide) (fun h15 => ?_) (fun h15 => ?_)
    · have hk37 : 37 ≤ kd := (nI_leI (a := 37) (by omega) (by omega)).mp h15
      refine lv_aload_n hx hb xdX8_spell_54 rfl (lv_at hl 1 rfl) ?_
      refine va_get (D := (dC, dI)) (ci := 11) (v := .ref sb) (C := RX8) (T := TX8) (N := 1) hx hb ht xiX8 hown hK hP 0 rfl rfl 0 (by decide) (ht _ xw_103) (fun _ h9 => h9) rfl xdX8_spell_55 ?_
      refine ca_i (wr := [(sh, .inr (11, [.ref sb])), (a, .inl (cB, m, .inl f9))]) (rn_V (n := 0) (As := []) (rest := []) hx hb hml hown ht hKK hFx hP hD hS hA (c_sx_len l dC dI cI cB cZ cJ cR tb H.size sb a z8 z5) xw_132 xw_133 (by decide +kernel) rfl rfl ⟨Nat.le_of_ble_eq_true rfl, Nat.le_of_ble_eq_true rfl⟩ [1] rfl (by decide) rfl rfl rfl rfl hl.1 rfl (Nat.le_of_ble_eq_true rfl) xdX8_spell_58 ⟨Nat.le_of_ble_eq_true rfl, Nat.le_of_ble_eq_true rfl⟩) hP hD hS hA (isC := [1]) (isR := [0, 2]) rfl rfl (by decide) (by decide) (fun r17 u H locs hw16 hP hD hS => ?_)
      subst hw16
      have hP : va_P (dC, dI) vwCl [(sh, .inr (11, [.ref sb])), (a, .inl (cB, m, .inl f9)), (sb, .inr (1, [.ref a, .int 0, .int z5, .int (nI z8)]))] H := hP
      have hD : va_D A [(sh, .inr (11, [.ref sb])), (a, .inl (cB, m, .inl f9)), (sb, .inr (1, [.ref a, .int 0, .int z5, .int (nI z8)]))] := hD
      refine W.widen (k := 0) (n := 0) (by omega) (by omega) ?_
      have hP9 := hP.sub (ws' := [(sh, .inr (11, [.ref sb])), (sb, .inr (1, [.ref a, .int 0, .int z5, .int (nI z8)])), (a, .inl (cB, m, .inl f9))]) [0, 2, 1] rfl
      have hD9 := hD.sub (ws' := [(sh, .inr (11, [.ref sb])), (sb, .inr (1, [.ref a, .int 0, .int z5, .int (nI z8)])), (a, .inl (cB, m, .inl f9))]) [0, 2, 1] (by decide) rfl
      refine W.widen (k := 9) (n := 306) (by omega) (by omega) ?_
      exact W.iret (v := (nI z8)) hx hb hr (fun t ht9 hW => ⟨⟨(nI z8), (z8, a, m, f9, z5), rfl, ⟨(by first | assumption | omega | (dsimp only; omega) | (dsimp only; assumption) | rfl), (by first | assumption | omega | (dsimp only; omega) | (dsimp only; assumption) | rfl), (by first | assumption | omega | (dsimp only; omega) | (dsimp only; assumption) | rfl), ⟨kd, hkd, ekd, congrArg nI (by unfold lenK; rw [if_neg hk40, if_pos hk37]; omega), (TA.eq g13 (by unfold tK; rw [if_neg hk40, if_pos hk37, List.append_nil]))⟩⟩, by rw [ht9]; exact hP9, hD9⟩, hS.F ht9⟩) hS.2.2 xdX8_spell_61
    · have hk37 : ¬ 37 ≤ kd := fun z => h15 ((nI_leI (a := 37) (by omega) (by omega)).mpr z)
      refine lv_aload_n hx hb xdX8_spell_38 rfl (lv_at hl 1 rfl) ?_
      refine va_get (D := (dC, dI)) (ci := 11) (v := .ref sb) (C := RX8) (T := TX8) (N := 1) hx hb ht xiX8 hown hK hP 0 rfl rfl 0 (by decide) (ht _ xw_103) (fun _ h9 => h9) rfl xdX8_spell_39 ?_
      refine lv_bipush (v := 32) hx hb xdX8_spell_42 (by decide) ?_
      refine ca_r (wr := [(sh, .inr (11, [.ref sb]))]) (rn_V (n := 1) (As := [.int 32]) (rest := []) hx hb hml hown ht hKK hFx hP hD hS hA (c_sx_acB l dC dI cI cB cZ cJ cR tb H.size sb a m z8 f9 z5 32 (by first | assumption | omega | rfl | exact sb_fit0) (by first | assumption | omega | rfl | exact sb_fit0) (by first | assumption | omega | rfl | exact sb_fit0) (by first | assumption | omega | rfl | exact sb_fit0) (by first | assumption | omega | rfl | exact sb_fit0)) xw_104 xw_105 (by decide +kernel) rfl rfl ⟨Nat.le_of_ble_eq_true rfl, Nat.le_of_ble_eq_true rfl⟩ [1, 2] rfl (by decide) rfl rfl rfl rfl hl.1 rfl (Nat.le_of_ble_eq_true rfl) xdX8_spell_44 ⟨Nat.le_of_ble_eq_true rfl, Nat.le_of_ble_eq_true rfl⟩) hP hD hS hA (isC := [1, 2]) (isR := [0]) rfl rfl (by decide) (by decide) (fun u H locs hw18 hP hD hS => ?_)
      obtain ⟨z20, z21, z22, f23⟩ := u
      obtain ⟨g24, g25, g26, g27, g28⟩ := hw18
      have g24 : z20 = z8 + 1 := g24
      have g25 : z22 = 16 ∨ z22 = 34 := g25
      have g26 : z20 ≤ z22 := g26
      have g27 : sb_Fit f23 := g27
      have g28 : TA f9 z8 f23 z20 ([chB 32]) := g28
      have hP : va_P (dC, dI) vwCl [(sh, .inr (11, [.ref sb])), (sb, .inr (1, [.ref z21, .int 0, .int z5, .int (nI z20)])), (z21, .inl (cB, z22, .inl f23))] H := hP
      have hD : va_D A [(sh, .inr (11, [.ref sb])), (sb, .inr (1, [.ref z21, .int 0, .int z5, .int (nI z20)])), (z21, .inl (cB, z22, .inl f23))] := hD
      refine W.widen (k := 1) (n := 34) (by omega) (by omega) ?_
      refine lv_pop hx hb xdX8_spell_47 rfl ?_
      refine lv_aload_n hx hb xdX8_spell_48 rfl (lv_at hl 1 rfl) ?_
      refine lv_iload_n hx hb xdX8_spell_49 rfl (lv_at hl 0 rfl) ?_
      refine lv_iload_n hx hb xdX8_spell_50 rfl (lv_at hl 2 rfl) ?_
      refine ca_v (wr := []) (rn_V (n := 2) (As := [.int (nI kd), .int w]) (rest := []) hx hb hml hown ht hKK hFx hP hD hS hA (c_sx_ops l dC dI cI cB cZ cJ cR tb H.size sh sb z21 z22 z20 f23 z5 kd w (by first | assumption | omega | rfl | exact sb_fit0) (by first | assumption | omega | rfl | exact sb_fit0) (by first | assumption | omega | rfl | exact sb_fit0) (by first | assumption | omega | rfl | exact sb_fit0) (by first | assumption | omega | rfl | exact sb_fit0)) xw_134 xw_135 (by decide +kernel) rfl rfl ⟨Nat.le_of_ble_eq_true rfl, Nat.le_of_ble_eq_true rfl⟩ [0, 1, 2] rfl (by decide) rfl rfl rfl rfl hl.1 rfl (Nat.le_of_ble_eq_true rfl) xdX8_spell_51 ⟨Nat.le_of_ble_eq_true rfl, Nat.le_of_ble_eq_true rfl⟩) hP hD hS hA (isC := [0, 1, 2]) (isR := []) rfl rfl (by decide) (by decide) (fun u H locs hw29 hP hD hS => ?_)
      obtain ⟨z31, z32, z33, f34⟩ := u
      obtain ⟨g35, g36, g37, g38, g39⟩ := hw29
      have g35 : z31 = z20 + opX kd w := g35
      have g36 : z33 = 16 ∨ z33 = 34 := g36
      have g37 : z31 ≤ z33 := g37
      have g38 : sb_Fit f34 := g38
      have g39 : TA f23 z20 f34 z31 (opXT kd w) := g39
      have hP : va_P (dC, dI) vwCl [(sh, .inr (11, [.ref sb])), (sb, .inr (1, [.ref z32, .int 0, .int z5, .int (nI z31)])), (z32, .inl (cB, z33, .inl f34))] H := hP
      have hD : va_D A [(sh, .inr (11, [.ref sb])), (sb, .inr (1, [.ref z32, .int 0, .int z5, .int (nI z31)])), (z32, .inl (cB, z33, .inl f34))] := hD
      refine W.widen (k := 9) (n := 306) (by omega) (by omega) ?_
      refine lv_aload_n hx hb xdX8_spell_54 rfl (lv_at hl 1 rfl) ?_
      refine va_get (D := (dC, dI)) (ci := 11) (v := .ref sb) (C := RX8) (T := TX8) (N := 1) hx hb ht xiX8 hown hK hP 0 rfl rfl 0 (by decide) (ht _ xw_103) (fun _ h9 => h9) rfl xdX8_spell_55 ?_
      refine ca_i (wr := [(sh, .inr (11, [.ref sb])), (z32, .inl (cB, z33, .inl f34))]) (rn_V (n := 0) (As := []) (rest := []) hx hb hml hown ht hKK hFx hP hD hS hA (c_sx_len l dC dI cI cB cZ cJ cR tb H.size sb z32 z31 z5) xw_132 xw_133 (by decide +kernel) rfl rfl ⟨Nat.le_of_ble_eq_true rfl, Nat.le_of_ble_eq_true rfl⟩ [1] rfl (by decide) rfl rfl rfl rfl hl.1 rfl (Nat.le_of_ble_eq_true rfl) xdX8_spell_58 ⟨Nat.le_of_ble_eq_true rfl, Nat.le_of_ble_eq_true rfl⟩) hP hD hS hA (isC := [1]) (isR := [0, 2]) rfl rfl (by decide) (by decide) (fun r41 u H locs hw40 hP hD hS => ?_)
      subst hw40
      have hP : va_P (dC, dI) vwCl [(sh, .inr (11, [.ref sb])), (z32, .inl (cB, z33, .inl f34)), (sb, .inr (1, [.ref z32, .int 0, .int z5, .int (nI z31)]))] H := hP
      have hD : va_D A [(sh, .inr (11, [.ref sb])), (z32, .inl (cB, z33, .inl f34)), (sb, .inr (1, [.ref z32, .int 0, .int z5, .int (nI z31)]))] := hD
      refine W.widen (k := 9) (n := 306) (by omega) (by omega) ?_
      have hP9 := hP.sub (ws' := [(sh, .inr (11, [.ref sb])), (sb, .inr (1, [.ref z32, .int 0, .int z5, .int (nI z31)])), (z32, .inl (cB, z33, .inl f34))]) [0, 2, 1] rfl
      have hD9 := hD.sub (ws' := [(sh, .inr (11, [.ref sb])), (sb, .inr (1, [.ref z32, .int 0, .int z5, .int (nI z31)])), (z32, .inl (cB, z33, .inl f34))]) [0, 2, 1] (by decide) rfl
      refine W.widen (k := 9) (n := 306) (by omega) (by omega) ?_
      exact W.iret (v := (nI z31)) hx hb hr (fun t ht9 hW => ⟨⟨(nI z31), (z31, z32, z33, f34, z5), rfl, ⟨(by first | assumption | omega | (dsimp only; omega) | (dsimp only; assumption) | rfl), (by first | assumption | omega | (dsimp only; omega) | (dsimp only; assumption) | rfl), (by first | assumption | omega | (dsimp only; omega) | (dsimp only; assumption) | rfl), ⟨kd, hkd, ekd, congrArg nI (by unfold lenK; rw [if_neg hk40, if_neg hk37]; omega), (TA.eq (TA.tr (TA.tr g13 g28) g39) (by unfold tK; rw [if_neg hk40, if_neg hk37, List.append_assoc]))⟩⟩, by rw [ht9]; exact hP9, hD9⟩, hS.F ht9⟩) hS.2.2 xdX8_spell_61
  · have hk40 : kd = 40 := (nI_eq (b := 40) (by omega) (by omega)).mp h14
    have hc40 : cntN kd 6 = 4 := by rw [hk40]; decide
    refine lv_aload_n hx hb xdX8_spell_24 rfl (lv_at hl 1 rfl) ?_
    refine lv_iload_n hx hb xdX8_spell_25 rfl (lv_at hl 2 rfl) ?_
    refine ca_v (wr := []) (rn_V (n := 1) (As := [.int w]) (rest := []) hx hb hml hown ht hKK hFx hP hD hS hA (c_sx_hex l dC dI cI cB cZ cJ cR tb H.size sh sb a m z8 f9 z5 w (by first | assumption | omega | rfl | exact sb_fit0) (by first | assumption | omega | rfl | exact sb_fit0) (by first | assumption | omega | rfl | exact sb_fit0)) xw_136 xw_137 (by decide +kernel) rfl rfl ⟨Nat.le_of_ble_eq_true rfl, Nat.le_of_ble_eq_true rfl⟩ [0, 1, 2] rfl (by decide) rfl rfl rfl rfl hl.1 rfl (Nat.le_of_ble_eq_true rfl) xdX8_spell_26 ⟨Nat.le_of_ble_eq_true rfl, Nat.le_of_ble_eq_true rfl⟩) hP hD hS hA (isC := [0, 1, 2]) (isR := []) rfl rfl (by decide) (by decide) (fun u H locs hw42 hP hD hS => ?_)
    obtain ⟨z44, f45⟩ := u
    obtain ⟨g46, g47, g48, g49⟩ := hw42
    have g46 : z44 = z8 + 11 := g46
    have g47 : z44 ≤ m := g47
    have g48 : sb_Fit f45 := g48
    have g49 : TA f9 z8 f45 z44 (strT 10 ++ hexT w) := g49
    have hP : va_P (dC, dI) vwCl [(sh, .inr (11, [.ref sb])), (sb, .inr (1, [.ref a, .int 0, .int z5, .int (nI z44)])), (a, .inl (cB, m, .inl f45))] H := hP
    have hD : va_D A [(sh, .inr (11, [.ref sb])), (sb, .inr (1, [.ref a, .int 0, .int z5, .int (nI z44)])), (a, .inl (cB, m, .inl f45))] := hD
    refine W.widen (k := 0) (n := 0) (by omega) (by omega) ?_
    refine lv_goto (tgt := 54) hx hb xdX8_spell_29 (by decide) ?_
    refine lv_aload_n hx hb xdX8_spell_54 rfl (lv_at hl 1 rfl) ?_
    refine va_get (D := (dC, dI)) (ci := 11) (v := .ref sb) (C := RX8) (T := TX8) (N := 1) hx hb ht xiX8 hown hK hP 0 rfl rfl 0 (by decide) (ht _ xw_103) (fun _ h9 => h9) rfl xdX8_spell_55 ?_
    refine ca_i (wr := [(sh, .inr (11, [.ref sb])), (a, .inl (cB, m, .inl f45))]) (rn_V (n := 0) (As := []) (rest := []) hx hb hml hown ht hKK hFx hP hD hS hA (c_sx_len l dC dI cI cB cZ cJ cR tb H.size sb a z44 z5) xw_132 xw_133 (by decide +kernel) rfl rfl ⟨Nat.le_of_ble_eq_true rfl, Nat.le_of_ble_eq_true rfl⟩ [1] rfl (by decide) rfl rfl rfl rfl hl.1 rfl (Nat.le_of_ble_eq_true rfl) xdX8_spell_58 ⟨Nat.le_of_ble_eq_true rfl, Nat.le_of_ble_eq_true rfl⟩) hP hD hS hA (isC := [1]) (isR := [0, 2]) rfl rfl (by decide) (by decide) (fun r51 u H locs hw50 hP hD hS => ?_)
    subst hw50
    have hP : va_P (dC, dI) vwCl [(sh, .inr (11, [.ref sb])), (a, .inl (cB, m, .inl f45)), (sb, .inr (1, [.ref a, .int 0, .int z5, .int (nI z44)]))] H := hP
    have hD : va_D A [(sh, .inr (11, [.ref sb])), (a, .inl (cB, m, .inl f45)), (sb, .inr (1, [.ref a, .int 0, .int z5, .int (nI z44)]))] := hD
    refine W.widen (k := 0) (n := 0) (by omega) (by omega) ?_
    have hP9 := hP.sub (ws' := [(sh, .inr (11, [.ref sb])), (sb, .inr (1, [.ref a, .int 0, .int z5, .int (nI z44)])), (a, .inl (cB, m, .inl f45))]) [0, 2, 1] rfl
    have hD9 := hD.sub (ws' := [(sh, .inr (11, [.ref sb])), (sb, .inr (1, [.ref a, .int 0, .int z5, .int (nI z44)])), (a, .inl (cB, m, .inl f45))]) [0, 2, 1] (by decide) rfl
    refine W.widen (k := 9) (n := 306) (by omega) (by omega) ?_
    exact W.iret (v := (nI z44)) hx hb hr (fun t ht9 hW => ⟨⟨(nI z44), (z44, a, m, f45, z5), rfl, ⟨(by first | assumption | omega | (dsimp only; omega) | (dsimp only; assumption) | rfl), (by first | assumption | omega | (dsimp only; omega) | (dsimp only; assumption) | rfl), (by first | assumption | omega | (dsimp only; omega) | (dsimp only; assumption) | rfl), ⟨kd, hkd, ekd, congrArg nI (by unfold lenK; rw [if_pos hk40]; omega), (TA.eq (TA.tr g13 g49) (by unfold tK; rw [if_pos hk40]))⟩⟩, by rw [ht9]; exact hP9, hD9⟩, hS.F ht9⟩) hS.2.2 xdX8_spell_61
set_option maxHeartbeats 16000000 in
set_option maxRecDepth 100000 in
/-- byteAt -/
theorem c_sx_byteAt (l : Launch) (dC : Nat → ClassId) (dI : Nat → Nat → Nat) (cI cB cZ cJ cR : ClassId) (tb : Nat → Nat) (sz : Nat) (sh : Nat) (sb : Nat) (a : Nat) (m : Nat) (n : Nat) (f : Nat → Int32) (mb : Int32) (x : Int32) (hm : m = 16 ∨ m = 34) (hf : sb_Fit f) (hn : n ≤ m) : Met l yX8_byteAt (Cond.code yX8_byteAt cX8_byteAt 2 (some .int) :: tw_W) ({ frames := 4, cells := 0, slots := 0, locals := 88 }) (pc_ (dC, dI) (tyS cI cB cZ cJ cR) tb [(sh, .inr (11, [.ref sb])), (sb, .inr (1, [.ref a, .int 0, .int mb, .int (nI n)])), (a, .inl (cB, m, .inl f))] sz [.ref sh, .int x]) (qi_ (dC, dI) [(sh, .inr (11, [.ref sb])), (sb, .inr (1, [.ref a, .int 0, .int mb, .int (nI n)])), (a, .inl (cB, m, .inl f))] sz (fun (r : Int32) (u : Unit) => ((0 ≤ x.toInt ∧ x.toInt < (n : Int) ∧ chR f x.toNatClampNeg r) ∨ ((x.toInt < 0 ∨ (n : Int) ≤ x.toInt) ∧ r = -1))) (fun (u : Unit) => [(sh, .inr (11, [.ref sb])), (sb, .inr (1, [.ref a, .int 0, .int mb, .int (nI n)])), (a, .inl (cB, m, .inl f))])) 0 0 (va_A [(sh, .inr (11, [.ref sb])), (sb, .inr (1, [.ref a, .int 0, .int mb, .int (nI n)])), (a, .inl (cB, m, .inl f))] sz) := by
  refine Met.ofW (cc := cX8_byteAt) (maxL := 2) (ret := (some .int)) (by decide) rfl ?_
  intro p e s m9 args below meth c s₁ B hml hv
  obtain ⟨rfl, hsz, hP, hKK, hD0, hFx⟩ := hv
  have hK := hKK.1
  have hx := B.exec
  have hb := B.bytes
  have hr := B.returns
  have ht : ∀ w ∈ tw_W, w.before _ s = true := fun w h => atoms_spec (ws := Cond.code yX8_byteAt cX8_byteAt 2 (some .int) :: tw_W) B.pre w (List.mem_cons_of_mem _ h)
  have hown : s.vm.findClass RX8 = some m9.cls := findClass_of_methodNamed B.named
  have hlocks := B.notSynchronized
  subst hsz
  unfold qi_
  have hD := hD0.self (sz := s.heap.size)
  generalize hAe : va_A [(sh, .inr (11, [.ref sb])), (sb, .inr (1, [.ref a, .int 0, .int mb, .int (nI n)])), (a, .inl (cB, m, .inl f))] s.heap.size = A at hD hFx ⊢
  have hA : ∀ q : Nat, s.heap.size ≤ q → A q := fun q h => by rw [← hAe]; exact Or.inr h
  have hS : va_S A s.heap s.heap [] := va_S.rf
  have hP : va_P (dC, dI) vwCl [(sh, .inr (11, [.ref sb])), (sb, .inr (1, [.ref a, .int 0, .int mb, .int (nI n)])), (a, .inl (cB, m, .inl f))] s.heap := hP
  have hl := lv_entry ([.ref sh, .int x]) (n := 2) (Nat.le_of_ble_eq_true rfl)
  rw [lg_entry_eq]
  generalize (lg_sl ([.ref sh, .int x]) ++ List.replicate (2 - (lg_sl ([.ref sh, .int x])).length) Slot.unset).toArray = ls at hl ⊢
  have hl : lv_has ls 2 [(0, .ref sh), (1, .int x)] := hl
  refine lv_iload_n hx hb xdX8_byteAt_0 rfl (lv_at hl 1 rfl) ?_
  refine lv_if_lt (tgt := 26) hx hb xdX8_byteAt_1 (by decide) (fun h1 => ?_) (fun h1 => ?_)
  · refine lv_iconst (v := -1) hx hb xdX8_byteAt_26 (by decide) ?_
    have hP9 := hP.sub (ws' := [(sh, .inr (11, [.ref sb])), (sb, .inr (1, [.ref a, .int 0, .int mb, .int (nI n)])), (a, .inl (cB, m, .inl f))]) [0, 1, 2] rfl
    have hD9 := hD.sub (ws' := [(sh, .inr (11, [.ref sb])), (sb, .inr (1, [.ref a, .int 0, .int mb, .int (nI n)])), (a, .inl (cB, m, .inl f))]) [0, 1, 2] (by decide) rfl
    refine W.widen (k := 0) (n := 0) (by omega) (by omega) ?_
    exact W.iret (v := (-1)) hx hb hr (fun t ht9 hW => ⟨⟨(-1), (), rfl, (Or.inr ⟨Or.inl (lt_z rfl (show (0 : Int32).toInt = 0 by decide) h1), rfl⟩), by rw [ht9]; exact hP9, hD9⟩, hS.F ht9⟩) hS.2.2 xdX8_byteAt_27
  · refine lv_iload_n hx hb xdX8_byteAt_4 rfl (lv_at hl 1 rfl) ?_
    refine lv_aload_n hx hb xdX8_byteAt_5 rfl (lv_at hl 0 rfl) ?_
    refine va_get (D := (dC, dI)) (ci := 11) (v := .ref sb) (C := RX8) (T := TX8) (N := 1) hx hb ht xiX8 hown hK hP 0 rfl rfl 0 (by decide) (ht _ xw_103) (fun _ h9 => h9) rfl xdX8_byteAt_6 ?_
    refine ca_i (wr := [(sh, .inr (11, [.ref sb])), (a, .inl (cB, m, .inl f))]) (rn_V (n := 0) (As := []) (rest := [.int x]) hx hb hml hown ht hKK hFx hP hD hS hA (c_sx_len l dC dI cI cB cZ cJ cR tb s.heap.size sb a n mb) xw_132 xw_133 (by decide +kernel) rfl rfl ⟨Nat.le_of_ble_eq_true rfl, Nat.le_of_ble_eq_true rfl⟩ [1] rfl (by decide) rfl rfl rfl rfl hl.1 rfl (Nat.le_of_ble_eq_true rfl) xdX8_byteAt_9 ⟨Nat.le_of_ble_eq_true rfl, Nat.le_of_ble_eq_true rfl⟩) hP hD hS hA (isC := [1]) (isR := [0, 2]) rfl rfl (by decide) (by decide) (fun r3 u H locs hw2 hP hD hS => ?_)
    subst hw2
    have hP : va_P (dC, dI) vwCl [(sh, .inr (11, [.ref sb])), (a, .inl (cB, m, .inl f)), (sb, .inr (1, [.ref a, .int 0, .int mb, .int (nI n)]))] H := hP
    have hD : va_D A [(sh, .inr (11, [.ref sb])), (a, .inl (cB, m, .inl f)), (sb, .inr (1, [.ref a, .int 0, .int mb, .int (nI n)]))] := hD
    refine W.widen (k := 0) (n := 0) (by omega) (by omega) ?_
    refine lv_icmp_ge (tgt := 26) hx hb xdX8_byteAt_12 (by decide) (fun h4 => ?_) (fun h4 => ?_)
    · refine lv_iconst (v := -1) hx hb xdX8_byteAt_26 (by decide) ?_
      have hP9 := hP.sub (ws' := [(sh, .inr (11, [.ref sb])), (sb, .inr (1, [.ref a, .int 0, .int mb, .int (nI n)])), (a, .inl (cB, m, .inl f))]) [0, 2, 1] rfl
      have hD9 := hD.sub (ws' := [(sh, .inr (11, [.ref sb])), (sb, .inr (1, [.ref a, .int 0, .int mb, .int (nI n)])), (a, .inl (cB, m, .inl f))]) [0, 2, 1] (by decide) rfl
      refine W.widen (k := 0) (n := 0) (by omega) (by omega) ?_
      exact W.iret (v := (-1)) hx hb hr (fun t ht9 hW => ⟨⟨(-1), (), rfl, (Or.inr ⟨Or.inr (le_z (nI_Z (n := n) (by omega)) rfl h4), rfl⟩), by rw [ht9]; exact hP9, hD9⟩, hS.F ht9⟩) hS.2.2 xdX8_byteAt_27
    · refine lv_aload_n hx hb xdX8_byteAt_15 rfl (lv_at hl 0 rfl) ?_
      refine va_get (D := (dC, dI)) (ci := 11) (v := .ref sb) (C := RX8) (T := TX8) (N := 1) hx hb ht xiX8 hown hK hP 0 rfl rfl 0 (by decide) (ht _ xw_103) (fun _ h9 => h9) rfl xdX8_byteAt_16 ?_
      refine lv_iload_n hx hb xdX8_byteAt_19 rfl (lv_at hl 1 rfl) ?_
      have hx0 : 0 ≤ x.toInt := nlt_z rfl (show (0 : Int32).toInt = 0 by decide) h1
      have hk9 : x.toNatClampNeg < n := by have h8 := nle_z (nI_Z (n := n) (by omega)) rfl h4; have h7 := nat_z hx0; omega
      refine tp_i (y := (nI x.toNatClampNeg)) (nI_self hx0) ?_
      refine ca_i (wr := [(sh, .inr (11, [.ref sb]))]) (rn_V (n := 1) (As := [.int (nI x.toNatClampNeg)]) (rest := []) hx hb hml hown ht hKK hFx hP hD hS hA (c_sx_cAt l dC dI cI cB cZ cJ cR tb H.size sb a m n f mb x.toNatClampNeg (by first | assumption | omega | rfl | exact sb_fit0) (by first | assumption | omega | rfl | exact sb_fit0) (by first | assumption | omega | rfl | exact sb_fit0) (by first | assumption | omega | rfl | exact sb_fit0)) xw_138 xw_139 (by decide +kernel) rfl rfl ⟨Nat.le_of_ble_eq_true rfl, Nat.le_of_ble_eq_true rfl⟩ [2, 1] rfl (by decide) rfl rfl rfl rfl hl.1 rfl (Nat.le_of_ble_eq_true rfl) xdX8_byteAt_20 ⟨Nat.le_of_ble_eq_true rfl, Nat.le_of_ble_eq_true rfl⟩) hP hD hS hA (isC := [2, 1]) (isR := [0]) rfl rfl (by decide) (by decide) (fun r6 u H locs hw5 hP hD hS => ?_)
      have g7 := hw5
      have g7 : chR f x.toNatClampNeg r6 := g7
      have hP : va_P (dC, dI) vwCl [(sh, .inr (11, [.ref sb])), (sb, .inr (1, [.ref a, .int 0, .int mb, .int (nI n)])), (a, .inl (cB, m, .inl f))] H := hP
      have hD : va_D A [(sh, .inr (11, [.ref sb])), (sb, .inr (1, [.ref a, .int 0, .int mb, .int (nI n)])), (a, .inl (cB, m, .inl f))] := hD
      refine W.widen (k := 0) (n := 0) (by omega) (by omega) ?_
      refine lv_goto (tgt := 27) hx hb xdX8_byteAt_23 (by decide) ?_
      have hP9 := hP.sub (ws' := [(sh, .inr (11, [.ref sb])), (sb, .inr (1, [.ref a, .int 0, .int mb, .int (nI n)])), (a, .inl (cB, m, .inl f))]) [0, 1, 2] rfl
      have hD9 := hD.sub (ws' := [(sh, .inr (11, [.ref sb])), (sb, .inr (1, [.ref a, .int 0, .int mb, .int (nI n)])), (a, .inl (cB, m, .inl f))]) [0, 1, 2] (by decide) rfl
      refine W.widen (k := 0) (n := 0) (by omega) (by omega) ?_
      exact W.iret (v := r6) hx hb hr (fun t ht9 hW => ⟨⟨r6, (), rfl, (Or.inl ⟨hx0, nle_z (nI_Z (n := n) (by omega)) rfl h4, by assumption⟩), by rw [ht9]; exact hP9, hD9⟩, hS.F ht9⟩) hS.2.2 xdX8_byteAt_27
set_option maxHeartbeats 16000000 in
set_option maxRecDepth 100000 in
/-- show -/
theorem c_sx_show (l : Launch) (dC : Nat → ClassId) (dI : Nat → Nat → Nat) (cI cB cZ cJ cR : ClassId) (tb : Nat → Nat) (sz : Nat) (o0 : Nat) (q1 : Nat) (x1 : Int32) (q2 : Nat) (q3 : Nat) (q4 : Nat) (q5 : Nat) (x6 : Int32) (x7 : Int32) (q8 : Nat) (q9 : Nat) (q10 : Nat) (sh : Nat) (sb : Nat) (a : Nat) (m : Nat) (n : Nat) (f : Nat → Int32) (mb : Int32) (w : Int32) (hm : m = 16 ∨ m = 34) (hf : sb_Fit f) (hq0 : n ≤ 34) : Met l yX11_show (Cond.code yX11_show cX11_show 2 (some .int) :: tw_W) ({ frames := 11, cells := 9, slots := 306, locals := 243 }) (pc_ (dC, dI) (tyS cI cB cZ cJ cR) tb [(o0, .inr (14, [.ref q1, .int x1, .ref q2, .ref q3, .ref q4, .ref q5, .int x6, .int x7, .ref q8, .ref q9, .ref q10, .ref sh])), (sh, .inr (11, [.ref sb])), (sb, .inr (1, [.ref a, .int 0, .int mb, .int (nI n)])), (a, .inl (cB, m, .inl f))] sz [.ref o0, .int w]) (qi_ (dC, dI) [(o0, .inr (14, [.ref q1, .int x1, .ref q2, .ref q3, .ref q4, .ref q5, .int x6, .int x7, .ref q8, .ref q9, .ref q10, .ref sh])), (sh, .inr (11, [.ref sb])), (sb, .inr (1, [.ref a, .int 0, .int mb, .int (nI n)])), (a, .inl (cB, m, .inl f))] sz (fun (r : Int32) (u : Nat × Nat × Nat × (Nat → Int32) × Int32) => (u.2.2.1 = 16 ∨ u.2.2.1 = 34) ∧ u.1 ≤ u.2.2.1 ∧ sb_Fit u.2.2.2.1 ∧ ∃ kd : Nat, kd ≤ 40 ∧ kdI w = nI kd ∧ r = nI (lenK kd w) ∧ TA f 0 u.2.2.2.1 u.1 (tK kd w)) (fun (u : Nat × Nat × Nat × (Nat → Int32) × Int32) => [(o0, .inr (14, [.ref q1, .int x1, .ref q2, .ref q3, .ref q4, .ref q5, .int x6, .int x7, .ref q8, .ref q9, .ref q10, .ref sh])), (sh, .inr (11, [.ref sb])), (sb, .inr (1, [.ref u.2.1, .int 0, .int u.2.2.2.2, .int (nI u.1)])), (u.2.1, .inl (cB, u.2.2.1, .inl u.2.2.2.1))])) 9 306 (va_A [(o0, .inr (14, [.ref q1, .int x1, .ref q2, .ref q3, .ref q4, .ref q5, .int x6, .int x7, .ref q8, .ref q9, .ref q10, .ref sh])), (sh, .inr (11, [.ref sb])), (sb, .inr (1, [.ref a, .int 0, .int mb, .int (nI n)])), (a, .inl (cB, m, .inl f))] sz) := by
  refine Met.ofW (cc := cX11_show) (maxL := 2) (ret := (some .int)) (by decide) rfl ?_
  intro p e s m9 args below meth c s₁ B hml hv
  obtain ⟨rfl, hsz, hP, hKK, hD0, hFx⟩ := hv
  have hK := hKK.1
  have hx := B.exec
  have hb := B.bytes
  have hr := B.returns
  have ht : ∀ w ∈ tw_W, w.before _ s = true := fun w h => atoms_spec (ws := Cond.code yX11_show cX11_show 2 (some .int) :: tw_W) B.pre w (List.mem_cons_of_mem _ h)
  have hown : s.vm.findClass RX11 = some m9.cls := findClass_of_methodNamed B.named
  have hlocks := B.notSynchronized
  subst hsz
  unfold qi_
  have hD := hD0.self (sz := s.heap.size)
  generalize hAe : va_A [(o0, .inr (14, [.ref q1, .int x1, .ref q2, .ref q3, .ref q4, .ref q5, .int x6, .int x7, .ref q8, .ref q9, .ref q10, .ref sh])), (sh, .inr (11, [.ref sb])), (sb, .inr (1, [.ref a, .int 0, .int mb, .int (nI n)])), (a, .inl (cB, m, .inl f))] s.heap.size = A at hD hFx ⊢
  have hA : ∀ q : Nat, s.heap.size ≤ q → A q := fun q h => by rw [← hAe]; exact Or.inr h
  have hS : va_S A s.heap s.heap [] := va_S.rf
  have hP : va_P (dC, dI) vwCl [(o0, .inr (14, [.ref q1, .int x1, .ref q2, .ref q3, .ref q4, .ref q5, .int x6, .int x7, .ref q8, .ref q9, .ref q10, .ref sh])), (sh, .inr (11, [.ref sb])), (sb, .inr (1, [.ref a, .int 0, .int mb, .int (nI n)])), (a, .inl (cB, m, .inl f))] s.heap := hP
  have hl := lv_entry ([.ref o0, .int w]) (n := 2) (Nat.le_of_ble_eq_true rfl)
  rw [lg_entry_eq]
  generalize (lg_sl ([.ref o0, .int w]) ++ List.replicate (2 - (lg_sl ([.ref o0, .int w])).length) Slot.unset).toArray = ls at hl ⊢
  have hl : lv_has ls 2 [(0, .ref o0), (1, .int w)] := hl
  refine lv_aload_n hx hb xdX11_show_0 rfl (lv_at hl 0 rfl) ?_
  refine va_get (D := (dC, dI)) (ci := 14) (v := .ref sh) (C := RX11) (T := TX11) (N := 12) hx hb ht xiX11 hown hK hP 0 rfl rfl 11 (by decide) (ht _ xw_140) (fun _ h9 => h9) rfl xdX11_show_1 ?_
  refine lv_iload_n hx hb xdX11_show_4 rfl (lv_at hl 1 rfl) ?_
  refine ca_i (wr := [(o0, .inr (14, [.ref q1, .int x1, .ref q2, .ref q3, .ref q4, .ref q5, .int x6, .int x7, .ref q8, .ref q9, .ref q10, .ref sh]))]) (rn_V (n := 1) (As := [.int w]) (rest := []) hx hb hml hown ht hKK hFx hP hD hS hA (c_sx_spell l dC dI cI cB cZ cJ cR tb s.heap.size sh sb a m n f mb w (by first | assumption | omega | rfl | exact sb_fit0) (by first | assumption | omega | rfl | exact sb_fit0) (by first | assumption | omega | rfl | exact sb_fit0)) xw_141 xw_142 (by decide +kernel) rfl rfl ⟨Nat.le_of_ble_eq_true rfl, Nat.le_of_ble_eq_true rfl⟩ [1, 2, 3] rfl (by decide) rfl rfl rfl rfl hl.1 rfl (Nat.le_of_ble_eq_true rfl) xdX11_show_5 ⟨Nat.le_of_ble_eq_true rfl, Nat.le_of_ble_eq_true rfl⟩) hP hD hS hA (isC := [1, 2, 3]) (isR := [0]) rfl rfl (by decide) (by decide) (fun r2 u H locs hw1 hP hD hS => ?_)
  obtain ⟨z3, z4, z5, f6, z7⟩ := u
  obtain ⟨g8, g9, g10, g11⟩ := hw1
  have g8 : z5 = 16 ∨ z5 = 34 := g8
  have g9 : z3 ≤ z5 := g9
  have g10 : sb_Fit f6 := g10
  have g11 : ∃ kd : Nat, kd ≤ 40 ∧ kdI w = nI kd ∧ r2 = nI (lenK kd w) ∧ TA f 0 f6 z3 (tK kd w) := g11
  have hP : va_P (dC, dI) vwCl [(o0, .inr (14, [.ref q1, .int x1, .ref q2, .ref q3, .ref q4, .ref q5, .int x6, .int x7, .ref q8, .ref q9, .ref q10, .ref sh])), (sh, .inr (11, [.ref sb])), (sb, .inr (1, [.ref z4, .int 0, .int z7, .int (nI z3)])), (z4, .inl (cB, z5, .inl f6))] H := hP
  have hD : va_D A [(o0, .inr (14, [.ref q1, .int x1, .ref q2, .ref q3, .ref q4, .ref q5, .int x6, .int x7, .ref q8, .ref q9, .ref q10, .ref sh])), (sh, .inr (11, [.ref sb])), (sb, .inr (1, [.ref z4, .int 0, .int z7, .int (nI z3)])), (z4, .inl (cB, z5, .inl f6))] := hD
  refine W.widen (k := 9) (n := 306) (by omega) (by omega) ?_
  have hP9 := hP.sub (ws' := [(o0, .inr (14, [.ref q1, .int x1, .ref q2, .ref q3, .ref q4, .ref q5, .int x6, .int x7, .ref q8, .ref q9, .ref q10, .ref sh])), (sh, .inr (11, [.ref sb])), (sb, .inr (1, [.ref z4, .int 0, .int z7, .int (nI z3)])), (z4, .inl (cB, z5, .inl f6))]) [0, 1, 2, 3] rfl
  have hD9 := hD.sub (ws' := [(o0, .inr (14, [.ref q1, .int x1, .ref q2, .ref q3, .ref q4, .ref q5, .int x6, .int x7, .ref q8, .ref q9, .ref q10, .ref sh])), (sh, .inr (11, [.ref sb])), (sb, .inr (1, [.ref z4, .int 0, .int z7, .int (nI z3)])), (z4, .inl (cB, z5, .inl f6))]) [0, 1, 2, 3] (by decide) rfl
  refine W.widen (k := 9) (n := 306) (by omega) (by omega) ?_
  exact W.iret (v := r2) hx hb hr (fun t ht9 hW => ⟨⟨r2, (z3, z4, z5, f6, z7), rfl, ⟨(by first | assumption | omega | (dsimp only; omega) | (dsimp only; assumption) | rfl), (by first | assumption | omega | (dsimp only; omega) | (dsimp only; assumption) | rfl), (by first | assumption | omega | (dsimp only; omega) | (dsimp only; assumption) | rfl), (by first | assumption | omega | (dsimp only; omega) | (dsimp only; assumption) | rfl)⟩, by rw [ht9]; exact hP9, hD9⟩, hS.F ht9⟩) hS.2.2 xdX11_show_8
set_option maxHeartbeats 16000000 in
set_option maxRecDepth 100000 in
/-- octet -/
theorem c_sx_octet (l : Launch) (dC : Nat → ClassId) (dI : Nat → Nat → Nat) (cI cB cZ cJ cR : ClassId) (tb : Nat → Nat) (sz : Nat) (o0 : Nat) (q1 : Nat) (x1 : Int32) (q2 : Nat) (q3 : Nat) (q4 : Nat) (q5 : Nat) (x6 : Int32) (x7 : Int32) (q8 : Nat) (q9 : Nat) (q10 : Nat) (sh : Nat) (sb : Nat) (a : Nat) (m : Nat) (n : Nat) (f : Nat → Int32) (mb : Int32) (x : Int32) (hm : m = 16 ∨ m = 34) (hf : sb_Fit f) (hn : n ≤ m) : Met l yX11_octet (Cond.code yX11_octet cX11_octet 2 (some .int) :: tw_W) ({ frames := 5, cells := 0, slots := 0, locals := 109 }) (pc_ (dC, dI) (tyS cI cB cZ cJ cR) tb [(o0, .inr (14, [.ref q1, .int x1, .ref q2, .ref q3, .ref q4, .ref q5, .int x6, .int x7, .ref q8, .ref q9, .ref q10, .ref sh])), (sh, .inr (11, [.ref sb])), (sb, .inr (1, [.ref a, .int 0, .int mb, .int (nI n)])), (a, .inl (cB, m, .inl f))] sz [.ref o0, .int x]) (qi_ (dC, dI) [(o0, .inr (14, [.ref q1, .int x1, .ref q2, .ref q3, .ref q4, .ref q5, .int x6, .int x7, .ref q8, .ref q9, .ref q10, .ref sh])), (sh, .inr (11, [.ref sb])), (sb, .inr (1, [.ref a, .int 0, .int mb, .int (nI n)])), (a, .inl (cB, m, .inl f))] sz (fun (r : Int32) (u : Unit) => ((0 ≤ x.toInt ∧ x.toInt < (n : Int) ∧ chR f x.toNatClampNeg r) ∨ ((x.toInt < 0 ∨ (n : Int) ≤ x.toInt) ∧ r = -1))) (fun (u : Unit) => [(o0, .inr (14, [.ref q1, .int x1, .ref q2, .ref q3, .ref q4, .ref q5, .int x6, .int x7, .ref q8, .ref q9, .ref q10, .ref sh])), (sh, .inr (11, [.ref sb])), (sb, .inr (1, [.ref a, .int 0, .int mb, .int (nI n)])), (a, .inl (cB, m, .inl f))])) 0 0 (va_A [(o0, .inr (14, [.ref q1, .int x1, .ref q2, .ref q3, .ref q4, .ref q5, .int x6, .int x7, .ref q8, .ref q9, .ref q10, .ref sh])), (sh, .inr (11, [.ref sb])), (sb, .inr (1, [.ref a, .int 0, .int mb, .int (nI n)])), (a, .inl (cB, m, .inl f))] sz) := by
  refine Met.ofW (cc := cX11_octet) (maxL := 2) (ret := (some .int)) (by decide) rfl ?_
  intro p e s m9 args below meth c s₁ B hml hv
  obtain ⟨rfl, hsz, hP, hKK, hD0, hFx⟩ := hv
  have hK := hKK.1
  have hx := B.exec
  have hb := B.bytes
  have hr := B.returns
  have ht : ∀ w ∈ tw_W, w.before _ s = true := fun w h => atoms_spec (ws := Cond.code yX11_octet cX11_octet 2 (some .int) :: tw_W) B.pre w (List.mem_cons_of_mem _ h)
  have hown : s.vm.findClass RX11 = some m9.cls := findClass_of_methodNamed B.named
  have hlocks := B.notSynchronized
  subst hsz
  unfold qi_
  have hD := hD0.self (sz := s.heap.size)
  generalize hAe : va_A [(o0, .inr (14, [.ref q1, .int x1, .ref q2, .ref q3, .ref q4, .ref q5, .int x6, .int x7, .ref q8, .ref q9, .ref q10, .ref sh])), (sh, .inr (11, [.ref sb])), (sb, .inr (1, [.ref a, .int 0, .int mb, .int (nI n)])), (a, .inl (cB, m, .inl f))] s.heap.size = A at hD hFx ⊢
  have hA : ∀ q : Nat, s.heap.size ≤ q → A q := fun q h => by rw [← hAe]; exact Or.inr h
  have hS : va_S A s.heap s.heap [] := va_S.rf
  have hP : va_P (dC, dI) vwCl [(o0, .inr (14, [.ref q1, .int x1, .ref q2, .ref q3, .ref q4, .ref q5, .int x6, .int x7, .ref q8, .ref q9, .ref q10, .ref sh])), (sh, .inr (11, [.ref sb])), (sb, .inr (1, [.ref a, .int 0, .int mb, .int (nI n)])), (a, .inl (cB, m, .inl f))] s.heap := hP
  have hl := lv_entry ([.ref o0, .int x]) (n := 2) (Nat.le_of_ble_eq_true rfl)
  rw [lg_entry_eq]
  generalize (lg_sl ([.ref o0, .int x]) ++ List.replicate (2 - (lg_sl ([.ref o0, .int x])).length) Slot.unset).toArray = ls at hl ⊢
  have hl : lv_has ls 2 [(0, .ref o0), (1, .int x)] := hl
  refine lv_aload_n hx hb xdX11_octet_0 rfl (lv_at hl 0 rfl) ?_
  refine va_get (D := (dC, dI)) (ci := 14) (v := .ref sh) (C := RX11) (T := TX11) (N := 12) hx hb ht xiX11 hown hK hP 0 rfl rfl 11 (by decide) (ht _ xw_140) (fun _ h9 => h9) rfl xdX11_octet_1 ?_
  refine lv_iload_n hx hb xdX11_octet_4 rfl (lv_at hl 1 rfl) ?_
  refine ca_i (wr := [(o0, .inr (14, [.ref q1, .int x1, .ref q2, .ref q3, .ref q4, .ref q5, .int x6, .int x7, .ref q8, .ref q9, .ref q10, .ref sh]))]) (rn_V (n := 1) (As := [.int x]) (rest := []) hx hb hml hown ht hKK hFx hP hD hS hA (c_sx_byteAt l dC dI cI cB cZ cJ cR tb s.heap.size sh sb a m n f mb x (by first | assumption | omega | rfl | exact sb_fit0) (by first | assumption | omega | rfl | exact sb_fit0) (by first | assumption | omega | rfl | exact sb_fit0)) xw_143 xw_144 (by decide +kernel) rfl rfl ⟨Nat.le_of_ble_eq_true rfl, Nat.le_of_ble_eq_true rfl⟩ [1, 2, 3] rfl (by decide) rfl rfl rfl rfl hl.1 rfl (Nat.le_of_ble_eq_true rfl) xdX11_octet_5 ⟨Nat.le_of_ble_eq_true rfl, Nat.le_of_ble_eq_true rfl⟩) hP hD hS hA (isC := [1, 2, 3]) (isR := [0]) rfl rfl (by decide) (by decide) (fun r2 u H locs hw1 hP hD hS => ?_)
  have g3 := hw1
  have g3 : (0 ≤ x.toInt ∧ x.toInt < (n : Int) ∧ chR f x.toNatClampNeg r2) ∨ ((x.toInt < 0 ∨ (n : Int) ≤ x.toInt) ∧ r2 = -1) := g3
  have hP : va_P (dC, dI) vwCl [(o0, .inr (14, [.ref q1, .int x1, .ref q2, .ref q3, .ref q4, .ref q5, .int x6, .int x7, .ref q8, .ref q9, .ref q10, .ref sh])), (sh, .inr (11, [.ref sb])), (sb, .inr (1, [.ref a, .int 0, .int mb, .int (nI n)])), (a, .inl (cB, m, .inl f))] H := hP
  have hD : va_D A [(o0, .inr (14, [.ref q1, .int x1, .ref q2, .ref q3, .ref q4, .ref q5, .int x6, .int x7, .ref q8, .ref q9, .ref q10, .ref sh])), (sh, .inr (11, [.ref sb])), (sb, .inr (1, [.ref a, .int 0, .int mb, .int (nI n)])), (a, .inl (cB, m, .inl f))] := hD
  refine W.widen (k := 0) (n := 0) (by omega) (by omega) ?_
  have hP9 := hP.sub (ws' := [(o0, .inr (14, [.ref q1, .int x1, .ref q2, .ref q3, .ref q4, .ref q5, .int x6, .int x7, .ref q8, .ref q9, .ref q10, .ref sh])), (sh, .inr (11, [.ref sb])), (sb, .inr (1, [.ref a, .int 0, .int mb, .int (nI n)])), (a, .inl (cB, m, .inl f))]) [0, 1, 2, 3] rfl
  have hD9 := hD.sub (ws' := [(o0, .inr (14, [.ref q1, .int x1, .ref q2, .ref q3, .ref q4, .ref q5, .int x6, .int x7, .ref q8, .ref q9, .ref q10, .ref sh])), (sh, .inr (11, [.ref sb])), (sb, .inr (1, [.ref a, .int 0, .int mb, .int (nI n)])), (a, .inl (cB, m, .inl f))]) [0, 1, 2, 3] (by decide) rfl
  refine W.widen (k := 0) (n := 0) (by omega) (by omega) ?_
  exact W.iret (v := r2) hx hb hr (fun t ht9 hW => ⟨⟨r2, (), rfl, (by first | assumption | omega | (dsimp only; omega) | (dsimp only; assumption) | rfl), by rw [ht9]; exact hP9, hD9⟩, hS.F ht9⟩) hS.2.2 xdX11_octet_8
