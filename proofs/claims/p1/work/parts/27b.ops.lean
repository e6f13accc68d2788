theorem sdX8_addOperands_0 : decode cX8_addOperands 0 = .ok (.iload_n 2, 1) := by decide +kernel
theorem sdX8_addOperands_1 : decode cX8_addOperands 1 = .ok (.iload_n 1, 1) := by decide +kernel
theorem sdX8_addOperands_2 : decode cX8_addOperands 2 = .ok (.invokestatic 63, 3) := by decide +kernel
theorem sw_112 : (.code yX4_number cX4_number 2 (some .int) : Cond) ∈ tw_W := tw_in (by decide +kernel) (by decide +kernel)
theorem sw_113 : ∀ w ∈ ([.methodLink RX8 63 yX4_number, .static yX4_number, .initialized yX4_number.cls] : List Cond), w ∈ tw_W := tw_all (by decide +kernel)
theorem sdX8_addOperands_5 : decode cX8_addOperands 5 = .ok (.istore_n 3, 1) := by decide +kernel
theorem sdX8_addOperands_6 : decode cX8_addOperands 6 = .ok (.iload_n 2, 1) := by decide +kernel
theorem sdX8_addOperands_7 : decode cX8_addOperands 7 = .ok (.invokestatic 67, 3) := by decide +kernel
theorem sw_114 : (.code yX4_target cX4_target 1 (some .int) : Cond) ∈ tw_W := tw_in (by decide +kernel) (by decide +kernel)
theorem sw_115 : ∀ w ∈ ([.methodLink RX8 67 yX4_target, .static yX4_target, .initialized yX4_target.cls] : List Cond), w ∈ tw_W := tw_all (by decide +kernel)
theorem sdX8_addOperands_10 : decode cX8_addOperands 10 = .ok (.istore 4, 2) := by decide +kernel
theorem sdX8_addOperands_12 : decode cX8_addOperands 12 = .ok (.iload_n 2, 1) := by decide +kernel
theorem sdX8_addOperands_13 : decode cX8_addOperands 13 = .ok (.invokestatic 70, 3) := by decide +kernel
theorem sw_116 : (.code yX4_first cX4_first 1 (some .int) : Cond) ∈ tw_W := tw_in (by decide +kernel) (by decide +kernel)
theorem sw_117 : ∀ w ∈ ([.methodLink RX8 70 yX4_first, .static yX4_first, .initialized yX4_first.cls] : List Cond), w ∈ tw_W := tw_all (by decide +kernel)
theorem sdX8_addOperands_16 : decode cX8_addOperands 16 = .ok (.istore 5, 2) := by decide +kernel
theorem sdX8_addOperands_18 : decode cX8_addOperands 18 = .ok (.iload_n 2, 1) := by decide +kernel
theorem sdX8_addOperands_19 : decode cX8_addOperands 19 = .ok (.invokestatic 73, 3) := by decide +kernel
theorem sw_118 : ∀ w ∈ ([.methodLink RX8 73 yX4_second, .static yX4_second, .initialized yX4_second.cls] : List Cond), w ∈ tw_W := tw_all (by decide +kernel)
theorem sdX8_addOperands_22 : decode cX8_addOperands 22 = .ok (.istore 6, 2) := by decide +kernel
theorem sdX8_addOperands_24 : decode cX8_addOperands 24 = .ok (.iload_n 1, 1) := by decide +kernel
theorem sdX8_addOperands_25 : decode cX8_addOperands 25 = .ok (.ifCond .eq 8, 3) := by decide +kernel
theorem sdX8_addOperands_33 : decode cX8_addOperands 33 = .ok (.aload_n 0, 1) := by decide +kernel
theorem sdX8_addOperands_34 : decode cX8_addOperands 34 = .ok (.iload 4, 2) := by decide +kernel
theorem sdX8_addOperands_36 : decode cX8_addOperands 36 = .ok (.iload_n 3, 1) := by decide +kernel
theorem sdX8_addOperands_37 : decode cX8_addOperands 37 = .ok (.bipush 12, 2) := by decide +kernel
theorem sdX8_addOperands_39 : decode cX8_addOperands 39 = .ok (.iushr, 1) := by decide +kernel
theorem sdX8_addOperands_40 : decode cX8_addOperands 40 = .ok (.invokevirtual 76, 3) := by decide +kernel
theorem sdX8_addOperands_43 : decode cX8_addOperands 43 = .ok (.goto 173, 3) := by decide +kernel
theorem sdX8_addOperands_216 : decode cX8_addOperands 216 = .ok (.return_, 1) := by decide +kernel
theorem sdX8_addOperands_28 : decode cX8_addOperands 28 = .ok (.iload_n 1, 1) := by decide +kernel
theorem sdX8_addOperands_29 : decode cX8_addOperands 29 = .ok (.iconst 1, 1) := by decide +kernel
theorem sdX8_addOperands_30 : decode cX8_addOperands 30 = .ok (.if_icmp .ne 16, 3) := by decide +kernel
theorem sdX8_addOperands_46 : decode cX8_addOperands 46 = .ok (.iload_n 1, 1) := by decide +kernel
theorem sdX8_addOperands_47 : decode cX8_addOperands 47 = .ok (.iconst 2, 1) := by decide +kernel
theorem sdX8_addOperands_48 : decode cX8_addOperands 48 = .ok (.if_icmp .ne 13, 3) := by decide +kernel
theorem sdX8_addOperands_61 : decode cX8_addOperands 61 = .ok (.iload_n 1, 1) := by decide +kernel
theorem sdX8_addOperands_62 : decode cX8_addOperands 62 = .ok (.iconst 3, 1) := by decide +kernel
theorem sdX8_addOperands_63 : decode cX8_addOperands 63 = .ok (.if_icmp .eq 15, 3) := by decide +kernel
theorem sdX8_addOperands_78 : decode cX8_addOperands 78 = .ok (.aload_n 0, 1) := by decide +kernel
theorem sdX8_addOperands_79 : decode cX8_addOperands 79 = .ok (.iload 4, 2) := by decide +kernel
theorem sdX8_addOperands_81 : decode cX8_addOperands 81 = .ok (.iload_n 3, 1) := by decide +kernel
theorem sdX8_addOperands_82 : decode cX8_addOperands 82 = .ok (.iload 5, 2) := by decide +kernel
theorem sdX8_addOperands_84 : decode cX8_addOperands 84 = .ok (.invokevirtual 79, 3) := by decide +kernel
theorem sw_119 : (.code yX8_addReach cX8_addReach 4 none : Cond) ∈ tw_W := tw_in (by decide +kernel) (by decide +kernel)
theorem sw_120 : ∀ w ∈ ([.methodLink RX8 79 yX8_addReach, .instanceMethod yX8_addReach, .selects RX8 yX8_addReach yX8_addReach, .initialized RX8] : List Cond), w ∈ tw_W := tw_all (by decide +kernel)
theorem sdX8_addOperands_87 : decode cX8_addOperands 87 = .ok (.goto 129, 3) := by decide +kernel
theorem sdX8_addOperands_66 : decode cX8_addOperands 66 = .ok (.iload_n 1, 1) := by decide +kernel
theorem sdX8_addOperands_67 : decode cX8_addOperands 67 = .ok (.bipush 10, 2) := by decide +kernel
theorem sdX8_addOperands_69 : decode cX8_addOperands 69 = .ok (.if_icmp .lt 21, 3) := by decide +kernel
theorem sdX8_addOperands_90 : decode cX8_addOperands 90 = .ok (.iload_n 1, 1) := by decide +kernel
theorem sdX8_addOperands_91 : decode cX8_addOperands 91 = .ok (.bipush 15, 2) := by decide +kernel
theorem sdX8_addOperands_93 : decode cX8_addOperands 93 = .ok (.if_icmp .lt 21, 3) := by decide +kernel
theorem sdX8_addOperands_114 : decode cX8_addOperands 114 = .ok (.iload_n 1, 1) := by decide +kernel
theorem sdX8_addOperands_115 : decode cX8_addOperands 115 = .ok (.bipush 9, 2) := by decide +kernel
theorem sdX8_addOperands_117 : decode cX8_addOperands 117 = .ok (.if_icmp .gt 29, 3) := by decide +kernel
theorem sdX8_addOperands_120 : decode cX8_addOperands 120 = .ok (.aload_n 0, 1) := by decide +kernel
theorem sdX8_addOperands_121 : decode cX8_addOperands 121 = .ok (.iload 5, 2) := by decide +kernel
theorem sdX8_addOperands_123 : decode cX8_addOperands 123 = .ok (.invokevirtual 83, 3) := by decide +kernel
theorem sdX8_addOperands_126 : decode cX8_addOperands 126 = .ok (.aload_n 0, 1) := by decide +kernel
theorem sdX8_addOperands_127 : decode cX8_addOperands 127 = .ok (.getfield 12, 3) := by decide +kernel
theorem sdX8_addOperands_130 : decode cX8_addOperands 130 = .ok (.ldc 86, 2) := by decide +kernel
theorem sdX8_addOperands_132 : decode cX8_addOperands 132 = .ok (.invokevirtual 58, 3) := by decide +kernel
theorem sdX8_addOperands_135 : decode cX8_addOperands 135 = .ok (.pop, 1) := by decide +kernel
theorem sdX8_addOperands_136 : decode cX8_addOperands 136 = .ok (.aload_n 0, 1) := by decide +kernel
theorem sdX8_addOperands_137 : decode cX8_addOperands 137 = .ok (.iload 6, 2) := by decide +kernel
theorem sdX8_addOperands_139 : decode cX8_addOperands 139 = .ok (.iload_n 3, 1) := by decide +kernel
theorem sdX8_addOperands_140 : decode cX8_addOperands 140 = .ok (.invokevirtual 76, 3) := by decide +kernel
theorem sdX8_addOperands_143 : decode cX8_addOperands 143 = .ok (.goto 73, 3) := by decide +kernel
theorem sdX8_addOperands_72 : decode cX8_addOperands 72 = .ok (.iload_n 1, 1) := by decide +kernel
theorem sdX8_addOperands_73 : decode cX8_addOperands 73 = .ok (.bipush 14, 2) := by decide +kernel
theorem sdX8_addOperands_75 : decode cX8_addOperands 75 = .ok (.if_icmp .gt 15, 3) := by decide +kernel
theorem sdX8_addOperands_96 : decode cX8_addOperands 96 = .ok (.iload_n 1, 1) := by decide +kernel
theorem sdX8_addOperands_97 : decode cX8_addOperands 97 = .ok (.bipush 17, 2) := by decide +kernel
theorem sdX8_addOperands_99 : decode cX8_addOperands 99 = .ok (.if_icmp .gt 15, 3) := by decide +kernel
theorem sdX8_addOperands_146 : decode cX8_addOperands 146 = .ok (.iload_n 1, 1) := by decide +kernel
theorem sdX8_addOperands_147 : decode cX8_addOperands 147 = .ok (.bipush 26, 2) := by decide +kernel
theorem sdX8_addOperands_149 : decode cX8_addOperands 149 = .ok (.if_icmp .gt 29, 3) := by decide +kernel
theorem sdX8_addOperands_178 : decode cX8_addOperands 178 = .ok (.aload_n 0, 1) := by decide +kernel
theorem sdX8_addOperands_179 : decode cX8_addOperands 179 = .ok (.iload 4, 2) := by decide +kernel
theorem sdX8_addOperands_181 : decode cX8_addOperands 181 = .ok (.invokevirtual 83, 3) := by decide +kernel
theorem sdX8_addOperands_184 : decode cX8_addOperands 184 = .ok (.aload_n 0, 1) := by decide +kernel
theorem sdX8_addOperands_185 : decode cX8_addOperands 185 = .ok (.getfield 12, 3) := by decide +kernel
theorem sdX8_addOperands_188 : decode cX8_addOperands 188 = .ok (.ldc 86, 2) := by decide +kernel
theorem sdX8_addOperands_190 : decode cX8_addOperands 190 = .ok (.invokevirtual 58, 3) := by decide +kernel
theorem sdX8_addOperands_193 : decode cX8_addOperands 193 = .ok (.pop, 1) := by decide +kernel
theorem sdX8_addOperands_194 : decode cX8_addOperands 194 = .ok (.aload_n 0, 1) := by decide +kernel
theorem sdX8_addOperands_195 : decode cX8_addOperands 195 = .ok (.iload 5, 2) := by decide +kernel
theorem sdX8_addOperands_197 : decode cX8_addOperands 197 = .ok (.invokevirtual 83, 3) := by decide +kernel
theorem sdX8_addOperands_200 : decode cX8_addOperands 200 = .ok (.aload_n 0, 1) := by decide +kernel
theorem sdX8_addOperands_201 : decode cX8_addOperands 201 = .ok (.getfield 12, 3) := by decide +kernel
theorem sdX8_addOperands_204 : decode cX8_addOperands 204 = .ok (.ldc 86, 2) := by decide +kernel
theorem sdX8_addOperands_206 : decode cX8_addOperands 206 = .ok (.invokevirtual 58, 3) := by decide +kernel
theorem sdX8_addOperands_209 : decode cX8_addOperands 209 = .ok (.pop, 1) := by decide +kernel
theorem sdX8_addOperands_210 : decode cX8_addOperands 210 = .ok (.aload_n 0, 1) := by decide +kernel
theorem sdX8_addOperands_211 : decode cX8_addOperands 211 = .ok (.iload 6, 2) := by decide +kernel
theorem sdX8_addOperands_213 : decode cX8_addOperands 213 = .ok (.invokevirtual 83, 3) := by decide +kernel
theorem sdX8_addOperands_152 : decode cX8_addOperands 152 = .ok (.aload_n 0, 1) := by decide +kernel
theorem sdX8_addOperands_153 : decode cX8_addOperands 153 = .ok (.iload 4, 2) := by decide +kernel
theorem sdX8_addOperands_155 : decode cX8_addOperands 155 = .ok (.invokevirtual 83, 3) := by decide +kernel
theorem sdX8_addOperands_158 : decode cX8_addOperands 158 = .ok (.aload_n 0, 1) := by decide +kernel
theorem sdX8_addOperands_159 : decode cX8_addOperands 159 = .ok (.getfield 12, 3) := by decide +kernel
theorem sdX8_addOperands_162 : decode cX8_addOperands 162 = .ok (.ldc 86, 2) := by decide +kernel
theorem sdX8_addOperands_164 : decode cX8_addOperands 164 = .ok (.invokevirtual 58, 3) := by decide +kernel
theorem sdX8_addOperands_167 : decode cX8_addOperands 167 = .ok (.pop, 1) := by decide +kernel
theorem sdX8_addOperands_168 : decode cX8_addOperands 168 = .ok (.aload_n 0, 1) := by decide +kernel
theorem sdX8_addOperands_169 : decode cX8_addOperands 169 = .ok (.iload 5, 2) := by decide +kernel
theorem sdX8_addOperands_171 : decode cX8_addOperands 171 = .ok (.iload_n 3, 1) := by decide +kernel
theorem sdX8_addOperands_172 : decode cX8_addOperands 172 = .ok (.invokevirtual 76, 3) := by decide +kernel
theorem sdX8_addOperands_175 : decode cX8_addOperands 175 = .ok (.goto 41, 3) := by decide +kernel
theorem sdX8_addOperands_102 : decode cX8_addOperands 102 = .ok (.aload_n 0, 1) := by decide +kernel
theorem sdX8_addOperands_103 : decode cX8_addOperands 103 = .ok (.iload 6, 2) := by decide +kernel
theorem sdX8_addOperands_105 : decode cX8_addOperands 105 = .ok (.iload_n 3, 1) := by decide +kernel
theorem sdX8_addOperands_106 : decode cX8_addOperands 106 = .ok (.iload 5, 2) := by decide +kernel
theorem sdX8_addOperands_108 : decode cX8_addOperands 108 = .ok (.invokevirtual 79, 3) := by decide +kernel
theorem sdX8_addOperands_111 : decode cX8_addOperands 111 = .ok (.goto 105, 3) := by decide +kernel
theorem sdX8_addOperands_51 : decode cX8_addOperands 51 = .ok (.aload_n 0, 1) := by decide +kernel
theorem sdX8_addOperands_52 : decode cX8_addOperands 52 = .ok (.iload 4, 2) := by decide +kernel
theorem sdX8_addOperands_54 : decode cX8_addOperands 54 = .ok (.iload_n 3, 1) := by decide +kernel
theorem sdX8_addOperands_55 : decode cX8_addOperands 55 = .ok (.invokevirtual 76, 3) := by decide +kernel
theorem sdX8_addOperands_58 : decode cX8_addOperands 58 = .ok (.goto 158, 3) := by decide +kernel
theorem sdX8_spell_0 : decode cX8_spell 0 = .ok (.iload_n 1, 1) := by decide +kernel
theorem sdX8_spell_1 : decode cX8_spell 1 = .ok (.invokestatic 26, 3) := by decide +kernel
theorem sw_121 : (.code yX4_kindOf cX4_kindOf 2 (some .int) : Cond) ∈ tw_W := tw_in (by decide +kernel) (by decide +kernel)
theorem sw_122 : ∀ w ∈ ([.methodLink RX8 26 yX4_kindOf, .static yX4_kindOf, .initialized yX4_kindOf.cls] : List Cond), w ∈ tw_W := tw_all (by decide +kernel)
theorem sdX8_spell_4 : decode cX8_spell 4 = .ok (.istore_n 2, 1) := by decide +kernel
theorem sdX8_spell_5 : decode cX8_spell 5 = .ok (.aload_n 0, 1) := by decide +kernel
theorem sdX8_spell_6 : decode cX8_spell 6 = .ok (.getfield 12, 3) := by decide +kernel
theorem sdX8_spell_9 : decode cX8_spell 9 = .ok (.iconst 0, 1) := by decide +kernel
theorem sdX8_spell_10 : decode cX8_spell 10 = .ok (.invokevirtual 32, 3) := by decide +kernel
theorem sw_123 : (.code yJ4_setLength_d00df cJ4_setLength_d00df 2 none : Cond) ∈ tw_W := tw_in (by decide +kernel) (by decide +kernel)
theorem sw_124 : ∀ w ∈ ([.methodLink RX8 32 yJ4_setLength_d00df, .instanceMethod yJ4_setLength_d00df, .selects RJ4 yJ4_setLength_d00df yJ4_setLength_d00df, .initialized RJ4] : List Cond), w ∈ tw_W := tw_all (by decide +kernel)
theorem sdX8_spell_13 : decode cX8_spell 13 = .ok (.aload_n 0, 1) := by decide +kernel
theorem sdX8_spell_14 : decode cX8_spell 14 = .ok (.iload_n 2, 1) := by decide +kernel
theorem sdX8_spell_15 : decode cX8_spell 15 = .ok (.invokevirtual 36, 3) := by decide +kernel
theorem sw_125 : (.code yX8_addName cX8_addName 4 none : Cond) ∈ tw_W := tw_in (by decide +kernel) (by decide +kernel)
theorem sw_126 : ∀ w ∈ ([.methodLink RX8 36 yX8_addName, .instanceMethod yX8_addName, .selects RX8 yX8_addName yX8_addName, .initialized RX8] : List Cond), w ∈ tw_W := tw_all (by decide +kernel)
theorem sdX8_spell_18 : decode cX8_spell 18 = .ok (.iload_n 2, 1) := by decide +kernel
theorem sdX8_spell_19 : decode cX8_spell 19 = .ok (.bipush 40, 2) := by decide +kernel
theorem sdX8_spell_21 : decode cX8_spell 21 = .ok (.if_icmp .ne 11, 3) := by decide +kernel
theorem sdX8_spell_32 : decode cX8_spell 32 = .ok (.iload_n 2, 1) := by decide +kernel
theorem sdX8_spell_33 : decode cX8_spell 33 = .ok (.bipush 37, 2) := by decide +kernel
theorem sdX8_spell_35 : decode cX8_spell 35 = .ok (.if_icmp .ge 19, 3) := by decide +kernel
theorem sdX8_spell_54 : decode cX8_spell 54 = .ok (.aload_n 0, 1) := by decide +kernel
theorem sdX8_spell_55 : decode cX8_spell 55 = .ok (.getfield 12, 3) := by decide +kernel
theorem sdX8_spell_58 : decode cX8_spell 58 = .ok (.invokevirtual 18, 3) := by decide +kernel
theorem sw_127 : (.code yJ4_length_8abf5 cJ4_length_8abf5 1 (some .int) : Cond) ∈ tw_W := tw_in (by decide +kernel) (by decide +kernel)
theorem sw_128 : ∀ w ∈ ([.methodLink RX8 18 yJ4_length_8abf5, .instanceMethod yJ4_length_8abf5, .selects RJ4 yJ4_length_8abf5 yJ4_length_8abf5, .initialized RJ4] : List Cond), w ∈ tw_W := tw_all (by decide +kernel)
theorem sdX8_spell_61 : decode cX8_spell 61 = .ok (.ireturn, 1) := by decide +kernel
theorem sdX8_spell_38 : decode cX8_spell 38 = .ok (.aload_n 0, 1) := by decide +kernel
theorem sdX8_spell_39 : decode cX8_spell 39 = .ok (.getfield 12, 3) := by decide +kernel
theorem sdX8_spell_42 : decode cX8_spell 42 = .ok (.bipush 32, 2) := by decide +kernel
theorem sdX8_spell_44 : decode cX8_spell 44 = .ok (.invokevirtual 42, 3) := by decide +kernel
theorem sdX8_spell_47 : decode cX8_spell 47 = .ok (.pop, 1) := by decide +kernel
theorem sdX8_spell_48 : decode cX8_spell 48 = .ok (.aload_n 0, 1) := by decide +kernel
theorem sdX8_spell_49 : decode cX8_spell 49 = .ok (.iload_n 2, 1) := by decide +kernel
theorem sdX8_spell_50 : decode cX8_spell 50 = .ok (.iload_n 1, 1) := by decide +kernel
theorem sdX8_spell_51 : decode cX8_spell 51 = .ok (.invokevirtual 46, 3) := by decide +kernel
theorem sw_129 : (.code yX8_addOperands cX8_addOperands 7 none : Cond) ∈ tw_W := tw_in (by decide +kernel) (by decide +kernel)
theorem sw_130 : ∀ w ∈ ([.methodLink RX8 46 yX8_addOperands, .instanceMethod yX8_addOperands, .selects RX8 yX8_addOperands yX8_addOperands, .initialized RX8] : List Cond), w ∈ tw_W := tw_all (by decide +kernel)
theorem sdX8_spell_24 : decode cX8_spell 24 = .ok (.aload_n 0, 1) := by decide +kernel
theorem sdX8_spell_25 : decode cX8_spell 25 = .ok (.iload_n 1, 1) := by decide +kernel
theorem sdX8_spell_26 : decode cX8_spell 26 = .ok (.invokevirtual 39, 3) := by decide +kernel
theorem sw_131 : (.code yX8_addHex cX8_addHex 3 none : Cond) ∈ tw_W := tw_in (by decide +kernel) (by decide +kernel)
theorem sw_132 : ∀ w ∈ ([.methodLink RX8 39 yX8_addHex, .instanceMethod yX8_addHex, .selects RX8 yX8_addHex yX8_addHex, .initialized RX8] : List Cond), w ∈ tw_W := tw_all (by decide +kernel)
theorem sdX8_spell_29 : decode cX8_spell 29 = .ok (.goto 25, 3) := by decide +kernel
def opX (kd : Nat) (w : Int32) : Nat := (if (nI kd) = 0 then (1 + dl (((w.toUInt32 >>> ((7 : Int32).toUInt32 &&& Int32.toUInt32 31)).toInt32) &&& 31) + 2 + dl (((nuX kd w).toUInt32 >>> ((12 : Int32).toUInt32 &&& Int32.toUInt32 31)).toInt32)) else (if (nI kd) = 1 then (1 + dl (((w.toUInt32 >>> ((7 : Int32).toUInt32 &&& Int32.toUInt32 31)).toInt32) &&& 31) + 2 + dl (((nuX kd w).toUInt32 >>> ((12 : Int32).toUInt32 &&& Int32.toUInt32 31)).toInt32)) else (if (nI kd) = 2 then (1 + dl (((w.toUInt32 >>> ((7 : Int32).toUInt32 &&& Int32.toUInt32 31)).toInt32) &&& 31) + 2 + dl (nuX kd w)) else (if (nI kd) = 3 then ((1 + dl (((w.toUInt32 >>> ((7 : Int32).toUInt32 &&& Int32.toUInt32 31)).toInt32) &&& 31) + 2 + dl (nuX kd w)) + 1 + (1 + dl (((w.toUInt32 >>> ((15 : Int32).toUInt32 &&& Int32.toUInt32 31)).toInt32) &&& 31)) + 1) else (if (nI kd) < 10 then ((1 + dl (((w.toUInt32 >>> ((15 : Int32).toUInt32 &&& Int32.toUInt32 31)).toInt32) &&& 31)) + 2 + (1 + dl (((w.toUInt32 >>> ((20 : Int32).toUInt32 &&& Int32.toUInt32 31)).toInt32) &&& 31) + 2 + dl (nuX kd w))) else (if 14 < (nI kd) then (if 17 < (nI kd) then (if 26 < (nI kd) then ((1 + dl (((w.toUInt32 >>> ((7 : Int32).toUInt32 &&& Int32.toUInt32 31)).toInt32) &&& 31)) + 2 + (1 + dl (((w.toUInt32 >>> ((15 : Int32).toUInt32 &&& Int32.toUInt32 31)).toInt32) &&& 31)) + 2 + (1 + dl (((w.toUInt32 >>> ((20 : Int32).toUInt32 &&& Int32.toUInt32 31)).toInt32) &&& 31))) else ((1 + dl (((w.toUInt32 >>> ((7 : Int32).toUInt32 &&& Int32.toUInt32 31)).toInt32) &&& 31)) + 2 + (1 + dl (((w.toUInt32 >>> ((15 : Int32).toUInt32 &&& Int32.toUInt32 31)).toInt32) &&& 31) + 2 + dl (nuX kd w)))) else ((1 + dl (((w.toUInt32 >>> ((20 : Int32).toUInt32 &&& Int32.toUInt32 31)).toInt32) &&& 31) + 2 + dl (nuX kd w)) + 1 + (1 + dl (((w.toUInt32 >>> ((15 : Int32).toUInt32 &&& Int32.toUInt32 31)).toInt32) &&& 31)) + 1)) else ((1 + dl (((w.toUInt32 >>> ((7 : Int32).toUInt32 &&& Int32.toUInt32 31)).toInt32) &&& 31) + 2 + dl (nuX kd w)) + 1 + (1 + dl (((w.toUInt32 >>> ((15 : Int32).toUInt32 &&& Int32.toUInt32 31)).toInt32) &&& 31)) + 1)))))))
set_option maxHeartbeats 4000000 in
set_option maxRecDepth 100000 in
/-- addOperands -/
theorem c_sh_ops (l : Launch) (dC : Nat → ClassId) (dI : Nat → Nat → Nat) (cI cB cZ cJ cR : ClassId) (tb : Nat → Nat) (sz : Nat) (sh : Nat) (sb : Nat) (a : Nat) (m : Nat) (n : Nat) (f : Nat → Int32) (kd : Nat) (w : Int32) (hm : m = 16 ∨ m = 34) (hf : sb_Fit f) (h1 : kd ≤ 36) (h2 : n ≤ 7) : Met l yX8_addOperands (Cond.code yX8_addOperands cX8_addOperands 7 none :: tw_W) ({ frames := 9, cells := 8, slots := 272, locals := 195 }) (pc_ (dC, dI) (tyS cI cB cZ cJ cR) tb [(sh, .inr (11, [.ref sb])), (sb, .inr (1, [.ref a, .int 0, .int 0, .int (nI n)])), (a, .inl (cB, m, .inl f))] sz [.ref sh, .int (nI kd), .int w]) (qv_ (dC, dI) [(sh, .inr (11, [.ref sb])), (sb, .inr (1, [.ref a, .int 0, .int 0, .int (nI n)])), (a, .inl (cB, m, .inl f))] sz (fun (u : Nat × Nat × Nat × (Nat → Int32)) => u.1 = n + opX kd w ∧ (u.2.2.1 = 16 ∨ u.2.2.1 = 34) ∧ u.1 ≤ u.2.2.1 ∧ sb_Fit u.2.2.2) (fun (u : Nat × Nat × Nat × (Nat → Int32)) => [(sh, .inr (11, [.ref sb])), (sb, .inr (1, [.ref u.2.1, .int 0, .int 0, .int (nI u.1)])), (u.2.1, .inl (cB, u.2.2.1, .inl u.2.2.2))])) 8 272 (va_A [(sh, .inr (11, [.ref sb])), (sb, .inr (1, [.ref a, .int 0, .int 0, .int (nI n)])), (a, .inl (cB, m, .inl f))] sz) := by
  refine Met.ofW (cc := cX8_addOperands) (maxL := 7) (ret := none) (by decide) rfl ?_
  intro p e s m9 args below meth c s₁ B hml hv
  obtain ⟨rfl, hsz, hP, hKK, hD0, hFx⟩ := hv
  have hK := hKK.1
  have hx := B.exec
  have hb := B.bytes
  have hr := B.returns
  have ht : ∀ w ∈ tw_W, w.before _ s = true := fun w h => atoms_spec (ws := Cond.code yX8_addOperands cX8_addOperands 7 none :: tw_W) B.pre w (List.mem_cons_of_mem _ h)
  have hown : s.vm.findClass RX8 = some m9.cls := findClass_of_methodNamed B.named
  have hlocks := B.notSynchronized
  subst hsz
  unfold qv_
  have hD := hD0.self (sz := s.heap.size)
  generalize hAe : va_A [(sh, .inr (11, [.ref sb])), (sb, .inr (1, [.ref a, .int 0, .int 0, .int (nI n)])), (a, .inl (cB, m, .inl f))] s.heap.size = A at hD hFx ⊢
  have hA : ∀ q : Nat, s.heap.size ≤ q → A q := fun q h => by rw [← hAe]; exact Or.inr h
  have hS : va_S A s.heap s.heap [] := va_S.rf
  have hP : va_P (dC, dI) vwCl [(sh, .inr (11, [.ref sb])), (sb, .inr (1, [.ref a, .int 0, .int 0, .int (nI n)])), (a, .inl (cB, m, .inl f))] s.heap := hP
  have hl := lv_entry ([.ref sh, .int (nI kd), .int w]) (n := 7) (Nat.le_of_ble_eq_true rfl)
  rw [lg_entry_eq]
  generalize (lg_sl ([.ref sh, .int (nI kd), .int w]) ++ List.replicate (7 - (lg_sl ([.ref sh, .int (nI kd), .int w])).length) Slot.unset).toArray = ls at hl ⊢
  have hl : lv_has ls 7 [(0, .ref sh), (1, .int (nI kd)), (2, .int w)] := hl
  have hl12 : lenS.getD 12 0 = 2 := by decide
  refine lv_iload_n hx hb sdX8_addOperands_0 rfl (lv_at hl 2 rfl) ?_
  refine lv_iload_n hx hb sdX8_addOperands_1 rfl (lv_at hl 1 rfl) ?_
  refine ca_i (wr := [(sh, .inr (11, [.ref sb])), (sb, .inr (1, [.ref a, .int 0, .int 0, .int (nI n)])), (a, .inl (cB, m, .inl f))]) (rn_S (n := 2) (As := [.int w, .int (nI kd)]) (rest := []) hx hb hml hown ht hKK hFx hP hD hS hA (c_sh_number l dC dI cI cB cZ cJ cR tb s.heap.size w kd) sw_112 sw_113 (by decide +kernel) rfl rfl ⟨Nat.le_of_ble_eq_true rfl, Nat.le_of_ble_eq_true rfl⟩ [] rfl (by decide) rfl hl.1 rfl (Nat.le_of_ble_eq_true rfl) sdX8_addOperands_2 ⟨Nat.le_of_ble_eq_true rfl, Nat.le_of_ble_eq_true rfl⟩) hP hD hS hA (isC := []) (isR := [0, 1, 2]) rfl rfl (by decide) (by decide) (fun r2 u H locs hw1 hP hD hS => ?_)
  subst hw1
  have hP : va_P (dC, dI) vwCl [(sh, .inr (11, [.ref sb])), (sb, .inr (1, [.ref a, .int 0, .int 0, .int (nI n)])), (a, .inl (cB, m, .inl f))] H := hP
  have hD : va_D A [(sh, .inr (11, [.ref sb])), (sb, .inr (1, [.ref a, .int 0, .int 0, .int (nI n)])), (a, .inl (cB, m, .inl f))] := hD
  refine W.widen (k := 0) (n := 0) (by omega) (by omega) ?_
  refine tp_i (y := (nuX kd w)) (rfl) ?_
  refine lv_istore_n (lv' := [(3, .int (nuX kd w)), (0, .ref sh), (1, .int (nI kd)), (2, .int w)]) hx hb sdX8_addOperands_5 rfl hl (by decide) rfl (fun ls hl => ?_)
  refine lv_iload_n hx hb sdX8_addOperands_6 rfl (lv_at hl 3 rfl) ?_
  refine ca_i (wr := [(sh, .inr (11, [.ref sb])), (sb, .inr (1, [.ref a, .int 0, .int 0, .int (nI n)])), (a, .inl (cB, m, .inl f))]) (rn_S (n := 1) (As := [.int w]) (rest := []) hx hb hml hown ht hKK hFx hP hD hS hA (c_sh_target l dC dI cI cB cZ cJ cR tb H.size w) sw_114 sw_115 (by decide +kernel) rfl rfl ⟨Nat.le_of_ble_eq_true rfl, Nat.le_of_ble_eq_true rfl⟩ [] rfl (by decide) rfl hl.1 rfl (Nat.le_of_ble_eq_true rfl) sdX8_addOperands_7 ⟨Nat.le_of_ble_eq_true rfl, Nat.le_of_ble_eq_true rfl⟩) hP hD hS hA (isC := []) (isR := [0, 1, 2]) rfl rfl (by decide) (by decide) (fun r4 u H locs hw3 hP hD hS => ?_)
  subst hw3
  have hP : va_P (dC, dI) vwCl [(sh, .inr (11, [.ref sb])), (sb, .inr (1, [.ref a, .int 0, .int 0, .int (nI n)])), (a, .inl (cB, m, .inl f))] H := hP
  have hD : va_D A [(sh, .inr (11, [.ref sb])), (sb, .inr (1, [.ref a, .int 0, .int 0, .int (nI n)])), (a, .inl (cB, m, .inl f))] := hD
  refine W.widen (k := 0) (n := 0) (by omega) (by omega) ?_
  refine lv_istore (lv' := [(4, .int (((w.toUInt32 >>> ((7 : Int32).toUInt32 &&& Int32.toUInt32 31)).toInt32) &&& 31)), (3, .int (nuX kd w)), (0, .ref sh), (1, .int (nI kd)), (2, .int w)]) hx hb sdX8_addOperands_10 hl (by decide) rfl (fun ls hl => ?_)
  refine lv_iload_n hx hb sdX8_addOperands_12 rfl (lv_at hl 4 rfl) ?_
  refine ca_i (wr := [(sh, .inr (11, [.ref sb])), (sb, .inr (1, [.ref a, .int 0, .int 0, .int (nI n)])), (a, .inl (cB, m, .inl f))]) (rn_S (n := 1) (As := [.int w]) (rest := []) hx hb hml hown ht hKK hFx hP hD hS hA (c_sh_first l dC dI cI cB cZ cJ cR tb H.size w) sw_116 sw_117 (by decide +kernel) rfl rfl ⟨Nat.le_of_ble_eq_true rfl, Nat.le_of_ble_eq_true rfl⟩ [] rfl (by decide) rfl hl.1 rfl (Nat.le_of_ble_eq_true rfl) sdX8_addOperands_13 ⟨Nat.le_of_ble_eq_true rfl, Nat.le_of_ble_eq_true rfl⟩) hP hD hS hA (isC := []) (isR := [0, 1, 2]) rfl rfl (by decide) (by decide) (fun r6 u H locs hw5 hP hD hS => ?_)
  subst hw5
  have hP : va_P (dC, dI) vwCl [(sh, .inr (11, [.ref sb])), (sb, .inr (1, [.ref a, .int 0, .int 0, .int (nI n)])), (a, .inl (cB, m, .inl f))] H := hP
  have hD : va_D A [(sh, .inr (11, [.ref sb])), (sb, .inr (1, [.ref a, .int 0, .int 0, .int (nI n)])), (a, .inl (cB, m, .inl f))] := hD
  refine W.widen (k := 0) (n := 0) (by omega) (by omega) ?_
  refine lv_istore (lv' := [(5, .int (((w.toUInt32 >>> ((15 : Int32).toUInt32 &&& Int32.toUInt32 31)).toInt32) &&& 31)), (4, .int (((w.toUInt32 >>> ((7 : Int32).toUInt32 &&& Int32.toUInt32 31)).toInt32) &&& 31)), (3, .int (nuX kd w)), (0, .ref sh), (1, .int (nI kd)), (2, .int w)]) hx hb sdX8_addOperands_16 hl (by decide) rfl (fun ls hl => ?_)
  refine lv_iload_n hx hb sdX8_addOperands_18 rfl (lv_at hl 5 rfl) ?_
  refine ca_i (wr := [(sh, .inr (11, [.ref sb])), (sb, .inr (1, [.ref a, .int 0, .int 0, .int (nI n)])), (a, .inl (cB, m, .inl f))]) (rn_S (n := 1) (As := [.int w]) (rest := []) hx hb hml hown ht hKK hFx hP hD hS hA (c_sh_second l dC dI cI cB cZ cJ cR tb H.size w) sw_96 sw_118 (by decide +kernel) rfl rfl ⟨Nat.le_of_ble_eq_true rfl, Nat.le_of_ble_eq_true rfl⟩ [] rfl (by decide) rfl hl.1 rfl (Nat.le_of_ble_eq_true rfl) sdX8_addOperands_19 ⟨Nat.le_of_ble_eq_true rfl, Nat.le_of_ble_eq_true rfl⟩) hP hD hS hA (isC := []) (isR := [0, 1, 2]) rfl rfl (by decide) (by decide) (fun r8 u H locs hw7 hP hD hS => ?_)
  subst hw7
  have hP : va_P (dC, dI) vwCl [(sh, .inr (11, [.ref sb])), (sb, .inr (1, [.ref a, .int 0, .int 0, .int (nI n)])), (a, .inl (cB, m, .inl f))] H := hP
  have hD : va_D A [(sh, .inr (11, [.ref sb])), (sb, .inr (1, [.ref a, .int 0, .int 0, .int (nI n)])), (a, .inl (cB, m, .inl f))] := hD
  refine W.widen (k := 0) (n := 0) (by omega) (by omega) ?_
  refine lv_istore (lv' := [(6, .int (((w.toUInt32 >>> ((20 : Int32).toUInt32 &&& Int32.toUInt32 31)).toInt32) &&& 31)), (5, .int (((w.toUInt32 >>> ((15 : Int32).toUInt32 &&& Int32.toUInt32 31)).toInt32) &&& 31)), (4, .int (((w.toUInt32 >>> ((7 : Int32).toUInt32 &&& Int32.toUInt32 31)).toInt32) &&& 31)), (3, .int (nuX kd w)), (0, .ref sh), (1, .int (nI kd)), (2, .int w)]) hx hb sdX8_addOperands_22 hl (by decide) rfl (fun ls hl => ?_)
  refine lv_iload_n hx hb sdX8_addOperands_24 rfl (lv_at hl 5 rfl) ?_
  refine lv_if_eq (tgt := 33) hx hb sdX8_addOperands_25 (by decide) (fun h9 => ?_) (fun h9 => ?_)
  · refine lv_aload_n hx hb sdX8_addOperands_33 rfl (lv_at hl 4 rfl) ?_
    refine lv_iload hx hb sdX8_addOperands_34 (lv_at hl 2 rfl) ?_
    refine lv_iload_n hx hb sdX8_addOperands_36 rfl (lv_at hl 3 rfl) ?_
    refine lv_bipush (v := 12) hx hb sdX8_addOperands_37 (by decide) ?_
    refine lv_iushr hx hb sdX8_addOperands_39 rfl ?_
    have hd10 := dl_le (((w.toUInt32 >>> ((7 : Int32).toUInt32 &&& Int32.toUInt32 31)).toInt32) &&& 31)
    have hd11 := dl_le (((nuX kd w).toUInt32 >>> ((12 : Int32).toUInt32 &&& Int32.toUInt32 31)).toInt32)
    refine ca_v (wr := []) (rn_V (n := 2) (As := [.int (((w.toUInt32 >>> ((7 : Int32).toUInt32 &&& Int32.toUInt32 31)).toInt32) &&& 31), .int (((nuX kd w).toUInt32 >>> ((12 : Int32).toUInt32 &&& Int32.toUInt32 31)).toInt32)]) (rest := []) hx hb hml hown ht hKK hFx hP hD hS hA (c_sh_pair l dC dI cI cB cZ cJ cR tb H.size sh sb a m n f (((w.toUInt32 >>> ((7 : Int32).toUInt32 &&& Int32.toUInt32 31)).toInt32) &&& 31) (((nuX kd w).toUInt32 >>> ((12 : Int32).toUInt32 &&& Int32.toUInt32 31)).toInt32) (by first | assumption | omega) (by first | assumption | omega) (by first | assumption | omega)) sw_107 sw_108 (by decide +kernel) rfl rfl ⟨Nat.le_of_ble_eq_true rfl, Nat.le_of_ble_eq_true rfl⟩ [0, 1, 2] rfl (by decide) rfl rfl rfl rfl hl.1 rfl (Nat.le_of_ble_eq_true rfl) sdX8_addOperands_40 ⟨Nat.le_of_ble_eq_true rfl, Nat.le_of_ble_eq_true rfl⟩) hP hD hS hA (isC := [0, 1, 2]) (isR := []) rfl rfl (by decide) (by decide) (fun u H locs hw12 hP hD hS => ?_)
    obtain ⟨z14, z15, z16, f17⟩ := u
    obtain ⟨g18, g19, g20, g21⟩ := hw12
    have g18 : z14 = n + (1 + dl (((w.toUInt32 >>> ((7 : Int32).toUInt32 &&& Int32.toUInt32 31)).toInt32) &&& 31) + 2 + dl (((nuX kd w).toUInt32 >>> ((12 : Int32).toUInt32 &&& Int32.toUInt32 31)).toInt32)) := g18
    have g19 : z16 = 16 ∨ z16 = 34 := g19
    have g20 : z14 ≤ z16 := g20
    have g21 : sb_Fit f17 := g21
    have hP : va_P (dC, dI) vwCl [(sh, .inr (11, [.ref sb])), (sb, .inr (1, [.ref z15, .int 0, .int 0, .int (nI z14)])), (z15, .inl (cB, z16, .inl f17))] H := hP
    have hD : va_D A [(sh, .inr (11, [.ref sb])), (sb, .inr (1, [.ref z15, .int 0, .int 0, .int (nI z14)])), (z15, .inl (cB, z16, .inl f17))] := hD
    refine W.widen (k := 4) (n := 136) (by omega) (by omega) ?_
    refine lv_goto (tgt := 216) hx hb sdX8_addOperands_43 (by decide) ?_
    have hP9 := hP.sub (ws' := [(sh, .inr (11, [.ref sb])), (sb, .inr (1, [.ref z15, .int 0, .int 0, .int (nI z14)])), (z15, .inl (cB, z16, .inl f17))]) [0, 1, 2] rfl
    have hD9 := hD.sub (ws' := [(sh, .inr (11, [.ref sb])), (sb, .inr (1, [.ref z15, .int 0, .int 0, .int (nI z14)])), (z15, .inl (cB, z16, .inl f17))]) [0, 1, 2] (by decide) rfl
    refine W.widen (k := 8) (n := 272) (by omega) (by omega) ?_
    exact W.vret hx hb hr (fun t ht9 hW => ⟨⟨(z14, z15, z16, f17), rfl, ⟨(by dsimp only; unfold opX; rw [if_pos h9]; omega), (by first | assumption | omega | (dsimp only; omega) | (dsimp only; assumption) | rfl), (by first | assumption | omega | (dsimp only; omega) | (dsimp only; assumption) | rfl), (by first | assumption | omega | (dsimp only; omega) | (dsimp only; assumption) | rfl)⟩, by rw [ht9]; exact hP9, hD9⟩, hS.F ht9⟩) hS.2.2 sdX8_addOperands_216
  · refine lv_iload_n hx hb sdX8_addOperands_28 rfl (lv_at hl 5 rfl) ?_
    refine lv_iconst (v := 1) hx hb sdX8_addOperands_29 (by decide) ?_
    refine lv_icmp_ne (tgt := 46) hx hb sdX8_addOperands_30 (by decide) (fun h22 => ?_) (fun h22 => ?_)
    · refine lv_iload_n hx hb sdX8_addOperands_46 rfl (lv_at hl 5 rfl) ?_
      refine lv_iconst (v := 2) hx hb sdX8_addOperands_47 (by decide) ?_
      refine lv_icmp_ne (tgt := 61) hx hb sdX8_addOperands_48 (by decide) (fun h23 => ?_) (fun h23 => ?_)
      · refine lv_iload_n hx hb sdX8_addOperands_61 rfl (lv_at hl 5 rfl) ?_
        refine lv_iconst (v := 3) hx hb sdX8_addOperands_62 (by decide) ?_
        refine lv_icmp_eq (tgt := 78) hx hb sdX8_addOperands_63 (by decide) (fun h24 => ?_) (fun h24 => ?_)
        · refine lv_aload_n hx hb sdX8_addOperands_78 rfl (lv_at hl 4 rfl) ?_
          refine lv_iload hx hb sdX8_addOperands_79 (lv_at hl 2 rfl) ?_
          refine lv_iload_n hx hb sdX8_addOperands_81 rfl (lv_at hl 3 rfl) ?_
          refine lv_iload hx hb sdX8_addOperands_82 (lv_at hl 1 rfl) ?_
          have hd25 := dl_le (((w.toUInt32 >>> ((7 : Int32).toUInt32 &&& Int32.toUInt32 31)).toInt32) &&& 31)
          have hd26 := dl_le (nuX kd w)
          have hd27 := dl_le (((w.toUInt32 >>> ((15 : Int32).toUInt32 &&& Int32.toUInt32 31)).toInt32) &&& 31)
          refine ca_v (wr := []) (rn_V (n := 3) (As := [.int (((w.toUInt32 >>> ((7 : Int32).toUInt32 &&& Int32.toUInt32 31)).toInt32) &&& 31), .int (nuX kd w), .int (((w.toUInt32 >>> ((15 : Int32).toUInt32 &&& Int32.toUInt32 31)).toInt32) &&& 31)]) (rest := []) hx hb hml hown ht hKK hFx hP hD hS hA (c_sh_reach l dC dI cI cB cZ cJ cR tb H.size sh sb a m n f (((w.toUInt32 >>> ((7 : Int32).toUInt32 &&& Int32.toUInt32 31)).toInt32) &&& 31) (nuX kd w) (((w.toUInt32 >>> ((15 : Int32).toUInt32 &&& Int32.toUInt32 31)).toInt32) &&& 31) (by first | assumption | omega) (by first | assumption | omega) (by first | assumption | omega)) sw_119 sw_120 (by decide +kernel) rfl rfl ⟨Nat.le_of_ble_eq_true rfl, Nat.le_of_ble_eq_true rfl⟩ [0, 1, 2] rfl (by decide) rfl rfl rfl rfl hl.1 rfl (Nat.le_of_ble_eq_true rfl) sdX8_addOperands_84 ⟨Nat.le_of_ble_eq_true rfl, Nat.le_of_ble_eq_true rfl⟩) hP hD hS hA (isC := [0, 1, 2]) (isR := []) rfl rfl (by decide) (by decide) (fun u H locs hw28 hP hD hS => ?_)
          obtain ⟨z30, z31, z32, f33⟩ := u
          obtain ⟨g34, g35, g36, g37⟩ := hw28
          have g34 : z30 = n + ((1 + dl (((w.toUInt32 >>> ((7 : Int32).toUInt32 &&& Int32.toUInt32 31)).toInt32) &&& 31) + 2 + dl (nuX kd w)) + 1 + (1 + dl (((w.toUInt32 >>> ((15 : Int32).toUInt32 &&& Int32.toUInt32 31)).toInt32) &&& 31)) + 1) := g34
          have g35 : z32 = 16 ∨ z32 = 34 := g35
          have g36 : z30 ≤ z32 := g36
          have g37 : sb_Fit f33 := g37
          have hP : va_P (dC, dI) vwCl [(sh, .inr (11, [.ref sb])), (sb, .inr (1, [.ref z31, .int 0, .int 0, .int (nI z30)])), (z31, .inl (cB, z32, .inl f33))] H := hP
          have hD : va_D A [(sh, .inr (11, [.ref sb])), (sb, .inr (1, [.ref z31, .int 0, .int 0, .int (nI z30)])), (z31, .inl (cB, z32, .inl f33))] := hD
          refine W.widen (k := 8) (n := 272) (by omega) (by omega) ?_
          refine lv_goto (tgt := 216) hx hb sdX8_addOperands_87 (by decide) ?_
          have hP9 := hP.sub (ws' := [(sh, .inr (11, [.ref sb])), (sb, .inr (1, [.ref z31, .int 0, .int 0, .int (nI z30)])), (z31, .inl (cB, z32, .inl f33))]) [0, 1, 2] rfl
          have hD9 := hD.sub (ws' := [(sh, .inr (11, [.ref sb])), (sb, .inr (1, [.ref z31, .int 0, .int 0, .int (nI z30)])), (z31, .inl (cB, z32, .inl f33))]) [0, 1, 2] (by decide) rfl
          refine W.widen (k := 8) (n := 272) (by omega) (by omega) ?_
          exact W.vret hx hb hr (fun t ht9 hW => ⟨⟨(z30, z31, z32, f33), rfl, ⟨(by dsimp only; unfold opX; rw [if_neg h9, if_neg h22, if_neg h23, if_pos h24]; omega), (by first | assumption | omega | (dsimp only; omega) | (dsimp only; assumption) | rfl), (by first | assumption | omega | (dsimp only; omega) | (dsimp only; assumption) | rfl), (by first | assumption | omega | (dsimp only; omega) | (dsimp only; assumption) | rfl)⟩, by rw [ht9]; exact hP9, hD9⟩, hS.F ht9⟩) hS.2.2 sdX8_addOperands_216
        · refine lv_iload_n hx hb sdX8_addOperands_66 rfl (lv_at hl 5 rfl) ?_
          refine lv_bipush (v := 10) hx hb sdX8_addOperands_67 (by decide) ?_
          refine lv_icmp_lt (tgt := 90) hx hb sdX8_addOperands_69 (by decide) (fun h38 => ?_) (fun h38 => ?_)
          · refine lv_iload_n hx hb sdX8_addOperands_90 rfl (lv_at hl 5 rfl) ?_
            refine lv_bipush (v := 15) hx hb sdX8_addOperands_91 (by decide) ?_
            refine lv_icmp_lt (tgt := 114) hx hb sdX8_addOperands_93 (by decide) (fun _ => ?_) (fun k39 => False.elim (by rw [← Int32.toInt_inj] at h9; rw [← Int32.toInt_inj] at h22; rw [← Int32.toInt_inj] at h23; rw [← Int32.toInt_inj] at h24; rw [Int32.lt_iff_toInt_lt] at h38; rw [Int32.lt_iff_toInt_lt] at k39; have : (0 : Int32).toInt = 0 := (by decide); have : (1 : Int32).toInt = 1 := (by decide); have : (2 : Int32).toInt = 2 := (by decide); have : (3 : Int32).toInt = 3 := (by decide); have : (10 : Int32).toInt = 10 := (by decide); have : (15 : Int32).toInt = 15 := (by decide); omega))
            refine lv_iload_n hx hb sdX8_addOperands_114 rfl (lv_at hl 5 rfl) ?_
            refine lv_bipush (v := 9) hx hb sdX8_addOperands_115 (by decide) ?_
            refine lv_icmp_gt (tgt := 146) hx hb sdX8_addOperands_117 (by decide) (fun k40 => False.elim (by rw [← Int32.toInt_inj] at h9; rw [← Int32.toInt_inj] at h22; rw [← Int32.toInt_inj] at h23; rw [← Int32.toInt_inj] at h24; rw [Int32.lt_iff_toInt_lt] at h38; rw [Int32.lt_iff_toInt_lt] at k40; have : (0 : Int32).toInt = 0 := (by decide); have : (1 : Int32).toInt = 1 := (by decide); have : (2 : Int32).toInt = 2 := (by decide); have : (3 : Int32).toInt = 3 := (by decide); have : (9 : Int32).toInt = 9 := (by decide); have : (10 : Int32).toInt = 10 := (by decide); omega)) (fun _ => ?_)
            refine lv_aload_n hx hb sdX8_addOperands_120 rfl (lv_at hl 4 rfl) ?_
            refine lv_iload hx hb sdX8_addOperands_121 (lv_at hl 1 rfl) ?_
            have hd41 := dl_le (((w.toUInt32 >>> ((15 : Int32).toUInt32 &&& Int32.toUInt32 31)).toInt32) &&& 31)
            refine ca_v (wr := []) (rn_V (n := 1) (As := [.int (((w.toUInt32 >>> ((15 : Int32).toUInt32 &&& Int32.toUInt32 31)).toInt32) &&& 31)]) (rest := []) hx hb hml hown ht hKK hFx hP hD hS hA (c_sh_reg l dC dI cI cB cZ cJ cR tb H.size sh sb a m n f (((w.toUInt32 >>> ((15 : Int32).toUInt32 &&& Int32.toUInt32 31)).toInt32) &&& 31) (by first | assumption | omega) (by first | assumption | omega) (by first | assumption | omega)) sw_103 sw_104 (by decide +kernel) rfl rfl ⟨Nat.le_of_ble_eq_true rfl, Nat.le_of_ble_eq_true rfl⟩ [0, 1, 2] rfl (by decide) rfl rfl rfl rfl hl.1 rfl (Nat.le_of_ble_eq_true rfl) sdX8_addOperands_123 ⟨Nat.le_of_ble_eq_true rfl, Nat.le_of_ble_eq_true rfl⟩) hP hD hS hA (isC := [0, 1, 2]) (isR := []) rfl rfl (by decide) (by decide) (fun u H locs hw42 hP hD hS => ?_)
            obtain ⟨z44, z45, z46, f47⟩ := u
            obtain ⟨g48, g49, g50, g51⟩ := hw42
            have g48 : z44 = n + 1 + dl (((w.toUInt32 >>> ((15 : Int32).toUInt32 &&& Int32.toUInt32 31)).toInt32) &&& 31) := g48
            have g49 : z46 = 16 ∨ z46 = 34 := g49
            have g50 : z44 ≤ z46 := g50
            have g51 : sb_Fit f47 := g51
            have hP : va_P (dC, dI) vwCl [(sh, .inr (11, [.ref sb])), (sb, .inr (1, [.ref z45, .int 0, .int 0, .int (nI z44)])), (z45, .inl (cB, z46, .inl f47))] H := hP
            have hD : va_D A [(sh, .inr (11, [.ref sb])), (sb, .inr (1, [.ref z45, .int 0, .int 0, .int (nI z44)])), (z45, .inl (cB, z46, .inl f47))] := hD
            refine W.widen (k := 2) (n := 68) (by omega) (by omega) ?_
            refine lv_aload_n hx hb sdX8_addOperands_126 rfl (lv_at hl 4 rfl) ?_
            refine va_get (D := (dC, dI)) (ci := 11) (v := .ref sb) (C := RX8) (T := TX8) (N := 1) hx hb ht siX8 hown hK hP 0 rfl rfl 0 (by decide) (ht _ sw_98) (fun _ h9 => h9) rfl sdX8_addOperands_127 ?_
            refine va_ldcS hx hb hown (hKK.2.2.2.2.1 _ (List.mem_of_getElem? (i := 12) rfl)) sdX8_addOperands_130 ?_
            have hlen12 : lenS.getD 12 0 = 2 := by decide
            refine ca_r (wr := [(sh, .inr (11, [.ref sb]))]) (rn_V (n := 1) (As := [.ref (tb (100 + 12))]) (rest := []) hx hb hml hown ht hKK hFx hP hD hS hA (c_sh_asB l dC dI cI cB cZ cJ cR tb H.size sb z45 z46 z44 f47 12 (by first | assumption | omega) (by first | assumption | omega) (by first | assumption | omega) (by first | assumption | omega)) sw_105 sw_106 (by decide +kernel) rfl rfl ⟨Nat.le_of_ble_eq_true rfl, Nat.le_of_ble_eq_true rfl⟩ [1, 2] rfl (by decide) rfl rfl rfl rfl hl.1 rfl (Nat.le_of_ble_eq_true rfl) sdX8_addOperands_132 ⟨Nat.le_of_ble_eq_true rfl, Nat.le_of_ble_eq_true rfl⟩) hP hD hS hA (isC := [1, 2]) (isR := [0]) rfl rfl (by decide) (by decide) (fun u H locs hw52 hP hD hS => ?_)
            obtain ⟨z54, z55, z56, f57⟩ := u
            obtain ⟨g58, g59, g60, g61⟩ := hw52
            have g58 : z54 = z44 + lenS.getD 12 0 := g58
            have g59 : z56 = 16 ∨ z56 = 34 := g59
            have g60 : z54 ≤ z56 := g60
            have g61 : sb_Fit f57 := g61
            have hP : va_P (dC, dI) vwCl [(sh, .inr (11, [.ref sb])), (sb, .inr (1, [.ref z55, .int 0, .int 0, .int (nI z54)])), (z55, .inl (cB, z56, .inl f57))] H := hP
            have hD : va_D A [(sh, .inr (11, [.ref sb])), (sb, .inr (1, [.ref z55, .int 0, .int 0, .int (nI z54)])), (z55, .inl (cB, z56, .inl f57))] := hD
            refine W.widen (k := 3) (n := 102) (by omega) (by omega) ?_
            refine lv_pop hx hb sdX8_addOperands_135 rfl ?_
            refine lv_aload_n hx hb sdX8_addOperands_136 rfl (lv_at hl 4 rfl) ?_
            refine lv_iload hx hb sdX8_addOperands_137 (lv_at hl 0 rfl) ?_
            refine lv_iload_n hx hb sdX8_addOperands_139 rfl (lv_at hl 3 rfl) ?_
            have hd62 := dl_le (((w.toUInt32 >>> ((20 : Int32).toUInt32 &&& Int32.toUInt32 31)).toInt32) &&& 31)
            have hd63 := dl_le (nuX kd w)
            refine ca_v (wr := []) (rn_V (n := 2) (As := [.int (((w.toUInt32 >>> ((20 : Int32).toUInt32 &&& Int32.toUInt32 31)).toInt32) &&& 31), .int (nuX kd w)]) (rest := []) hx hb hml hown ht hKK hFx hP hD hS hA (c_sh_pair l dC dI cI cB cZ cJ cR tb H.size sh sb z55 z56 z54 f57 (((w.toUInt32 >>> ((20 : Int32).toUInt32 &&& Int32.toUInt32 31)).toInt32) &&& 31) (nuX kd w) (by first | assumption | omega) (by first | assumption | omega) (by first | assumption | omega)) sw_107 sw_108 (by decide +kernel) rfl rfl ⟨Nat.le_of_ble_eq_true rfl, Nat.le_of_ble_eq_true rfl⟩ [0, 1, 2] rfl (by decide) rfl rfl rfl rfl hl.1 rfl (Nat.le_of_ble_eq_true rfl) sdX8_addOperands_140 ⟨Nat.le_of_ble_eq_true rfl, Nat.le_of_ble_eq_true rfl⟩) hP hD hS hA (isC := [0, 1, 2]) (isR := []) rfl rfl (by decide) (by decide) (fun u H locs hw64 hP hD hS => ?_)
            obtain ⟨z66, z67, z68, f69⟩ := u
            obtain ⟨g70, g71, g72, g73⟩ := hw64
            have g70 : z66 = z54 + (1 + dl (((w.toUInt32 >>> ((20 : Int32).toUInt32 &&& Int32.toUInt32 31)).toInt32) &&& 31) + 2 + dl (nuX kd w)) := g70
            have g71 : z68 = 16 ∨ z68 = 34 := g71
            have g72 : z66 ≤ z68 := g72
            have g73 : sb_Fit f69 := g73
            have hP : va_P (dC, dI) vwCl [(sh, .inr (11, [.ref sb])), (sb, .inr (1, [.ref z67, .int 0, .int 0, .int (nI z66)])), (z67, .inl (cB, z68, .inl f69))] H := hP
            have hD : va_D A [(sh, .inr (11, [.ref sb])), (sb, .inr (1, [.ref z67, .int 0, .int 0, .int (nI z66)])), (z67, .inl (cB, z68, .inl f69))] := hD
            refine W.widen (k := 7) (n := 238) (by omega) (by omega) ?_
            refine lv_goto (tgt := 216) hx hb sdX8_addOperands_143 (by decide) ?_
            have hP9 := hP.sub (ws' := [(sh, .inr (11, [.ref sb])), (sb, .inr (1, [.ref z67, .int 0, .int 0, .int (nI z66)])), (z67, .inl (cB, z68, .inl f69))]) [0, 1, 2] rfl
            have hD9 := hD.sub (ws' := [(sh, .inr (11, [.ref sb])), (sb, .inr (1, [.ref z67, .int 0, .int 0, .int (nI z66)])), (z67, .inl (cB, z68, .inl f69))]) [0, 1, 2] (by decide) rfl
            refine W.widen (k := 8) (n := 272) (by omega) (by omega) ?_
            exact W.vret hx hb hr (fun t ht9 hW => ⟨⟨(z66, z67, z68, f69), rfl, ⟨(by dsimp only; unfold opX; rw [if_neg h9, if_neg h22, if_neg h23, if_neg h24, if_pos h38]; omega), (by first | assumption | omega | (dsimp only; omega) | (dsimp only; assumption) | rfl), (by first | assumption | omega | (dsimp only; omega) | (dsimp only; assumption) | rfl), (by first | assumption | omega | (dsimp only; omega) | (dsimp only; assumption) | rfl)⟩, by rw [ht9]; exact hP9, hD9⟩, hS.F ht9⟩) hS.2.2 sdX8_addOperands_216
          · refine lv_iload_n hx hb sdX8_addOperands_72 rfl (lv_at hl 5 rfl) ?_
            refine lv_bipush (v := 14) hx hb sdX8_addOperands_73 (by decide) ?_
            refine lv_icmp_gt (tgt := 90) hx hb sdX8_addOperands_75 (by decide) (fun h74 => ?_) (fun h74 => ?_)
            · refine lv_iload_n hx hb sdX8_addOperands_90 rfl (lv_at hl 5 rfl) ?_
              refine lv_bipush (v := 15) hx hb sdX8_addOperands_91 (by decide) ?_
              refine lv_icmp_lt (tgt := 114) hx hb sdX8_addOperands_93 (by decide) (fun k75 => False.elim (by rw [← Int32.toInt_inj] at h9; rw [← Int32.toInt_inj] at h22; rw [← Int32.toInt_inj] at h23; rw [← Int32.toInt_inj] at h24; rw [Int32.lt_iff_toInt_lt] at h38; rw [Int32.lt_iff_toInt_lt] at h74; rw [Int32.lt_iff_toInt_lt] at k75; have : (0 : Int32).toInt = 0 := (by decide); have : (1 : Int32).toInt = 1 := (by decide); have : (2 : Int32).toInt = 2 := (by decide); have : (3 : Int32).toInt = 3 := (by decide); have : (10 : Int32).toInt = 10 := (by decide); have : (14 : Int32).toInt = 14 := (by decide); have : (15 : Int32).toInt = 15 := (by decide); omega)) (fun _ => ?_)
              refine lv_iload_n hx hb sdX8_addOperands_96 rfl (lv_at hl 5 rfl) ?_
              refine lv_bipush (v := 17) hx hb sdX8_addOperands_97 (by decide) ?_
              refine lv_icmp_gt (tgt := 114) hx hb sdX8_addOperands_99 (by decide) (fun h76 => ?_) (fun h76 => ?_)
              · refine lv_iload_n hx hb sdX8_addOperands_114 rfl (lv_at hl 5 rfl) ?_
                refine lv_bipush (v := 9) hx hb sdX8_addOperands_115 (by decide) ?_
                refine lv_icmp_gt (tgt := 146) hx hb sdX8_addOperands_117 (by decide) (fun _ => ?_) (fun k77 => False.elim (by rw [← Int32.toInt_inj] at h9; rw [← Int32.toInt_inj] at h22; rw [← Int32.toInt_inj] at h23; rw [← Int32.toInt_inj] at h24; rw [Int32.lt_iff_toInt_lt] at h38; rw [Int32.lt_iff_toInt_lt] at h74; rw [Int32.lt_iff_toInt_lt] at h76; rw [Int32.lt_iff_toInt_lt] at k77; have : (0 : Int32).toInt = 0 := (by decide); have : (1 : Int32).toInt = 1 := (by decide); have : (2 : Int32).toInt = 2 := (by decide); have : (3 : Int32).toInt = 3 := (by decide); have : (9 : Int32).toInt = 9 := (by decide); have : (10 : Int32).toInt = 10 := (by decide); have : (14 : Int32).toInt = 14 := (by decide); have : (17 : Int32).toInt = 17 := (by decide); omega))
                refine lv_iload_n hx hb sdX8_addOperands_146 rfl (lv_at hl 5 rfl) ?_
                refine lv_bipush (v := 26) hx hb sdX8_addOperands_147 (by decide) ?_
                refine lv_icmp_gt (tgt := 178) hx hb sdX8_addOperands_149 (by decide) (fun h78 => ?_) (fun h78 => ?_)
                · refine lv_aload_n hx hb sdX8_addOperands_178 rfl (lv_at hl 4 rfl) ?_
                  refine lv_iload hx hb sdX8_addOperands_179 (lv_at hl 2 rfl) ?_
                  have hd79 := dl_le (((w.toUInt32 >>> ((7 : Int32).toUInt32 &&& Int32.toUInt32 31)).toInt32) &&& 31)
                  refine ca_v (wr := []) (rn_V (n := 1) (As := [.int (((w.toUInt32 >>> ((7 : Int32).toUInt32 &&& Int32.toUInt32 31)).toInt32) &&& 31)]) (rest := []) hx hb hml hown ht hKK hFx hP hD hS hA (c_sh_reg l dC dI cI cB cZ cJ cR tb H.size sh sb a m n f (((w.toUInt32 >>> ((7 : Int32).toUInt32 &&& Int32.toUInt32 31)).toInt32) &&& 31) (by first | assumption | omega) (by first | assumption | omega) (by first | assumption | omega)) sw_103 sw_104 (by decide +kernel) rfl rfl ⟨Nat.le_of_ble_eq_true rfl, Nat.le_of_ble_eq_true rfl⟩ [0, 1, 2] rfl (by decide) rfl rfl rfl rfl hl.1 rfl (Nat.le_of_ble_eq_true rfl) sdX8_addOperands_181 ⟨Nat.le_of_ble_eq_true rfl, Nat.le_of_ble_eq_true rfl⟩) hP hD hS hA (isC := [0, 1, 2]) (isR := []) rfl rfl (by decide) (by decide) (fun u H locs hw80 hP hD hS => ?_)
                  obtain ⟨z82, z83, z84, f85⟩ := u
                  obtain ⟨g86, g87, g88, g89⟩ := hw80
                  have g86 : z82 = n + 1 + dl (((w.toUInt32 >>> ((7 : Int32).toUInt32 &&& Int32.toUInt32 31)).toInt32) &&& 31) := g86
                  have g87 : z84 = 16 ∨ z84 = 34 := g87
                  have g88 : z82 ≤ z84 := g88
                  have g89 : sb_Fit f85 := g89
                  have hP : va_P (dC, dI) vwCl [(sh, .inr (11, [.ref sb])), (sb, .inr (1, [.ref z83, .int 0, .int 0, .int (nI z82)])), (z83, .inl (cB, z84, .inl f85))] H := hP
                  have hD : va_D A [(sh, .inr (11, [.ref sb])), (sb, .inr (1, [.ref z83, .int 0, .int 0, .int (nI z82)])), (z83, .inl (cB, z84, .inl f85))] := hD
                  refine W.widen (k := 2) (n := 68) (by omega) (by omega) ?_
                  refine lv_aload_n hx hb sdX8_addOperands_184 rfl (lv_at hl 4 rfl) ?_
                  refine va_get (D := (dC, dI)) (ci := 11) (v := .ref sb) (C := RX8) (T := TX8) (N := 1) hx hb ht siX8 hown hK hP 0 rfl rfl 0 (by decide) (ht _ sw_98) (fun _ h9 => h9) rfl sdX8_addOperands_185 ?_
                  refine va_ldcS hx hb hown (hKK.2.2.2.2.1 _ (List.mem_of_getElem? (i := 12) rfl)) sdX8_addOperands_188 ?_
                  have hlen12 : lenS.getD 12 0 = 2 := by decide
                  refine ca_r (wr := [(sh, .inr (11, [.ref sb]))]) (rn_V (n := 1) (As := [.ref (tb (100 + 12))]) (rest := []) hx hb hml hown ht hKK hFx hP hD hS hA (c_sh_asB l dC dI cI cB cZ cJ cR tb H.size sb z83 z84 z82 f85 12 (by first | assumption | omega) (by first | assumption | omega) (by first | assumption | omega) (by first | assumption | omega)) sw_105 sw_106 (by decide +kernel) rfl rfl ⟨Nat.le_of_ble_eq_true rfl, Nat.le_of_ble_eq_true rfl⟩ [1, 2] rfl (by decide) rfl rfl rfl rfl hl.1 rfl (Nat.le_of_ble_eq_true rfl) sdX8_addOperands_190 ⟨Nat.le_of_ble_eq_true rfl, Nat.le_of_ble_eq_true rfl⟩) hP hD hS hA (isC := [1, 2]) (isR := [0]) rfl rfl (by decide) (by decide) (fun u H locs hw90 hP hD hS => ?_)
                  obtain ⟨z92, z93, z94, f95⟩ := u
                  obtain ⟨g96, g97, g98, g99⟩ := hw90
                  have g96 : z92 = z82 + lenS.getD 12 0 := g96
                  have g97 : z94 = 16 ∨ z94 = 34 := g97
                  have g98 : z92 ≤ z94 := g98
                  have g99 : sb_Fit f95 := g99
                  have hP : va_P (dC, dI) vwCl [(sh, .inr (11, [.ref sb])), (sb, .inr (1, [.ref z93, .int 0, .int 0, .int (nI z92)])), (z93, .inl (cB, z94, .inl f95))] H := hP
                  have hD : va_D A [(sh, .inr (11, [.ref sb])), (sb, .inr (1, [.ref z93, .int 0, .int 0, .int (nI z92)])), (z93, .inl (cB, z94, .inl f95))] := hD
                  refine W.widen (k := 3) (n := 102) (by omega) (by omega) ?_
                  refine lv_pop hx hb sdX8_addOperands_193 rfl ?_
                  refine lv_aload_n hx hb sdX8_addOperands_194 rfl (lv_at hl 4 rfl) ?_
                  refine lv_iload hx hb sdX8_addOperands_195 (lv_at hl 1 rfl) ?_
                  have hd100 := dl_le (((w.toUInt32 >>> ((15 : Int32).toUInt32 &&& Int32.toUInt32 31)).toInt32) &&& 31)
                  refine ca_v (wr := []) (rn_V (n := 1) (As := [.int (((w.toUInt32 >>> ((15 : Int32).toUInt32 &&& Int32.toUInt32 31)).toInt32) &&& 31)]) (rest := []) hx hb hml hown ht hKK hFx hP hD hS hA (c_sh_reg l dC dI cI cB cZ cJ cR tb H.size sh sb z93 z94 z92 f95 (((w.toUInt32 >>> ((15 : Int32).toUInt32 &&& Int32.toUInt32 31)).toInt32) &&& 31) (by first | assumption | omega) (by first | assumption | omega) (by first | assumption | omega)) sw_103 sw_104 (by decide +kernel) rfl rfl ⟨Nat.le_of_ble_eq_true rfl, Nat.le_of_ble_eq_true rfl⟩ [0, 1, 2] rfl (by decide) rfl rfl rfl rfl hl.1 rfl (Nat.le_of_ble_eq_true rfl) sdX8_addOperands_197 ⟨Nat.le_of_ble_eq_true rfl, Nat.le_of_ble_eq_true rfl⟩) hP hD hS hA (isC := [0, 1, 2]) (isR := []) rfl rfl (by decide) (by decide) (fun u H locs hw101 hP hD hS => ?_)
                  obtain ⟨z103, z104, z105, f106⟩ := u
                  obtain ⟨g107, g108, g109, g110⟩ := hw101
                  have g107 : z103 = z92 + 1 + dl (((w.toUInt32 >>> ((15 : Int32).toUInt32 &&& Int32.toUInt32 31)).toInt32) &&& 31) := g107
                  have g108 : z105 = 16 ∨ z105 = 34 := g108
                  have g109 : z103 ≤ z105 := g109
                  have g110 : sb_Fit f106 := g110
                  have hP : va_P (dC, dI) vwCl [(sh, .inr (11, [.ref sb])), (sb, .inr (1, [.ref z104, .int 0, .int 0, .int (nI z103)])), (z104, .inl (cB, z105, .inl f106))] H := hP
                  have hD : va_D A [(sh, .inr (11, [.ref sb])), (sb, .inr (1, [.ref z104, .int 0, .int 0, .int (nI z103)])), (z104, .inl (cB, z105, .inl f106))] := hD
                  refine W.widen (k := 5) (n := 170) (by omega) (by omega) ?_
                  refine lv_aload_n hx hb sdX8_addOperands_200 rfl (lv_at hl 4 rfl) ?_
                  refine va_get (D := (dC, dI)) (ci := 11) (v := .ref sb) (C := RX8) (T := TX8) (N := 1) hx hb ht siX8 hown hK hP 0 rfl rfl 0 (by decide) (ht _ sw_98) (fun _ h9 => h9) rfl sdX8_addOperands_201 ?_
                  refine va_ldcS hx hb hown (hKK.2.2.2.2.1 _ (List.mem_of_getElem? (i := 12) rfl)) sdX8_addOperands_204 ?_
                  have hlen12 : lenS.getD 12 0 = 2 := by decide
                  refine ca_r (wr := [(sh, .inr (11, [.ref sb]))]) (rn_V (n := 1) (As := [.ref (tb (100 + 12))]) (rest := []) hx hb hml hown ht hKK hFx hP hD hS hA (c_sh_asB l dC dI cI cB cZ cJ cR tb H.size sb z104 z105 z103 f106 12 (by first | assumption | omega) (by first | assumption | omega) (by first | assumption | omega) (by first | assumption | omega)) sw_105 sw_106 (by decide +kernel) rfl rfl ⟨Nat.le_of_ble_eq_true rfl, Nat.le_of_ble_eq_true rfl⟩ [1, 2] rfl (by decide) rfl rfl rfl rfl hl.1 rfl (Nat.le_of_ble_eq_true rfl) sdX8_addOperands_206 ⟨Nat.le_of_ble_eq_true rfl, Nat.le_of_ble_eq_true rfl⟩) hP hD hS hA (isC := [1, 2]) (isR := [0]) rfl rfl (by decide) (by decide) (fun u H locs hw111 hP hD hS => ?_)
                  obtain ⟨z113, z114, z115, f116⟩ := u
                  obtain ⟨g117, g118, g119, g120⟩ := hw111
                  have g117 : z113 = z103 + lenS.getD 12 0 := g117
                  have g118 : z115 = 16 ∨ z115 = 34 := g118
                  have g119 : z113 ≤ z115 := g119
                  have g120 : sb_Fit f116 := g120
                  have hP : va_P (dC, dI) vwCl [(sh, .inr (11, [.ref sb])), (sb, .inr (1, [.ref z114, .int 0, .int 0, .int (nI z113)])), (z114, .inl (cB, z115, .inl f116))] H := hP
                  have hD : va_D A [(sh, .inr (11, [.ref sb])), (sb, .inr (1, [.ref z114, .int 0, .int 0, .int (nI z113)])), (z114, .inl (cB, z115, .inl f116))] := hD
                  refine W.widen (k := 6) (n := 204) (by omega) (by omega) ?_
                  refine lv_pop hx hb sdX8_addOperands_209 rfl ?_
                  refine lv_aload_n hx hb sdX8_addOperands_210 rfl (lv_at hl 4 rfl) ?_
                  refine lv_iload hx hb sdX8_addOperands_211 (lv_at hl 0 rfl) ?_
                  have hd121 := dl_le (((w.toUInt32 >>> ((20 : Int32).toUInt32 &&& Int32.toUInt32 31)).toInt32) &&& 31)
                  refine ca_v (wr := []) (rn_V (n := 1) (As := [.int (((w.toUInt32 >>> ((20 : Int32).toUInt32 &&& Int32.toUInt32 31)).toInt32) &&& 31)]) (rest := []) hx hb hml hown ht hKK hFx hP hD hS hA (c_sh_reg l dC dI cI cB cZ cJ cR tb H.size sh sb z114 z115 z113 f116 (((w.toUInt32 >>> ((20 : Int32).toUInt32 &&& Int32.toUInt32 31)).toInt32) &&& 31) (by first | assumption | omega) (by first | assumption | omega) (by first | assumption | omega)) sw_103 sw_104 (by decide +kernel) rfl rfl ⟨Nat.le_of_ble_eq_true rfl, Nat.le_of_ble_eq_true rfl⟩ [0, 1, 2] rfl (by decide) rfl rfl rfl rfl hl.1 rfl (Nat.le_of_ble_eq_true rfl) sdX8_addOperands_213 ⟨Nat.le_of_ble_eq_true rfl, Nat.le_of_ble_eq_true rfl⟩) hP hD hS hA (isC := [0, 1, 2]) (isR := []) rfl rfl (by decide) (by decide) (fun u H locs hw122 hP hD hS => ?_)
                  obtain ⟨z124, z125, z126, f127⟩ := u
                  obtain ⟨g128, g129, g130, g131⟩ := hw122
                  have g128 : z124 = z113 + 1 + dl (((w.toUInt32 >>> ((20 : Int32).toUInt32 &&& Int32.toUInt32 31)).toInt32) &&& 31) := g128
                  have g129 : z126 = 16 ∨ z126 = 34 := g129
                  have g130 : z124 ≤ z126 := g130
                  have g131 : sb_Fit f127 := g131
                  have hP : va_P (dC, dI) vwCl [(sh, .inr (11, [.ref sb])), (sb, .inr (1, [.ref z125, .int 0, .int 0, .int (nI z124)])), (z125, .inl (cB, z126, .inl f127))] H := hP
                  have hD : va_D A [(sh, .inr (11, [.ref sb])), (sb, .inr (1, [.ref z125, .int 0, .int 0, .int (nI z124)])), (z125, .inl (cB, z126, .inl f127))] := hD
                  refine W.widen (k := 8) (n := 272) (by omega) (by omega) ?_
                  have hP9 := hP.sub (ws' := [(sh, .inr (11, [.ref sb])), (sb, .inr (1, [.ref z125, .int 0, .int 0, .int (nI z124)])), (z125, .inl (cB, z126, .inl f127))]) [0, 1, 2] rfl
                  have hD9 := hD.sub (ws' := [(sh, .inr (11, [.ref sb])), (sb, .inr (1, [.ref z125, .int 0, .int 0, .int (nI z124)])), (z125, .inl (cB, z126, .inl f127))]) [0, 1, 2] (by decide) rfl
                  refine W.widen (k := 8) (n := 272) (by omega) (by omega) ?_
                  exact W.vret hx hb hr (fun t ht9 hW => ⟨⟨(z124, z125, z126, f127), rfl, ⟨(by dsimp only; unfold opX; rw [if_neg h9, if_neg h22, if_neg h23, if_neg h24, if_neg h38, if_pos h74, if_pos h76, if_pos h78]; omega), (by first | assumption | omega | (dsimp only; omega) | (dsimp only; assumption) | rfl), (by first | assumption | omega | (dsimp only; omega) | (dsimp only; assumption) | rfl), (by first | assumption | omega | (dsimp only; omega) | (dsimp only; assumption) | rfl)⟩, by rw [ht9]; exact hP9, hD9⟩, hS.F ht9⟩) hS.2.2 sdX8_addOperands_216
                · refine lv_aload_n hx hb sdX8_addOperands_152 rfl (lv_at hl 4 rfl) ?_
                  refine lv_iload hx hb sdX8_addOperands_153 (lv_at hl 2 rfl) ?_
                  have hd132 := dl_le (((w.toUInt32 >>> ((7 : Int32).toUInt32 &&& Int32.toUInt32 31)).toInt32) &&& 31)
                  refine ca_v (wr := []) (rn_V (n := 1) (As := [.int (((w.toUInt32 >>> ((7 : Int32).toUInt32 &&& Int32.toUInt32 31)).toInt32) &&& 31)]) (rest := []) hx hb hml hown ht hKK hFx hP hD hS hA (c_sh_reg l dC dI cI cB cZ cJ cR tb H.size sh sb a m n f (((w.toUInt32 >>> ((7 : Int32).toUInt32 &&& Int32.toUInt32 31)).toInt32) &&& 31) (by first | assumption | omega) (by first | assumption | omega) (by first | assumption | omega)) sw_103 sw_104 (by decide +kernel) rfl rfl ⟨Nat.le_of_ble_eq_true rfl, Nat.le_of_ble_eq_true rfl⟩ [0, 1, 2] rfl (by decide) rfl rfl rfl rfl hl.1 rfl (Nat.le_of_ble_eq_true rfl) sdX8_addOperands_155 ⟨Nat.le_of_ble_eq_true rfl, Nat.le_of_ble_eq_true rfl⟩) hP hD hS hA (isC := [0, 1, 2]) (isR := []) rfl rfl (by decide) (by decide) (fun u H locs hw133 hP hD hS => ?_)
                  obtain ⟨z135, z136, z137, f138⟩ := u
                  obtain ⟨g139, g140, g141, g142⟩ := hw133
                  have g139 : z135 = n + 1 + dl (((w.toUInt32 >>> ((7 : Int32).toUInt32 &&& Int32.toUInt32 31)).toInt32) &&& 31) := g139
                  have g140 : z137 = 16 ∨ z137 = 34 := g140
                  have g141 : z135 ≤ z137 := g141
                  have g142 : sb_Fit f138 := g142
                  have hP : va_P (dC, dI) vwCl [(sh, .inr (11, [.ref sb])), (sb, .inr (1, [.ref z136, .int 0, .int 0, .int (nI z135)])), (z136, .inl (cB, z137, .inl f138))] H := hP
                  have hD : va_D A [(sh, .inr (11, [.ref sb])), (sb, .inr (1, [.ref z136, .int 0, .int 0, .int (nI z135)])), (z136, .inl (cB, z137, .inl f138))] := hD
                  refine W.widen (k := 2) (n := 68) (by omega) (by omega) ?_
                  refine lv_aload_n hx hb sdX8_addOperands_158 rfl (lv_at hl 4 rfl) ?_
                  refine va_get (D := (dC, dI)) (ci := 11) (v := .ref sb) (C := RX8) (T := TX8) (N := 1) hx hb ht siX8 hown hK hP 0 rfl rfl 0 (by decide) (ht _ sw_98) (fun _ h9 => h9) rfl sdX8_addOperands_159 ?_
                  refine va_ldcS hx hb hown (hKK.2.2.2.2.1 _ (List.mem_of_getElem? (i := 12) rfl)) sdX8_addOperands_162 ?_
                  have hlen12 : lenS.getD 12 0 = 2 := by decide
                  refine ca_r (wr := [(sh, .inr (11, [.ref sb]))]) (rn_V (n := 1) (As := [.ref (tb (100 + 12))]) (rest := []) hx hb hml hown ht hKK hFx hP hD hS hA (c_sh_asB l dC dI cI cB cZ cJ cR tb H.size sb z136 z137 z135 f138 12 (by first | assumption | omega) (by first | assumption | omega) (by first | assumption | omega) (by first | assumption | omega)) sw_105 sw_106 (by decide +kernel) rfl rfl ⟨Nat.le_of_ble_eq_true rfl, Nat.le_of_ble_eq_true rfl⟩ [1, 2] rfl (by decide) rfl rfl rfl rfl hl.1 rfl (Nat.le_of_ble_eq_true rfl) sdX8_addOperands_164 ⟨Nat.le_of_ble_eq_true rfl, Nat.le_of_ble_eq_true rfl⟩) hP hD hS hA (isC := [1, 2]) (isR := [0]) rfl rfl (by decide) (by decide) (fun u H locs hw143 hP hD hS => ?_)
                  obtain ⟨z145, z146, z147, f148⟩ := u
                  obtain ⟨g149, g150, g151, g152⟩ := hw143
                  have g149 : z145 = z135 + lenS.getD 12 0 := g149
                  have g150 : z147 = 16 ∨ z147 = 34 := g150
                  have g151 : z145 ≤ z147 := g151
                  have g152 : sb_Fit f148 := g152
                  have hP : va_P (dC, dI) vwCl [(sh, .inr (11, [.ref sb])), (sb, .inr (1, [.ref z146, .int 0, .int 0, .int (nI z145)])), (z146, .inl (cB, z147, .inl f148))] H := hP
                  have hD : va_D A [(sh, .inr (11, [.ref sb])), (sb, .inr (1, [.ref z146, .int 0, .int 0, .int (nI z145)])), (z146, .inl (cB, z147, .inl f148))] := hD
                  refine W.widen (k := 3) (n := 102) (by omega) (by omega) ?_
                  refine lv_pop hx hb sdX8_addOperands_167 rfl ?_
                  refine lv_aload_n hx hb sdX8_addOperands_168 rfl (lv_at hl 4 rfl) ?_
                  refine lv_iload hx hb sdX8_addOperands_169 (lv_at hl 1 rfl) ?_
                  refine lv_iload_n hx hb sdX8_addOperands_171 rfl (lv_at hl 3 rfl) ?_
                  have hd153 := dl_le (((w.toUInt32 >>> ((15 : Int32).toUInt32 &&& Int32.toUInt32 31)).toInt32) &&& 31)
                  have hd154 := dl_le (nuX kd w)
                  refine ca_v (wr := []) (rn_V (n := 2) (As := [.int (((w.toUInt32 >>> ((15 : Int32).toUInt32 &&& Int32.toUInt32 31)).toInt32) &&& 31), .int (nuX kd w)]) (rest := []) hx hb hml hown ht hKK hFx hP hD hS hA (c_sh_pair l dC dI cI cB cZ cJ cR tb H.size sh sb z146 z147 z145 f148 (((w.toUInt32 >>> ((15 : Int32).toUInt32 &&& Int32.toUInt32 31)).toInt32) &&& 31) (nuX kd w) (by first | assumption | omega) (by first | assumption | omega) (by first | assumption | omega)) sw_107 sw_108 (by decide +kernel) rfl rfl ⟨Nat.le_of_ble_eq_true rfl, Nat.le_of_ble_eq_true rfl⟩ [0, 1, 2] rfl (by decide) rfl rfl rfl rfl hl.1 rfl (Nat.le_of_ble_eq_true rfl) sdX8_addOperands_172 ⟨Nat.le_of_ble_eq_true rfl, Nat.le_of_ble_eq_true rfl⟩) hP hD hS hA (isC := [0, 1, 2]) (isR := []) rfl rfl (by decide) (by decide) (fun u H locs hw155 hP hD hS => ?_)
                  obtain ⟨z157, z158, z159, f160⟩ := u
                  obtain ⟨g161, g162, g163, g164⟩ := hw155
                  have g161 : z157 = z145 + (1 + dl (((w.toUInt32 >>> ((15 : Int32).toUInt32 &&& Int32.toUInt32 31)).toInt32) &&& 31) + 2 + dl (nuX kd w)) := g161
                  have g162 : z159 = 16 ∨ z159 = 34 := g162
                  have g163 : z157 ≤ z159 := g163
                  have g164 : sb_Fit f160 := g164
                  have hP : va_P (dC, dI) vwCl [(sh, .inr (11, [.ref sb])), (sb, .inr (1, [.ref z158, .int 0, .int 0, .int (nI z157)])), (z158, .inl (cB, z159, .inl f160))] H := hP
                  have hD : va_D A [(sh, .inr (11, [.ref sb])), (sb, .inr (1, [.ref z158, .int 0, .int 0, .int (nI z157)])), (z158, .inl (cB, z159, .inl f160))] := hD
                  refine W.widen (k := 7) (n := 238) (by omega) (by omega) ?_
                  refine lv_goto (tgt := 216) hx hb sdX8_addOperands_175 (by decide) ?_
                  have hP9 := hP.sub (ws' := [(sh, .inr (11, [.ref sb])), (sb, .inr (1, [.ref z158, .int 0, .int 0, .int (nI z157)])), (z158, .inl (cB, z159, .inl f160))]) [0, 1, 2] rfl
                  have hD9 := hD.sub (ws' := [(sh, .inr (11, [.ref sb])), (sb, .inr (1, [.ref z158, .int 0, .int 0, .int (nI z157)])), (z158, .inl (cB, z159, .inl f160))]) [0, 1, 2] (by decide) rfl
                  refine W.widen (k := 8) (n := 272) (by omega) (by omega) ?_
                  exact W.vret hx hb hr (fun t ht9 hW => ⟨⟨(z157, z158, z159, f160), rfl, ⟨(by dsimp only; unfold opX; rw [if_neg h9, if_neg h22, if_neg h23, if_neg h24, if_neg h38, if_pos h74, if_pos h76, if_neg h78]; omega), (by first | assumption | omega | (dsimp only; omega) | (dsimp only; assumption) | rfl), (by first | assumption | omega | (dsimp only; omega) | (dsimp only; assumption) | rfl), (by first | assumption | omega | (dsimp only; omega) | (dsimp only; assumption) | rfl)⟩, by rw [ht9]; exact hP9, hD9⟩, hS.F ht9⟩) hS.2.2 sdX8_addOperands_216
              · refine lv_aload_n hx hb sdX8_addOperands_102 rfl (lv_at hl 4 rfl) ?_
                refine lv_iload hx hb sdX8_addOperands_103 (lv_at hl 0 rfl) ?_
                refine lv_iload_n hx hb sdX8_addOperands_105 rfl (lv_at hl 3 rfl) ?_
                refine lv_iload hx hb sdX8_addOperands_106 (lv_at hl 1 rfl) ?_
                have hd165 := dl_le (((w.toUInt32 >>> ((20 : Int32).toUInt32 &&& Int32.toUInt32 31)).toInt32) &&& 31)
                have hd166 := dl_le (nuX kd w)
                have hd167 := dl_le (((w.toUInt32 >>> ((15 : Int32).toUInt32 &&& Int32.toUInt32 31)).toInt32) &&& 31)
                refine ca_v (wr := []) (rn_V (n := 3) (As := [.int (((w.toUInt32 >>> ((20 : Int32).toUInt32 &&& Int32.toUInt32 31)).toInt32) &&& 31), .int (nuX kd w), .int (((w.toUInt32 >>> ((15 : Int32).toUInt32 &&& Int32.toUInt32 31)).toInt32) &&& 31)]) (rest := []) hx hb hml hown ht hKK hFx hP hD hS hA (c_sh_reach l dC dI cI cB cZ cJ cR tb H.size sh sb a m n f (((w.toUInt32 >>> ((20 : Int32).toUInt32 &&& Int32.toUInt32 31)).toInt32) &&& 31) (nuX kd w) (((w.toUInt32 >>> ((15 : Int32).toUInt32 &&& Int32.toUInt32 31)).toInt32) &&& 31) (by first | assumption | omega) (by first | assumption | omega) (by first | assumption | omega)) sw_119 sw_120 (by decide +kernel) rfl rfl ⟨Nat.le_of_ble_eq_true rfl, Nat.le_of_ble_eq_true rfl⟩ [0, 1, 2] rfl (by decide) rfl rfl rfl rfl hl.1 rfl (Nat.le_of_ble_eq_true rfl) sdX8_addOperands_108 ⟨Nat.le_of_ble_eq_true rfl, Nat.le_of_ble_eq_true rfl⟩) hP hD hS hA (isC := [0, 1, 2]) (isR := []) rfl rfl (by decide) (by decide) (fun u H locs hw168 hP hD hS => ?_)
                obtain ⟨z170, z171, z172, f173⟩ := u
                obtain ⟨g174, g175, g176, g177⟩ := hw168
                have g174 : z170 = n + ((1 + dl (((w.toUInt32 >>> ((20 : Int32).toUInt32 &&& Int32.toUInt32 31)).toInt32) &&& 31) + 2 + dl (nuX kd w)) + 1 + (1 + dl (((w.toUInt32 >>> ((15 : Int32).toUInt32 &&& Int32.toUInt32 31)).toInt32) &&& 31)) + 1) := g174
                have g175 : z172 = 16 ∨ z172 = 34 := g175
                have g176 : z170 ≤ z172 := g176
                have g177 : sb_Fit f173 := g177
                have hP : va_P (dC, dI) vwCl [(sh, .inr (11, [.ref sb])), (sb, .inr (1, [.ref z171, .int 0, .int 0, .int (nI z170)])), (z171, .inl (cB, z172, .inl f173))] H := hP
                have hD : va_D A [(sh, .inr (11, [.ref sb])), (sb, .inr (1, [.ref z171, .int 0, .int 0, .int (nI z170)])), (z171, .inl (cB, z172, .inl f173))] := hD
                refine W.widen (k := 8) (n := 272) (by omega) (by omega) ?_
                refine lv_goto (tgt := 216) hx hb sdX8_addOperands_111 (by decide) ?_
                have hP9 := hP.sub (ws' := [(sh, .inr (11, [.ref sb])), (sb, .inr (1, [.ref z171, .int 0, .int 0, .int (nI z170)])), (z171, .inl (cB, z172, .inl f173))]) [0, 1, 2] rfl
                have hD9 := hD.sub (ws' := [(sh, .inr (11, [.ref sb])), (sb, .inr (1, [.ref z171, .int 0, .int 0, .int (nI z170)])), (z171, .inl (cB, z172, .inl f173))]) [0, 1, 2] (by decide) rfl
                refine W.widen (k := 8) (n := 272) (by omega) (by omega) ?_
                exact W.vret hx hb hr (fun t ht9 hW => ⟨⟨(z170, z171, z172, f173), rfl, ⟨(by dsimp only; unfold opX; rw [if_neg h9, if_neg h22, if_neg h23, if_neg h24, if_neg h38, if_pos h74, if_neg h76]; omega), (by first | assumption | omega | (dsimp only; omega) | (dsimp only; assumption) | rfl), (by first | assumption | omega | (dsimp only; omega) | (dsimp only; assumption) | rfl), (by first | assumption | omega | (dsimp only; omega) | (dsimp only; assumption) | rfl)⟩, by rw [ht9]; exact hP9, hD9⟩, hS.F ht9⟩) hS.2.2 sdX8_addOperands_216
            · refine lv_aload_n hx hb sdX8_addOperands_78 rfl (lv_at hl 4 rfl) ?_
              refine lv_iload hx hb sdX8_addOperands_79 (lv_at hl 2 rfl) ?_
              refine lv_iload_n hx hb sdX8_addOperands_81 rfl (lv_at hl 3 rfl) ?_
              refine lv_iload hx hb sdX8_addOperands_82 (lv_at hl 1 rfl) ?_
              have hd178 := dl_le (((w.toUInt32 >>> ((7 : Int32).toUInt32 &&& Int32.toUInt32 31)).toInt32) &&& 31)
              have hd179 := dl_le (nuX kd w)
              have hd180 := dl_le (((w.toUInt32 >>> ((15 : Int32).toUInt32 &&& Int32.toUInt32 31)).toInt32) &&& 31)
              refine ca_v (wr := []) (rn_V (n := 3) (As := [.int (((w.toUInt32 >>> ((7 : Int32).toUInt32 &&& Int32.toUInt32 31)).toInt32) &&& 31), .int (nuX kd w), .int (((w.toUInt32 >>> ((15 : Int32).toUInt32 &&& Int32.toUInt32 31)).toInt32) &&& 31)]) (rest := []) hx hb hml hown ht hKK hFx hP hD hS hA (c_sh_reach l dC dI cI cB cZ cJ cR tb H.size sh sb a m n f (((w.toUInt32 >>> ((7 : Int32).toUInt32 &&& Int32.toUInt32 31)).toInt32) &&& 31) (nuX kd w) (((w.toUInt32 >>> ((15 : Int32).toUInt32 &&& Int32.toUInt32 31)).toInt32) &&& 31) (by first | assumption | omega) (by first | assumption | omega) (by first | assumption | omega)) sw_119 sw_120 (by decide +kernel) rfl rfl ⟨Nat.le_of_ble_eq_true rfl, Nat.le_of_ble_eq_true rfl⟩ [0, 1, 2] rfl (by decide) rfl rfl rfl rfl hl.1 rfl (Nat.le_of_ble_eq_true rfl) sdX8_addOperands_84 ⟨Nat.le_of_ble_eq_true rfl, Nat.le_of_ble_eq_true rfl⟩) hP hD hS hA (isC := [0, 1, 2]) (isR := []) rfl rfl (by decide) (by decide) (fun u H locs hw181 hP hD hS => ?_)
              obtain ⟨z183, z184, z185, f186⟩ := u
              obtain ⟨g187, g188, g189, g190⟩ := hw181
              have g187 : z183 = n + ((1 + dl (((w.toUInt32 >>> ((7 : Int32).toUInt32 &&& Int32.toUInt32 31)).toInt32) &&& 31) + 2 + dl (nuX kd w)) + 1 + (1 + dl (((w.toUInt32 >>> ((15 : Int32).toUInt32 &&& Int32.toUInt32 31)).toInt32) &&& 31)) + 1) := g187
              have g188 : z185 = 16 ∨ z185 = 34 := g188
              have g189 : z183 ≤ z185 := g189
              have g190 : sb_Fit f186 := g190
              have hP : va_P (dC, dI) vwCl [(sh, .inr (11, [.ref sb])), (sb, .inr (1, [.ref z184, .int 0, .int 0, .int (nI z183)])), (z184, .inl (cB, z185, .inl f186))] H := hP
              have hD : va_D A [(sh, .inr (11, [.ref sb])), (sb, .inr (1, [.ref z184, .int 0, .int 0, .int (nI z183)])), (z184, .inl (cB, z185, .inl f186))] := hD
              refine W.widen (k := 8) (n := 272) (by omega) (by omega) ?_
              refine lv_goto (tgt := 216) hx hb sdX8_addOperands_87 (by decide) ?_
              have hP9 := hP.sub (ws' := [(sh, .inr (11, [.ref sb])), (sb, .inr (1, [.ref z184, .int 0, .int 0, .int (nI z183)])), (z184, .inl (cB, z185, .inl f186))]) [0, 1, 2] rfl
              have hD9 := hD.sub (ws' := [(sh, .inr (11, [.ref sb])), (sb, .inr (1, [.ref z184, .int 0, .int 0, .int (nI z183)])), (z184, .inl (cB, z185, .inl f186))]) [0, 1, 2] (by decide) rfl
              refine W.widen (k := 8) (n := 272) (by omega) (by omega) ?_
              exact W.vret hx hb hr (fun t ht9 hW => ⟨⟨(z183, z184, z185, f186), rfl, ⟨(by dsimp only; unfold opX; rw [if_neg h9, if_neg h22, if_neg h23, if_neg h24, if_neg h38, if_neg h74]; omega), (by first | assumption | omega | (dsimp only; omega) | (dsimp only; assumption) | rfl), (by first | assumption | omega | (dsimp only; omega) | (dsimp only; assumption) | rfl), (by first | assumption | omega | (dsimp only; omega) | (dsimp only; assumption) | rfl)⟩, by rw [ht9]; exact hP9, hD9⟩, hS.F ht9⟩) hS.2.2 sdX8_addOperands_216
      · refine lv_aload_n hx hb sdX8_addOperands_51 rfl (lv_at hl 4 rfl) ?_
        refine lv_iload hx hb sdX8_addOperands_52 (lv_at hl 2 rfl) ?_
        refine lv_iload_n hx hb sdX8_addOperands_54 rfl (lv_at hl 3 rfl) ?_
        have hd191 := dl_le (((w.toUInt32 >>> ((7 : Int32).toUInt32 &&& Int32.toUInt32 31)).toInt32) &&& 31)
        have hd192 := dl_le (nuX kd w)
        refine ca_v (wr := []) (rn_V (n := 2) (As := [.int (((w.toUInt32 >>> ((7 : Int32).toUInt32 &&& Int32.toUInt32 31)).toInt32) &&& 31), .int (nuX kd w)]) (rest := []) hx hb hml hown ht hKK hFx hP hD hS hA (c_sh_pair l dC dI cI cB cZ cJ cR tb H.size sh sb a m n f (((w.toUInt32 >>> ((7 : Int32).toUInt32 &&& Int32.toUInt32 31)).toInt32) &&& 31) (nuX kd w) (by first | assumption | omega) (by first | assumption | omega) (by first | assumption | omega)) sw_107 sw_108 (by decide +kernel) rfl rfl ⟨Nat.le_of_ble_eq_true rfl, Nat.le_of_ble_eq_true rfl⟩ [0, 1, 2] rfl (by decide) rfl rfl rfl rfl hl.1 rfl (Nat.le_of_ble_eq_true rfl) sdX8_addOperands_55 ⟨Nat.le_of_ble_eq_true rfl, Nat.le_of_ble_eq_true rfl⟩) hP hD hS hA (isC := [0, 1, 2]) (isR := []) rfl rfl (by decide) (by decide) (fun u H locs hw193 hP hD hS => ?_)
        obtain ⟨z195, z196, z197, f198⟩ := u
        obtain ⟨g199, g200, g201, g202⟩ := hw193
        have g199 : z195 = n + (1 + dl (((w.toUInt32 >>> ((7 : Int32).toUInt32 &&& Int32.toUInt32 31)).toInt32) &&& 31) + 2 + dl (nuX kd w)) := g199
        have g200 : z197 = 16 ∨ z197 = 34 := g200
        have g201 : z195 ≤ z197 := g201
        have g202 : sb_Fit f198 := g202
        have hP : va_P (dC, dI) vwCl [(sh, .inr (11, [.ref sb])), (sb, .inr (1, [.ref z196, .int 0, .int 0, .int (nI z195)])), (z196, .inl (cB, z197, .inl f198))] H := hP
        have hD : va_D A [(sh, .inr (11, [.ref sb])), (sb, .inr (1, [.ref z196, .int 0, .int 0, .int (nI z195)])), (z196, .inl (cB, z197, .inl f198))] := hD
        refine W.widen (k := 4) (n := 136) (by omega) (by omega) ?_
        refine lv_goto (tgt := 216) hx hb sdX8_addOperands_58 (by decide) ?_
        have hP9 := hP.sub (ws' := [(sh, .inr (11, [.ref sb])), (sb, .inr (1, [.ref z196, .int 0, .int 0, .int (nI z195)])), (z196, .inl (cB, z197, .inl f198))]) [0, 1, 2] rfl
        have hD9 := hD.sub (ws' := [(sh, .inr (11, [.ref sb])), (sb, .inr (1, [.ref z196, .int 0, .int 0, .int (nI z195)])), (z196, .inl (cB, z197, .inl f198))]) [0, 1, 2] (by decide) rfl
        refine W.widen (k := 8) (n := 272) (by omega) (by omega) ?_
        exact W.vret hx hb hr (fun t ht9 hW => ⟨⟨(z195, z196, z197, f198), rfl, ⟨(by dsimp only; unfold opX; rw [if_neg h9, if_neg h22, if_pos h23]; omega), (by first | assumption | omega | (dsimp only; omega) | (dsimp only; assumption) | rfl), (by first | assumption | omega | (dsimp only; omega) | (dsimp only; assumption) | rfl), (by first | assumption | omega | (dsimp only; omega) | (dsimp only; assumption) | rfl)⟩, by rw [ht9]; exact hP9, hD9⟩, hS.F ht9⟩) hS.2.2 sdX8_addOperands_216
    · refine lv_aload_n hx hb sdX8_addOperands_33 rfl (lv_at hl 4 rfl) ?_
      refine lv_iload hx hb sdX8_addOperands_34 (lv_at hl 2 rfl) ?_
      refine lv_iload_n hx hb sdX8_addOperands_36 rfl (lv_at hl 3 rfl) ?_
      refine lv_bipush (v := 12) hx hb sdX8_addOperands_37 (by decide) ?_
      refine lv_iushr hx hb sdX8_addOperands_39 rfl ?_
      have hd203 := dl_le (((w.toUInt32 >>> ((7 : Int32).toUInt32 &&& Int32.toUInt32 31)).toInt32) &&& 31)
      have hd204 := dl_le (((nuX kd w).toUInt32 >>> ((12 : Int32).toUInt32 &&& Int32.toUInt32 31)).toInt32)
      refine ca_v (wr := []) (rn_V (n := 2) (As := [.int (((w.toUInt32 >>> ((7 : Int32).toUInt32 &&& Int32.toUInt32 31)).toInt32) &&& 31), .int (((nuX kd w).toUInt32 >>> ((12 : Int32).toUInt32 &&& Int32.toUInt32 31)).toInt32)]) (rest := []) hx hb hml hown ht hKK hFx hP hD hS hA (c_sh_pair l dC dI cI cB cZ cJ cR tb H.size sh sb a m n f (((w.toUInt32 >>> ((7 : Int32).toUInt32 &&& Int32.toUInt32 31)).toInt32) &&& 31) (((nuX kd w).toUInt32 >>> ((12 : Int32).toUInt32 &&& Int32.toUInt32 31)).toInt32) (by first | assumption | omega) (by first | assumption | omega) (by first | assumption | omega)) sw_107 sw_108 (by decide +kernel) rfl rfl ⟨Nat.le_of_ble_eq_true rfl, Nat.le_of_ble_eq_true rfl⟩ [0, 1, 2] rfl (by decide) rfl rfl rfl rfl hl.1 rfl (Nat.le_of_ble_eq_true rfl) sdX8_addOperands_40 ⟨Nat.le_of_ble_eq_true rfl, Nat.le_of_ble_eq_true rfl⟩) hP hD hS hA (isC := [0, 1, 2]) (isR := []) rfl rfl (by decide) (by decide) (fun u H locs hw205 hP hD hS => ?_)
      obtain ⟨z207, z208, z209, f210⟩ := u
      obtain ⟨g211, g212, g213, g214⟩ := hw205
      have g211 : z207 = n + (1 + dl (((w.toUInt32 >>> ((7 : Int32).toUInt32 &&& Int32.toUInt32 31)).toInt32) &&& 31) + 2 + dl (((nuX kd w).toUInt32 >>> ((12 : Int32).toUInt32 &&& Int32.toUInt32 31)).toInt32)) := g211
      have g212 : z209 = 16 ∨ z209 = 34 := g212
      have g213 : z207 ≤ z209 := g213
      have g214 : sb_Fit f210 := g214
      have hP : va_P (dC, dI) vwCl [(sh, .inr (11, [.ref sb])), (sb, .inr (1, [.ref z208, .int 0, .int 0, .int (nI z207)])), (z208, .inl (cB, z209, .inl f210))] H := hP
      have hD : va_D A [(sh, .inr (11, [.ref sb])), (sb, .inr (1, [.ref z208, .int 0, .int 0, .int (nI z207)])), (z208, .inl (cB, z209, .inl f210))] := hD
      refine W.widen (k := 4) (n := 136) (by omega) (by omega) ?_
      refine lv_goto (tgt := 216) hx hb sdX8_addOperands_43 (by decide) ?_
      have hP9 := hP.sub (ws' := [(sh, .inr (11, [.ref sb])), (sb, .inr (1, [.ref z208, .int 0, .int 0, .int (nI z207)])), (z208, .inl (cB, z209, .inl f210))]) [0, 1, 2] rfl
      have hD9 := hD.sub (ws' := [(sh, .inr (11, [.ref sb])), (sb, .inr (1, [.ref z208, .int 0, .int 0, .int (nI z207)])), (z208, .inl (cB, z209, .inl f210))]) [0, 1, 2] (by decide) rfl
      refine W.widen (k := 8) (n := 272) (by omega) (by omega) ?_
      exact W.vret hx hb hr (fun t ht9 hW => ⟨⟨(z207, z208, z209, f210), rfl, ⟨(by dsimp only; unfold opX; rw [if_neg h9, if_pos h22]; omega), (by first | assumption | omega | (dsimp only; omega) | (dsimp only; assumption) | rfl), (by first | assumption | omega | (dsimp only; omega) | (dsimp only; assumption) | rfl), (by first | assumption | omega | (dsimp only; omega) | (dsimp only; assumption) | rfl)⟩, by rw [ht9]; exact hP9, hD9⟩, hS.F ht9⟩) hS.2.2 sdX8_addOperands_216
def lenK (kd : Nat) (w : Int32) : Nat := cntN kd 6 + (if kd = 40 then 11 else if 37 ≤ kd then 0 else 1 + opX kd w)
set_option maxHeartbeats 4000000 in
set_option maxRecDepth 100000 in
/-- spell -/
theorem c_sh_spell (l : Launch) (dC : Nat → ClassId) (dI : Nat → Nat → Nat) (cI cB cZ cJ cR : ClassId) (tb : Nat → Nat) (sz : Nat) (sh : Nat) (sb : Nat) (a : Nat) (m : Nat) (f : Nat → Int32) (w : Int32) (hm : m = 16 ∨ m = 34) (hf : sb_Fit f) : Met l yX8_spell (Cond.code yX8_spell cX8_spell 3 (some .int) :: tw_W) ({ frames := 10, cells := 9, slots := 306, locals := 221 }) (pc_ (dC, dI) (tyS cI cB cZ cJ cR) tb [(sh, .inr (11, [.ref sb])), (sb, .inr (1, [.ref a, .int 0, .int 0, .int 0])), (a, .inl (cB, m, .inl f))] sz [.ref sh, .int w]) (qi_ (dC, dI) [(sh, .inr (11, [.ref sb])), (sb, .inr (1, [.ref a, .int 0, .int 0, .int 0])), (a, .inl (cB, m, .inl f))] sz (fun (r : Int32) (u : Unit) => ∃ kd : Nat, kd ≤ 40 ∧ kdI w = nI kd ∧ r = nI (lenK kd w)) (fun (u : Unit) => [])) 9 306 (va_A [(sh, .inr (11, [.ref sb])), (sb, .inr (1, [.ref a, .int 0, .int 0, .int 0])), (a, .inl (cB, m, .inl f))] sz) := by
  refine Met.ofW (cc := cX8_spell) (maxL := 3) (ret := (some .int)) (by decide) rfl ?_
  intro p e s m9 args below meth c s₁ B hml hv
  obtain ⟨rfl, hsz, hP, hKK, hD0, hFx⟩ := hv
  have hK := hKK.1
  have hx := B.exec
  have hb := B.bytes
  have hr := B.returns
  have ht : ∀ w ∈ tw_W, w.before _ s = true := fun w h => atoms_spec (ws := Cond.code yX8_spell cX8_spell 3 (some .int) :: tw_W) B.pre w (List.mem_cons_of_mem _ h)
  have hown : s.vm.findClass RX8 = some m9.cls := findClass_of_methodNamed B.named
  have hlocks := B.notSynchronized
  subst hsz
  unfold qi_
  have hD := hD0.self (sz := s.heap.size)
  generalize hAe : va_A [(sh, .inr (11, [.ref sb])), (sb, .inr (1, [.ref a, .int 0, .int 0, .int 0])), (a, .inl (cB, m, .inl f))] s.heap.size = A at hD hFx ⊢
  have hA : ∀ q : Nat, s.heap.size ≤ q → A q := fun q h => by rw [← hAe]; exact Or.inr h
  have hS : va_S A s.heap s.heap [] := va_S.rf
  have hP : va_P (dC, dI) vwCl [(sh, .inr (11, [.ref sb])), (sb, .inr (1, [.ref a, .int 0, .int 0, .int 0])), (a, .inl (cB, m, .inl f))] s.heap := hP
  have hl := lv_entry ([.ref sh, .int w]) (n := 3) (Nat.le_of_ble_eq_true rfl)
  rw [lg_entry_eq]
  generalize (lg_sl ([.ref sh, .int w]) ++ List.replicate (3 - (lg_sl ([.ref sh, .int w])).length) Slot.unset).toArray = ls at hl ⊢
  have hl : lv_has ls 3 [(0, .ref sh), (1, .int w)] := hl
  refine lv_iload_n hx hb sdX8_spell_0 rfl (lv_at hl 1 rfl) ?_
  refine ca_i (wr := [(sh, .inr (11, [.ref sb])), (sb, .inr (1, [.ref a, .int 0, .int 0, .int 0])), (a, .inl (cB, m, .inl f))]) (rn_S (n := 1) (As := [.int w]) (rest := []) hx hb hml hown ht hKK hFx hP hD hS hA (c_sh_kindOf l dC dI cI cB cZ cJ cR tb s.heap.size w) sw_121 sw_122 (by decide +kernel) rfl rfl ⟨Nat.le_of_ble_eq_true rfl, Nat.le_of_ble_eq_true rfl⟩ [] rfl (by decide) rfl hl.1 rfl (Nat.le_of_ble_eq_true rfl) sdX8_spell_1 ⟨Nat.le_of_ble_eq_true rfl, Nat.le_of_ble_eq_true rfl⟩) hP hD hS hA (isC := []) (isR := [0, 1, 2]) rfl rfl (by decide) (by decide) (fun r2 u H locs hw1 hP hD hS => ?_)
  subst hw1
  have hP : va_P (dC, dI) vwCl [(sh, .inr (11, [.ref sb])), (sb, .inr (1, [.ref a, .int 0, .int 0, .int 0])), (a, .inl (cB, m, .inl f))] H := hP
  have hD : va_D A [(sh, .inr (11, [.ref sb])), (sb, .inr (1, [.ref a, .int 0, .int 0, .int 0])), (a, .inl (cB, m, .inl f))] := hD
  refine W.widen (k := 0) (n := 0) (by omega) (by omega) ?_
  refine tp_i (y := (kdI w)) (rfl) ?_
  obtain ⟨kd, hkd, ekd⟩ := kdI_nat w
  have hcnt := cntN_le kd 6
  refine tp_i (y := (nI kd)) (ekd) ?_
  refine lv_istore_n (lv' := [(2, .int (nI kd)), (0, .ref sh), (1, .int w)]) hx hb sdX8_spell_4 rfl hl (by decide) rfl (fun ls hl => ?_)
  refine lv_aload_n hx hb sdX8_spell_5 rfl (lv_at hl 1 rfl) ?_
  refine va_get (D := (dC, dI)) (ci := 11) (v := .ref sb) (C := RX8) (T := TX8) (N := 1) hx hb ht siX8 hown hK hP 0 rfl rfl 0 (by decide) (ht _ sw_98) (fun _ h9 => h9) rfl sdX8_spell_6 ?_
  refine lv_iconst (v := 0) hx hb sdX8_spell_9 (by decide) ?_
  refine ca_v (wr := [(sh, .inr (11, [.ref sb]))]) (rn_V (n := 1) (As := [.int 0]) (rest := []) hx hb hml hown ht hKK hFx hP hD hS hA (c_sh_set0 l dC dI cI cB cZ cJ cR tb H.size sb a m f (by first | assumption | omega) (by first | assumption | omega)) sw_123 sw_124 (by decide +kernel) rfl rfl ⟨Nat.le_of_ble_eq_true rfl, Nat.le_of_ble_eq_true rfl⟩ [1, 2] rfl (by decide) rfl rfl rfl rfl hl.1 rfl (Nat.le_of_ble_eq_true rfl) sdX8_spell_10 ⟨Nat.le_of_ble_eq_true rfl, Nat.le_of_ble_eq_true rfl⟩) hP hD hS hA (isC := [1, 2]) (isR := [0]) rfl rfl (by decide) (by decide) (fun u H locs hw3 hP hD hS => ?_)
  have hP : va_P (dC, dI) vwCl [(sh, .inr (11, [.ref sb])), (sb, .inr (1, [.ref a, .int 0, .int 0, .int 0])), (a, .inl (cB, m, .inl f))] H := hP
  have hD : va_D A [(sh, .inr (11, [.ref sb])), (sb, .inr (1, [.ref a, .int 0, .int 0, .int 0])), (a, .inl (cB, m, .inl f))] := hD
  refine W.widen (k := 0) (n := 0) (by omega) (by omega) ?_
  refine lv_aload_n hx hb sdX8_spell_13 rfl (lv_at hl 1 rfl) ?_
  refine lv_iload_n hx hb sdX8_spell_14 rfl (lv_at hl 0 rfl) ?_
  refine ca_v (wr := []) (rn_V (n := 1) (As := [.int (nI kd)]) (rest := []) hx hb hml hown ht hKK hFx hP hD hS hA (c_sh_name l dC dI cI cB cZ cJ cR tb H.size sh sb a m 0 f kd (by first | assumption | omega) (by first | assumption | omega) (by first | assumption | omega) (by first | assumption | omega)) sw_125 sw_126 (by decide +kernel) rfl rfl ⟨Nat.le_of_ble_eq_true rfl, Nat.le_of_ble_eq_true rfl⟩ [0, 1, 2] rfl (by decide) rfl rfl rfl rfl hl.1 rfl (Nat.le_of_ble_eq_true rfl) sdX8_spell_15 ⟨Nat.le_of_ble_eq_true rfl, Nat.le_of_ble_eq_true rfl⟩) hP hD hS hA (isC := [0, 1, 2]) (isR := []) rfl rfl (by decide) (by decide) (fun u H locs hw5 hP hD hS => ?_)
  obtain ⟨z7, f8⟩ := u
  obtain ⟨g9, g10, g11⟩ := hw5
  have g9 : z7 = 0 + cntN kd 6 := g9
  have g10 : z7 ≤ m := g10
  have g11 : sb_Fit f8 := g11
  have hP : va_P (dC, dI) vwCl [(sh, .inr (11, [.ref sb])), (sb, .inr (1, [.ref a, .int 0, .int 0, .int (nI z7)])), (a, .inl (cB, m, .inl f8))] H := hP
  have hD : va_D A [(sh, .inr (11, [.ref sb])), (sb, .inr (1, [.ref a, .int 0, .int 0, .int (nI z7)])), (a, .inl (cB, m, .inl f8))] := hD
  refine W.widen (k := 0) (n := 0) (by omega) (by omega) ?_
  refine lv_iload_n hx hb sdX8_spell_18 rfl (lv_at hl 0 rfl) ?_
  refine lv_bipush (v := 40) hx hb sdX8_spell_19 (by decide) ?_
  refine lv_icmp_ne (tgt := 32) hx hb sdX8_spell_21 (by decide) (fun h12 => ?_) (fun h12 => ?_)
  · have hk40 : ¬ kd = 40 := fun z => h12 (congrArg nI z)
    refine lv_iload_n hx hb sdX8_spell_32 rfl (lv_at hl 0 rfl) ?_
    refine lv_bipush (v := 37) hx hb sdX8_spell_33 (by decide) ?_
    refine lv_icmp_ge (tgt := 54) hx hb sdX8_spell_35 (by decide) (fun h13 => ?_) (fun h13 => ?_)
    · have hk37 : 37 ≤ kd := (nI_leI (a := 37) (by omega) (by omega)).mp h13
      refine lv_aload_n hx hb sdX8_spell_54 rfl (lv_at hl 1 rfl) ?_
      refine va_get (D := (dC, dI)) (ci := 11) (v := .ref sb) (C := RX8) (T := TX8) (N := 1) hx hb ht siX8 hown hK hP 0 rfl rfl 0 (by decide) (ht _ sw_98) (fun _ h9 => h9) rfl sdX8_spell_55 ?_
      refine ca_i (wr := [(sh, .inr (11, [.ref sb])), (a, .inl (cB, m, .inl f8))]) (rn_V (n := 0) (As := []) (rest := []) hx hb hml hown ht hKK hFx hP hD hS hA (c_sh_len l dC dI cI cB cZ cJ cR tb H.size sb a z7) sw_127 sw_128 (by decide +kernel) rfl rfl ⟨Nat.le_of_ble_eq_true rfl, Nat.le_of_ble_eq_true rfl⟩ [1] rfl (by decide) rfl rfl rfl rfl hl.1 rfl (Nat.le_of_ble_eq_true rfl) sdX8_spell_58 ⟨Nat.le_of_ble_eq_true rfl, Nat.le_of_ble_eq_true rfl⟩) hP hD hS hA (isC := [1]) (isR := [0, 2]) rfl rfl (by decide) (by decide) (fun r15 u H locs hw14 hP hD hS => ?_)
      subst hw14
      have hP : va_P (dC, dI) vwCl [(sh, .inr (11, [.ref sb])), (a, .inl (cB, m, .inl f8)), (sb, .inr (1, [.ref a, .int 0, .int 0, .int (nI z7)]))] H := hP
      have hD : va_D A [(sh, .inr (11, [.ref sb])), (a, .inl (cB, m, .inl f8)), (sb, .inr (1, [.ref a, .int 0, .int 0, .int (nI z7)]))] := hD
      refine W.widen (k := 0) (n := 0) (by omega) (by omega) ?_
      have hP9 := hP.sub (ws' := []) [] rfl
      have hD9 := hD.sub (ws' := []) [] (by decide) rfl
      refine W.widen (k := 9) (n := 306) (by omega) (by omega) ?_
      exact W.iret (v := (nI z7)) hx hb hr (fun t ht9 hW => ⟨⟨(nI z7), (), rfl, ⟨kd, hkd, ekd, congrArg nI (by unfold lenK; rw [if_neg hk40, if_pos hk37]; omega)⟩, by rw [ht9]; exact hP9, hD9⟩, hS.F ht9⟩) hS.2.2 sdX8_spell_61
    · have hk37 : ¬ 37 ≤ kd := fun z => h13 ((nI_leI (a := 37) (by omega) (by omega)).mpr z)
      refine lv_aload_n hx hb sdX8_spell_38 rfl (lv_at hl 1 rfl) ?_
      refine va_get (D := (dC, dI)) (ci := 11) (v := .ref sb) (C := RX8) (T := TX8) (N := 1) hx hb ht siX8 hown hK hP 0 rfl rfl 0 (by decide) (ht _ sw_98) (fun _ h9 => h9) rfl sdX8_spell_39 ?_
      refine lv_bipush (v := 32) hx hb sdX8_spell_42 (by decide) ?_
      refine ca_r (wr := [(sh, .inr (11, [.ref sb]))]) (rn_V (n := 1) (As := [.int 32]) (rest := []) hx hb hml hown ht hKK hFx hP hD hS hA (c_sh_acB l dC dI cI cB cZ cJ cR tb H.size sb a m z7 f8 32 (by first | assumption | omega) (by first | assumption | omega) (by first | assumption | omega) (by first | assumption | omega)) sw_99 sw_100 (by decide +kernel) rfl rfl ⟨Nat.le_of_ble_eq_true rfl, Nat.le_of_ble_eq_true rfl⟩ [1, 2] rfl (by decide) rfl rfl rfl rfl hl.1 rfl (Nat.le_of_ble_eq_true rfl) sdX8_spell_44 ⟨Nat.le_of_ble_eq_true rfl, Nat.le_of_ble_eq_true rfl⟩) hP hD hS hA (isC := [1, 2]) (isR := [0]) rfl rfl (by decide) (by decide) (fun u H locs hw16 hP hD hS => ?_)
      obtain ⟨z18, z19, z20, f21⟩ := u
      obtain ⟨g22, g23, g24, g25⟩ := hw16
      have g22 : z18 = z7 + 1 := g22
      have g23 : z20 = 16 ∨ z20 = 34 := g23
      have g24 : z18 ≤ z20 := g24
      have g25 : sb_Fit f21 := g25
      have hP : va_P (dC, dI) vwCl [(sh, .inr (11, [.ref sb])), (sb, .inr (1, [.ref z19, .int 0, .int 0, .int (nI z18)])), (z19, .inl (cB, z20, .inl f21))] H := hP
      have hD : va_D A [(sh, .inr (11, [.ref sb])), (sb, .inr (1, [.ref z19, .int 0, .int 0, .int (nI z18)])), (z19, .inl (cB, z20, .inl f21))] := hD
      refine W.widen (k := 1) (n := 34) (by omega) (by omega) ?_
      refine lv_pop hx hb sdX8_spell_47 rfl ?_
      refine lv_aload_n hx hb sdX8_spell_48 rfl (lv_at hl 1 rfl) ?_
      refine lv_iload_n hx hb sdX8_spell_49 rfl (lv_at hl 0 rfl) ?_
      refine lv_iload_n hx hb sdX8_spell_50 rfl (lv_at hl 2 rfl) ?_
      refine ca_v (wr := []) (rn_V (n := 2) (As := [.int (nI kd), .int w]) (rest := []) hx hb hml hown ht hKK hFx hP hD hS hA (c_sh_ops l dC dI cI cB cZ cJ cR tb H.size sh sb z19 z20 z18 f21 kd w (by first | assumption | omega) (by first | assumption | omega) (by first | assumption | omega) (by first | assumption | omega)) sw_129 sw_130 (by decide +kernel) rfl rfl ⟨Nat.le_of_ble_eq_true rfl, Nat.le_of_ble_eq_true rfl⟩ [0, 1, 2] rfl (by decide) rfl rfl rfl rfl hl.1 rfl (Nat.le_of_ble_eq_true rfl) sdX8_spell_51 ⟨Nat.le_of_ble_eq_true rfl, Nat.le_of_ble_eq_true rfl⟩) hP hD hS hA (isC := [0, 1, 2]) (isR := []) rfl rfl (by decide) (by decide) (fun u H locs hw26 hP hD hS => ?_)
      obtain ⟨z28, z29, z30, f31⟩ := u
      obtain ⟨g32, g33, g34, g35⟩ := hw26
      have g32 : z28 = z18 + opX kd w := g32
      have g33 : z30 = 16 ∨ z30 = 34 := g33
      have g34 : z28 ≤ z30 := g34
      have g35 : sb_Fit f31 := g35
      have hP : va_P (dC, dI) vwCl [(sh, .inr (11, [.ref sb])), (sb, .inr (1, [.ref z29, .int 0, .int 0, .int (nI z28)])), (z29, .inl (cB, z30, .inl f31))] H := hP
      have hD : va_D A [(sh, .inr (11, [.ref sb])), (sb, .inr (1, [.ref z29, .int 0, .int 0, .int (nI z28)])), (z29, .inl (cB, z30, .inl f31))] := hD
      refine W.widen (k := 9) (n := 306) (by omega) (by omega) ?_
      refine lv_aload_n hx hb sdX8_spell_54 rfl (lv_at hl 1 rfl) ?_
      refine va_get (D := (dC, dI)) (ci := 11) (v := .ref sb) (C := RX8) (T := TX8) (N := 1) hx hb ht siX8 hown hK hP 0 rfl rfl 0 (by decide) (ht _ sw_98) (fun _ h9 => h9) rfl sdX8_spell_55 ?_
      refine ca_i (wr := [(sh, .inr (11, [.ref sb])), (z29, .inl (cB, z30, .inl f31))]) (rn_V (n := 0) (As := []) (rest := []) hx hb hml hown ht hKK hFx hP hD hS hA (c_sh_len l dC dI cI cB cZ cJ cR tb H.size sb z29 z28) sw_127 sw_128 (by decide +kernel) rfl rfl ⟨Nat.le_of_ble_eq_true rfl, Nat.le_of_ble_eq_true rfl⟩ [1] rfl (by decide) rfl rfl rfl rfl hl.1 rfl (Nat.le_of_ble_eq_true rfl) sdX8_spell_58 ⟨Nat.le_of_ble_eq_true rfl, Nat.le_of_ble_eq_true rfl⟩) hP hD hS hA (isC := [1]) (isR := [0, 2]) rfl rfl (by decide) (by decide) (fun r37 u H locs hw36 hP hD hS => ?_)
      subst hw36
      have hP : va_P (dC, dI) vwCl [(sh, .inr (11, [.ref sb])), (z29, .inl (cB, z30, .inl f31)), (sb, .inr (1, [.ref z29, .int 0, .int 0, .int (nI z28)]))] H := hP
      have hD : va_D A [(sh, .inr (11, [.ref sb])), (z29, .inl (cB, z30, .inl f31)), (sb, .inr (1, [.ref z29, .int 0, .int 0, .int (nI z28)]))] := hD
      refine W.widen (k := 9) (n := 306) (by omega) (by omega) ?_
      have hP9 := hP.sub (ws' := []) [] rfl
      have hD9 := hD.sub (ws' := []) [] (by decide) rfl
      refine W.widen (k := 9) (n := 306) (by omega) (by omega) ?_
      exact W.iret (v := (nI z28)) hx hb hr (fun t ht9 hW => ⟨⟨(nI z28), (), rfl, ⟨kd, hkd, ekd, congrArg nI (by unfold lenK; rw [if_neg hk40, if_neg hk37]; omega)⟩, by rw [ht9]; exact hP9, hD9⟩, hS.F ht9⟩) hS.2.2 sdX8_spell_61
  · have hk40 : kd = 40 := (nI_eq (b := 40) (by omega) (by omega)).mp h12
    have hc40 : cntN kd 6 = 4 := by rw [hk40]; decide
    refine lv_aload_n hx hb sdX8_spell_24 rfl (lv_at hl 1 rfl) ?_
    refine lv_iload_n hx hb sdX8_spell_25 rfl (lv_at hl 2 rfl) ?_
    refine ca_v (wr := []) (rn_V (n := 1) (As := [.int w]) (rest := []) hx hb hml hown ht hKK hFx hP hD hS hA (c_sh_hex l dC dI cI cB cZ cJ cR tb H.size sh sb a m z7 f8 w (by first | assumption | omega) (by first | assumption | omega) (by first | assumption | omega)) sw_131 sw_132 (by decide +kernel) rfl rfl ⟨Nat.le_of_ble_eq_true rfl, Nat.le_of_ble_eq_true rfl⟩ [0, 1, 2] rfl (by decide) rfl rfl rfl rfl hl.1 rfl (Nat.le_of_ble_eq_true rfl) sdX8_spell_26 ⟨Nat.le_of_ble_eq_true rfl, Nat.le_of_ble_eq_true rfl⟩) hP hD hS hA (isC := [0, 1, 2]) (isR := []) rfl rfl (by decide) (by decide) (fun u H locs hw38 hP hD hS => ?_)
    obtain ⟨z40, f41⟩ := u
    obtain ⟨g42, g43, g44⟩ := hw38
    have g42 : z40 = z7 + 11 := g42
    have g43 : z40 ≤ m := g43
    have g44 : sb_Fit f41 := g44
    have hP : va_P (dC, dI) vwCl [(sh, .inr (11, [.ref sb])), (sb, .inr (1, [.ref a, .int 0, .int 0, .int (nI z40)])), (a, .inl (cB, m, .inl f41))] H := hP
    have hD : va_D A [(sh, .inr (11, [.ref sb])), (sb, .inr (1, [.ref a, .int 0, .int 0, .int (nI z40)])), (a, .inl (cB, m, .inl f41))] := hD
    refine W.widen (k := 0) (n := 0) (by omega) (by omega) ?_
    refine lv_goto (tgt := 54) hx hb sdX8_spell_29 (by decide) ?_
    refine lv_aload_n hx hb sdX8_spell_54 rfl (lv_at hl 1 rfl) ?_
    refine va_get (D := (dC, dI)) (ci := 11) (v := .ref sb) (C := RX8) (T := TX8) (N := 1) hx hb ht siX8 hown hK hP 0 rfl rfl 0 (by decide) (ht _ sw_98) (fun _ h9 => h9) rfl sdX8_spell_55 ?_
    refine ca_i (wr := [(sh, .inr (11, [.ref sb])), (a, .inl (cB, m, .inl f41))]) (rn_V (n := 0) (As := []) (rest := []) hx hb hml hown ht hKK hFx hP hD hS hA (c_sh_len l dC dI cI cB cZ cJ cR tb H.size sb a z40) sw_127 sw_128 (by decide +kernel) rfl rfl ⟨Nat.le_of_ble_eq_true rfl, Nat.le_of_ble_eq_true rfl⟩ [1] rfl (by decide) rfl rfl rfl rfl hl.1 rfl (Nat.le_of_ble_eq_true rfl) sdX8_spell_58 ⟨Nat.le_of_ble_eq_true rfl, Nat.le_of_ble_eq_true rfl⟩) hP hD hS hA (isC := [1]) (isR := [0, 2]) rfl rfl (by decide) (by decide) (fun r46 u H locs hw45 hP hD hS => ?_)
    subst hw45
    have hP : va_P (dC, dI) vwCl [(sh, .inr (11, [.ref sb])), (a, .inl (cB, m, .inl f41)), (sb, .inr (1, [.ref a, .int 0, .int 0, .int (nI z40)]))] H := hP
    have hD : va_D A [(sh, .inr (11, [.ref sb])), (a, .inl (cB, m, .inl f41)), (sb, .inr (1, [.ref a, .int 0, .int 0, .int (nI z40)]))] := hD
    refine W.widen (k := 0) (n := 0) (by omega) (by omega) ?_
    have hP9 := hP.sub (ws' := []) [] rfl
    have hD9 := hD.sub (ws' := []) [] (by decide) rfl
    refine W.widen (k := 9) (n := 306) (by omega) (by omega) ?_
    exact W.iret (v := (nI z40)) hx hb hr (fun t ht9 hW => ⟨⟨(nI z40), (), rfl, ⟨kd, hkd, ekd, congrArg nI (by unfold lenK; rw [if_pos hk40]; omega)⟩, by rw [ht9]; exact hP9, hD9⟩, hS.F ht9⟩) hS.2.2 sdX8_spell_61
