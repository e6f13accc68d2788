theorem dX13_isIn_0 : decode cX13_isIn 0 = .ok (.iload_n 1, 1) := by decide +kernel
theorem dX13_isIn_1 : decode cX13_isIn 1 = .ok (.i2l, 1) := by decide +kernel
theorem dX13_isIn_2 : decode cX13_isIn 2 = .ok (.ldc2_w 652, 3) := by decide +kernel
theorem tw_205 : (.constantLong RX13 652 (4294967295) : Cond) ∈ tw_W := tw_in (t8_12 (List.mem_of_getElem? (i := 102) rfl)) rfl
theorem dX13_isIn_5 : decode cX13_isIn 5 = .ok (.land, 1) := by decide +kernel
theorem dX13_isIn_6 : decode cX13_isIn 6 = .ok (.lstore_n 3, 1) := by decide +kernel
theorem dX13_isIn_7 : decode cX13_isIn 7 = .ok (.lload_n 3, 1) := by decide +kernel
theorem dX13_isIn_8 : decode cX13_isIn 8 = .ok (.iload_n 2, 1) := by decide +kernel
theorem dX13_isIn_9 : decode cX13_isIn 9 = .ok (.i2l, 1) := by decide +kernel
theorem dX13_isIn_10 : decode cX13_isIn 10 = .ok (.ladd, 1) := by decide +kernel
theorem dX13_isIn_11 : decode cX13_isIn 11 = .ok (.ldc2_w 654, 3) := by decide +kernel
theorem tw_206 : (.constantLong RX13 654 (4) : Cond) ∈ tw_W := tw_in (t8_12 (List.mem_of_getElem? (i := 103) rfl)) rfl
theorem dX13_isIn_14 : decode cX13_isIn 14 = .ok (.aload_n 0, 1) := by decide +kernel
theorem dX13_isIn_15 : decode cX13_isIn 15 = .ok (.getfield 502, 3) := by decide +kernel
theorem tw_207 : (.fieldLink RX13 502 "PocketCompilerModel" "memory" "[I" : Cond) ∈ tw_W := tw_in (t8_11 (List.mem_of_getElem? (i := 13) rfl)) rfl
theorem dX13_isIn_18 : decode cX13_isIn 18 = .ok (.arraylength, 1) := by decide +kernel
theorem dX13_isIn_19 : decode cX13_isIn 19 = .ok (.i2l, 1) := by decide +kernel
theorem dX13_isIn_20 : decode cX13_isIn 20 = .ok (.lmul, 1) := by decide +kernel
theorem dX13_isIn_21 : decode cX13_isIn 21 = .ok (.lcmp, 1) := by decide +kernel
theorem dX13_isIn_22 : decode cX13_isIn 22 = .ok (.ifCond .gt 7, 3) := by decide +kernel
theorem dX13_isIn_29 : decode cX13_isIn 29 = .ok (.iconst 0, 1) := by decide +kernel
theorem dX13_isIn_30 : decode cX13_isIn 30 = .ok (.ireturn, 1) := by decide +kernel
theorem dX13_isIn_25 : decode cX13_isIn 25 = .ok (.iconst 1, 1) := by decide +kernel
theorem dX13_isIn_26 : decode cX13_isIn 26 = .ok (.goto 4, 3) := by decide +kernel
theorem dX13_byteAt_0 : decode cX13_byteAt 0 = .ok (.aload_n 0, 1) := by decide +kernel
theorem dX13_byteAt_1 : decode cX13_byteAt 1 = .ok (.getfield 502, 3) := by decide +kernel
theorem dX13_byteAt_4 : decode cX13_byteAt 4 = .ok (.iload_n 1, 1) := by decide +kernel
theorem dX13_byteAt_5 : decode cX13_byteAt 5 = .ok (.iconst 2, 1) := by decide +kernel
theorem dX13_byteAt_6 : decode cX13_byteAt 6 = .ok (.ishr, 1) := by decide +kernel
theorem dX13_byteAt_7 : decode cX13_byteAt 7 = .ok (.iaload, 1) := by decide +kernel
theorem dX13_byteAt_8 : decode cX13_byteAt 8 = .ok (.bipush 8, 2) := by decide +kernel
theorem dX13_byteAt_10 : decode cX13_byteAt 10 = .ok (.iload_n 1, 1) := by decide +kernel
theorem dX13_byteAt_11 : decode cX13_byteAt 11 = .ok (.iconst 3, 1) := by decide +kernel
theorem dX13_byteAt_12 : decode cX13_byteAt 12 = .ok (.iand, 1) := by decide +kernel
theorem dX13_byteAt_13 : decode cX13_byteAt 13 = .ok (.imul, 1) := by decide +kernel
theorem dX13_byteAt_14 : decode cX13_byteAt 14 = .ok (.ishr, 1) := by decide +kernel
theorem dX13_byteAt_15 : decode cX13_byteAt 15 = .ok (.sipush 255, 3) := by decide +kernel
theorem dX13_byteAt_18 : decode cX13_byteAt 18 = .ok (.iand, 1) := by decide +kernel
theorem dX13_byteAt_19 : decode cX13_byteAt 19 = .ok (.ireturn, 1) := by decide +kernel
theorem dX13_setByte_0 : decode cX13_setByte 0 = .ok (.bipush 8, 2) := by decide +kernel
theorem dX13_setByte_2 : decode cX13_setByte 2 = .ok (.iload_n 1, 1) := by decide +kernel
theorem dX13_setByte_3 : decode cX13_setByte 3 = .ok (.iconst 3, 1) := by decide +kernel
theorem dX13_setByte_4 : decode cX13_setByte 4 = .ok (.iand, 1) := by decide +kernel
theorem dX13_setByte_5 : decode cX13_setByte 5 = .ok (.imul, 1) := by decide +kernel
theorem dX13_setByte_6 : decode cX13_setByte 6 = .ok (.istore_n 3, 1) := by decide +kernel
theorem dX13_setByte_7 : decode cX13_setByte 7 = .ok (.aload_n 0, 1) := by decide +kernel
theorem dX13_setByte_8 : decode cX13_setByte 8 = .ok (.getfield 502, 3) := by decide +kernel
theorem dX13_setByte_11 : decode cX13_setByte 11 = .ok (.iload_n 1, 1) := by decide +kernel
theorem dX13_setByte_12 : decode cX13_setByte 12 = .ok (.iconst 2, 1) := by decide +kernel
theorem dX13_setByte_13 : decode cX13_setByte 13 = .ok (.ishr, 1) := by decide +kernel
theorem dX13_setByte_14 : decode cX13_setByte 14 = .ok (.aload_n 0, 1) := by decide +kernel
theorem dX13_setByte_15 : decode cX13_setByte 15 = .ok (.getfield 502, 3) := by decide +kernel
theorem dX13_setByte_18 : decode cX13_setByte 18 = .ok (.iload_n 1, 1) := by decide +kernel
theorem dX13_setByte_19 : decode cX13_setByte 19 = .ok (.iconst 2, 1) := by decide +kernel
theorem dX13_setByte_20 : decode cX13_setByte 20 = .ok (.ishr, 1) := by decide +kernel
theorem dX13_setByte_21 : decode cX13_setByte 21 = .ok (.iaload, 1) := by decide +kernel
theorem dX13_setByte_22 : decode cX13_setByte 22 = .ok (.sipush 255, 3) := by decide +kernel
theorem dX13_setByte_25 : decode cX13_setByte 25 = .ok (.iload_n 3, 1) := by decide +kernel
theorem dX13_setByte_26 : decode cX13_setByte 26 = .ok (.ishl, 1) := by decide +kernel
theorem dX13_setByte_27 : decode cX13_setByte 27 = .ok (.iconst (-1), 1) := by decide +kernel
theorem dX13_setByte_28 : decode cX13_setByte 28 = .ok (.ixor, 1) := by decide +kernel
theorem dX13_setByte_29 : decode cX13_setByte 29 = .ok (.iand, 1) := by decide +kernel
theorem dX13_setByte_30 : decode cX13_setByte 30 = .ok (.iload_n 2, 1) := by decide +kernel
theorem dX13_setByte_31 : decode cX13_setByte 31 = .ok (.sipush 255, 3) := by decide +kernel
theorem dX13_setByte_34 : decode cX13_setByte 34 = .ok (.iand, 1) := by decide +kernel
theorem dX13_setByte_35 : decode cX13_setByte 35 = .ok (.iload_n 3, 1) := by decide +kernel
theorem dX13_setByte_36 : decode cX13_setByte 36 = .ok (.ishl, 1) := by decide +kernel
theorem dX13_setByte_37 : decode cX13_setByte 37 = .ok (.ior, 1) := by decide +kernel
theorem dX13_setByte_38 : decode cX13_setByte 38 = .ok (.iastore, 1) := by decide +kernel
theorem dX13_setByte_39 : decode cX13_setByte 39 = .ok (.return_, 1) := by decide +kernel
theorem dX13_goes_0 : decode cX13_goes 0 = .ok (.iload_n 1, 1) := by decide +kernel
theorem dX13_goes_1 : decode cX13_goes 1 = .ok (.ifCond .le 10, 3) := by decide +kernel
theorem dX13_goes_11 : decode cX13_goes 11 = .ok (.aload_n 0, 1) := by decide +kernel
theorem dX13_goes_12 : decode cX13_goes 12 = .ok (.dup, 1) := by decide +kernel
theorem dX13_goes_13 : decode cX13_goes 13 = .ok (.getfield 633, 3) := by decide +kernel
theorem tw_208 : (.fieldLink RX13 633 "PocketCompilerModel" "pc" "I" : Cond) ∈ tw_W := tw_in (t8_11 (List.mem_of_getElem? (i := 15) rfl)) rfl
theorem dX13_goes_16 : decode cX13_goes 16 = .ok (.iconst 4, 1) := by decide +kernel
theorem dX13_goes_17 : decode cX13_goes 17 = .ok (.iadd, 1) := by decide +kernel
theorem dX13_goes_18 : decode cX13_goes 18 = .ok (.putfield 633, 3) := by decide +kernel
theorem dX13_goes_21 : decode cX13_goes 21 = .ok (.return_, 1) := by decide +kernel
theorem dX13_goes_4 : decode cX13_goes 4 = .ok (.aload_n 0, 1) := by decide +kernel
theorem dX13_goes_5 : decode cX13_goes 5 = .ok (.getfield 570, 3) := by decide +kernel
theorem tw_209 : (.fieldLink RX13 570 "PocketCompilerModel" "registers" "[I" : Cond) ∈ tw_W := tw_in (t8_11 (List.mem_of_getElem? (i := 14) rfl)) rfl
theorem dX13_goes_8 : decode cX13_goes 8 = .ok (.iload_n 1, 1) := by decide +kernel
theorem dX13_goes_9 : decode cX13_goes 9 = .ok (.iload_n 2, 1) := by decide +kernel
theorem dX13_goes_10 : decode cX13_goes 10 = .ok (.iastore, 1) := by decide +kernel
theorem dX13_jumps_0 : decode cX13_jumps 0 = .ok (.iload_n 2, 1) := by decide +kernel
theorem dX13_jumps_1 : decode cX13_jumps 1 = .ok (.iconst 3, 1) := by decide +kernel
theorem dX13_jumps_2 : decode cX13_jumps 2 = .ok (.iand, 1) := by decide +kernel
theorem dX13_jumps_3 : decode cX13_jumps 3 = .ok (.ifCond .eq 9, 3) := by decide +kernel
theorem dX13_jumps_12 : decode cX13_jumps 12 = .ok (.iload_n 1, 1) := by decide +kernel
theorem dX13_jumps_13 : decode cX13_jumps 13 = .ok (.ifCond .le 15, 3) := by decide +kernel
theorem dX13_jumps_28 : decode cX13_jumps 28 = .ok (.aload_n 0, 1) := by decide +kernel
theorem dX13_jumps_29 : decode cX13_jumps 29 = .ok (.iload_n 2, 1) := by decide +kernel
theorem dX13_jumps_30 : decode cX13_jumps 30 = .ok (.putfield 633, 3) := by decide +kernel
theorem dX13_jumps_33 : decode cX13_jumps 33 = .ok (.return_, 1) := by decide +kernel
theorem dX13_jumps_16 : decode cX13_jumps 16 = .ok (.aload_n 0, 1) := by decide +kernel
theorem dX13_jumps_17 : decode cX13_jumps 17 = .ok (.getfield 570, 3) := by decide +kernel
theorem dX13_jumps_20 : decode cX13_jumps 20 = .ok (.iload_n 1, 1) := by decide +kernel
theorem dX13_jumps_21 : decode cX13_jumps 21 = .ok (.aload_n 0, 1) := by decide +kernel
theorem dX13_jumps_22 : decode cX13_jumps 22 = .ok (.getfield 633, 3) := by decide +kernel
theorem dX13_jumps_25 : decode cX13_jumps 25 = .ok (.iconst 4, 1) := by decide +kernel
theorem dX13_jumps_26 : decode cX13_jumps 26 = .ok (.iadd, 1) := by decide +kernel
theorem dX13_jumps_27 : decode cX13_jumps 27 = .ok (.iastore, 1) := by decide +kernel
theorem dX13_jumps_6 : decode cX13_jumps 6 = .ok (.aload_n 0, 1) := by decide +kernel
theorem dX13_jumps_7 : decode cX13_jumps 7 = .ok (.iconst 3, 1) := by decide +kernel
theorem dX13_jumps_8 : decode cX13_jumps 8 = .ok (.putfield 636, 3) := by decide +kernel
theorem tw_210 : (.fieldLink RX13 636 "PocketCompilerModel" "status" "I" : Cond) ∈ tw_W := tw_in (t8_11 (List.mem_of_getElem? (i := 16) rfl)) rfl
theorem dX13_jumps_11 : decode cX13_jumps 11 = .ok (.return_, 1) := by decide +kernel
theorem dX13_branches_0 : decode cX13_branches 0 = .ok (.iload_n 3, 1) := by decide +kernel
theorem dX13_branches_1 : decode cX13_branches 1 = .ok (.iload 4, 2) := by decide +kernel
theorem dX13_branches_3 : decode cX13_branches 3 = .ok (.if_icmp .ge 7, 3) := by decide +kernel
theorem dX13_branches_10 : decode cX13_branches 10 = .ok (.iconst 0, 1) := by decide +kernel
theorem dX13_branches_11 : decode cX13_branches 11 = .ok (.istore 5, 2) := by decide +kernel
theorem dX13_branches_13 : decode cX13_branches 13 = .ok (.iload_n 3, 1) := by decide +kernel
theorem dX13_branches_14 : decode cX13_branches 14 = .ok (.ldc_w 689, 3) := by decide +kernel
theorem tw_211 : (.constant RX13 689 (-2147483648) : Cond) ∈ tw_W := tw_in (t8_12 (List.mem_of_getElem? (i := 119) rfl)) rfl
theorem dX13_branches_17 : decode cX13_branches 17 = .ok (.iadd, 1) := by decide +kernel
theorem dX13_branches_18 : decode cX13_branches 18 = .ok (.iload 4, 2) := by decide +kernel
theorem dX13_branches_20 : decode cX13_branches 20 = .ok (.ldc_w 689, 3) := by decide +kernel
theorem dX13_branches_23 : decode cX13_branches 23 = .ok (.iadd, 1) := by decide +kernel
theorem dX13_branches_24 : decode cX13_branches 24 = .ok (.if_icmp .ge 7, 3) := by decide +kernel
theorem dX13_branches_31 : decode cX13_branches 31 = .ok (.iconst 0, 1) := by decide +kernel
theorem dX13_branches_32 : decode cX13_branches 32 = .ok (.istore 6, 2) := by decide +kernel
theorem dX13_branches_34 : decode cX13_branches 34 = .ok (.iload_n 2, 1) := by decide +kernel
theorem dX13_branches_35 : decode cX13_branches 35 = .ok (.tableswitch 121 0 7 #[45, 61, 121, 121, 77, 84, 99, 106], 45) := by decide +kernel
theorem dX13_branches_80 : decode cX13_branches 80 = .ok (.iload_n 3, 1) := by decide +kernel
theorem dX13_branches_81 : decode cX13_branches 81 = .ok (.iload 4, 2) := by decide +kernel
theorem dX13_branches_83 : decode cX13_branches 83 = .ok (.if_icmp .ne 7, 3) := by decide +kernel
theorem dX13_branches_90 : decode cX13_branches 90 = .ok (.iconst 0, 1) := by decide +kernel
theorem dX13_branches_91 : decode cX13_branches 91 = .ok (.istore 7, 2) := by decide +kernel
theorem dX13_branches_93 : decode cX13_branches 93 = .ok (.goto 69, 3) := by decide +kernel
theorem dX13_branches_162 : decode cX13_branches 162 = .ok (.iload 7, 2) := by decide +kernel
theorem dX13_branches_164 : decode cX13_branches 164 = .ok (.ifCond .eq 15, 3) := by decide +kernel
theorem dX13_branches_179 : decode cX13_branches 179 = .ok (.aload_n 0, 1) := by decide +kernel
theorem dX13_branches_180 : decode cX13_branches 180 = .ok (.getfield 633, 3) := by decide +kernel
theorem dX13_branches_183 : decode cX13_branches 183 = .ok (.iconst 4, 1) := by decide +kernel
theorem dX13_branches_184 : decode cX13_branches 184 = .ok (.iadd, 1) := by decide +kernel
theorem dX13_branches_185 : decode cX13_branches 185 = .ok (.istore 8, 2) := by decide +kernel
theorem dX13_branches_187 : decode cX13_branches 187 = .ok (.iload 8, 2) := by decide +kernel
theorem dX13_branches_189 : decode cX13_branches 189 = .ok (.iconst 3, 1) := by decide +kernel
theorem dX13_branches_190 : decode cX13_branches 190 = .ok (.iand, 1) := by decide +kernel
theorem dX13_branches_191 : decode cX13_branches 191 = .ok (.ifCond .eq 11, 3) := by decide +kernel
theorem dX13_branches_202 : decode cX13_branches 202 = .ok (.aload_n 0, 1) := by decide +kernel
theorem dX13_branches_203 : decode cX13_branches 203 = .ok (.iload 8, 2) := by decide +kernel
theorem dX13_branches_205 : decode cX13_branches 205 = .ok (.putfield 633, 3) := by decide +kernel
theorem dX13_branches_208 : decode cX13_branches 208 = .ok (.return_, 1) := by decide +kernel
theorem dX13_branches_194 : decode cX13_branches 194 = .ok (.aload_n 0, 1) := by decide +kernel
theorem dX13_branches_195 : decode cX13_branches 195 = .ok (.iconst 3, 1) := by decide +kernel
theorem dX13_branches_196 : decode cX13_branches 196 = .ok (.putfield 636, 3) := by decide +kernel
theorem dX13_branches_199 : decode cX13_branches 199 = .ok (.goto 9, 3) := by decide +kernel
theorem dX13_branches_86 : decode cX13_branches 86 = .ok (.iconst 1, 1) := by decide +kernel
theorem dX13_branches_87 : decode cX13_branches 87 = .ok (.goto 4, 3) := by decide +kernel
theorem dX13_branches_167 : decode cX13_branches 167 = .ok (.aload_n 0, 1) := by decide +kernel
theorem dX13_branches_168 : decode cX13_branches 168 = .ok (.getfield 633, 3) := by decide +kernel
theorem dX13_branches_171 : decode cX13_branches 171 = .ok (.iload_n 1, 1) := by decide +kernel
theorem dX13_branches_172 : decode cX13_branches 172 = .ok (.invokestatic 690, 3) := by decide +kernel
theorem tw_212 : (.code yX13_imB cX13_imB 1 (some .int) : Cond) ∈ tw_W := tw_in (t8_12 (List.mem_of_getElem? (i := 122) rfl)) rfl
theorem tw_213 : ∀ w ∈ ([.methodLink RX13 690 yX13_imB, .static yX13_imB, .initialized yX13_imB.cls] : List Cond), w ∈ tw_W := al_c (tw_in (t8_12 (List.mem_of_getElem? (i := 120) rfl)) rfl) (al_c (tw_in (t8_12 (List.mem_of_getElem? (i := 121) rfl)) rfl) (al_c (tw_in (t8_1 (List.mem_of_getElem? (i := 23) rfl)) rfl) al_n))
theorem dX13_branches_175 : decode cX13_branches 175 = .ok (.iadd, 1) := by decide +kernel
theorem dX13_branches_176 : decode cX13_branches 176 = .ok (.goto 9, 3) := by decide +kernel
theorem dX13_branches_96 : decode cX13_branches 96 = .ok (.iload_n 3, 1) := by decide +kernel
theorem dX13_branches_97 : decode cX13_branches 97 = .ok (.iload 4, 2) := by decide +kernel
theorem dX13_branches_99 : decode cX13_branches 99 = .ok (.if_icmp .eq 7, 3) := by decide +kernel
theorem dX13_branches_106 : decode cX13_branches 106 = .ok (.iconst 0, 1) := by decide +kernel
theorem dX13_branches_107 : decode cX13_branches 107 = .ok (.istore 7, 2) := by decide +kernel
theorem dX13_branches_109 : decode cX13_branches 109 = .ok (.goto 53, 3) := by decide +kernel
theorem dX13_branches_102 : decode cX13_branches 102 = .ok (.iconst 1, 1) := by decide +kernel
theorem dX13_branches_103 : decode cX13_branches 103 = .ok (.goto 4, 3) := by decide +kernel
theorem dX13_branches_156 : decode cX13_branches 156 = .ok (.aload_n 0, 1) := by decide +kernel
theorem dX13_branches_157 : decode cX13_branches 157 = .ok (.iconst 2, 1) := by decide +kernel
theorem dX13_branches_158 : decode cX13_branches 158 = .ok (.putfield 636, 3) := by decide +kernel
theorem dX13_branches_161 : decode cX13_branches 161 = .ok (.return_, 1) := by decide +kernel
theorem dX13_branches_112 : decode cX13_branches 112 = .ok (.iload 5, 2) := by decide +kernel
theorem dX13_branches_114 : decode cX13_branches 114 = .ok (.istore 7, 2) := by decide +kernel
theorem dX13_branches_116 : decode cX13_branches 116 = .ok (.goto 46, 3) := by decide +kernel
theorem dX13_branches_119 : decode cX13_branches 119 = .ok (.iload 5, 2) := by decide +kernel
theorem dX13_branches_121 : decode cX13_branches 121 = .ok (.ifCond .ne 7, 3) := by decide +kernel
theorem dX13_branches_124 : decode cX13_branches 124 = .ok (.iconst 1, 1) := by decide +kernel
theorem dX13_branches_125 : decode cX13_branches 125 = .ok (.goto 4, 3) := by decide +kernel
theorem dX13_branches_129 : decode cX13_branches 129 = .ok (.istore 7, 2) := by decide +kernel
theorem dX13_branches_131 : decode cX13_branches 131 = .ok (.goto 31, 3) := by decide +kernel
theorem dX13_branches_134 : decode cX13_branches 134 = .ok (.iload 6, 2) := by decide +kernel
theorem dX13_branches_136 : decode cX13_branches 136 = .ok (.istore 7, 2) := by decide +kernel
theorem dX13_branches_138 : decode cX13_branches 138 = .ok (.goto 24, 3) := by decide +kernel
theorem dX13_branches_141 : decode cX13_branches 141 = .ok (.iload 6, 2) := by decide +kernel
theorem dX13_branches_143 : decode cX13_branches 143 = .ok (.ifCond .ne 7, 3) := by decide +kernel
theorem dX13_branches_146 : decode cX13_branches 146 = .ok (.iconst 1, 1) := by decide +kernel
theorem dX13_branches_147 : decode cX13_branches 147 = .ok (.goto 4, 3) := by decide +kernel
theorem dX13_branches_151 : decode cX13_branches 151 = .ok (.istore 7, 2) := by decide +kernel
theorem dX13_branches_153 : decode cX13_branches 153 = .ok (.goto 9, 3) := by decide +kernel
theorem dX13_branches_27 : decode cX13_branches 27 = .ok (.iconst 1, 1) := by decide +kernel
theorem dX13_branches_28 : decode cX13_branches 28 = .ok (.goto 4, 3) := by decide +kernel
theorem dX13_branches_150 : decode cX13_branches 150 = .ok (.iconst 0, 1) := by decide +kernel
theorem dX13_branches_6 : decode cX13_branches 6 = .ok (.iconst 1, 1) := by decide +kernel
theorem dX13_branches_7 : decode cX13_branches 7 = .ok (.goto 4, 3) := by decide +kernel
theorem dX13_branches_128 : decode cX13_branches 128 = .ok (.iconst 0, 1) := by decide +kernel
theorem dX13_reads_0 : decode cX13_reads 0 = .ok (.iconst 1, 1) := by decide +kernel
theorem dX13_reads_1 : decode cX13_reads 1 = .ok (.iload_n 3, 1) := by decide +kernel
theorem dX13_reads_2 : decode cX13_reads 2 = .ok (.iconst 3, 1) := by decide +kernel
theorem dX13_reads_3 : decode cX13_reads 3 = .ok (.iand, 1) := by decide +kernel
theorem dX13_reads_4 : decode cX13_reads 4 = .ok (.ishl, 1) := by decide +kernel
theorem dX13_reads_5 : decode cX13_reads 5 = .ok (.istore 5, 2) := by decide +kernel
theorem dX13_reads_7 : decode cX13_reads 7 = .ok (.iload_n 3, 1) := by decide +kernel
theorem dX13_reads_8 : decode cX13_reads 8 = .ok (.iconst 3, 1) := by decide +kernel
theorem dX13_reads_9 : decode cX13_reads 9 = .ok (.if_icmp .eq 8, 3) := by decide +kernel
theorem dX13_reads_17 : decode cX13_reads 17 = .ok (.aload_n 0, 1) := by decide +kernel
theorem dX13_reads_18 : decode cX13_reads 18 = .ok (.iconst 2, 1) := by decide +kernel
theorem dX13_reads_19 : decode cX13_reads 19 = .ok (.putfield 636, 3) := by decide +kernel
theorem dX13_reads_22 : decode cX13_reads 22 = .ok (.return_, 1) := by decide +kernel
theorem dX13_reads_12 : decode cX13_reads 12 = .ok (.iload_n 3, 1) := by decide +kernel
theorem dX13_reads_13 : decode cX13_reads 13 = .ok (.iconst 5, 1) := by decide +kernel
theorem dX13_reads_14 : decode cX13_reads 14 = .ok (.if_icmp .le 9, 3) := by decide +kernel
theorem dX13_reads_23 : decode cX13_reads 23 = .ok (.iload 4, 2) := by decide +kernel
theorem dX13_reads_25 : decode cX13_reads 25 = .ok (.iload 5, 2) := by decide +kernel
theorem dX13_reads_27 : decode cX13_reads 27 = .ok (.iconst 1, 1) := by decide +kernel
theorem dX13_reads_28 : decode cX13_reads 28 = .ok (.isub, 1) := by decide +kernel
theorem dX13_reads_29 : decode cX13_reads 29 = .ok (.iand, 1) := by decide +kernel
theorem dX13_reads_30 : decode cX13_reads 30 = .ok (.ifCond .ne 14, 3) := by decide +kernel
theorem dX13_reads_44 : decode cX13_reads 44 = .ok (.aload_n 0, 1) := by decide +kernel
theorem dX13_reads_45 : decode cX13_reads 45 = .ok (.iconst 3, 1) := by decide +kernel
theorem dX13_reads_46 : decode cX13_reads 46 = .ok (.putfield 636, 3) := by decide +kernel
theorem dX13_reads_49 : decode cX13_reads 49 = .ok (.return_, 1) := by decide +kernel
theorem dX13_reads_33 : decode cX13_reads 33 = .ok (.aload_n 0, 1) := by decide +kernel
theorem dX13_reads_34 : decode cX13_reads 34 = .ok (.iload 4, 2) := by decide +kernel
theorem dX13_reads_36 : decode cX13_reads 36 = .ok (.iload 5, 2) := by decide +kernel
theorem dX13_reads_38 : decode cX13_reads 38 = .ok (.invokevirtual 656, 3) := by decide +kernel
theorem tw_214 : (.code yX13_isIn cX13_isIn 5 (some .boolean) : Cond) ∈ tw_W := tw_in (t8_12 (List.mem_of_getElem? (i := 101) rfl)) rfl
theorem tw_215 : ∀ w ∈ ([.methodLink RX13 656 yX13_isIn, .instanceMethod yX13_isIn, .selects RX13 yX13_isIn yX13_isIn, .initialized RX13] : List Cond), w ∈ tw_W := al_c (tw_in (t8_12 (List.mem_of_getElem? (i := 98) rfl)) rfl) (al_c (tw_in (t8_12 (List.mem_of_getElem? (i := 100) rfl)) rfl) (al_c (tw_in (t7_12 (q := (yX13_isIn, 124)) (List.mem_of_getElem? (i := 2) rfl)) rfl) (al_c (tw_in (t8_1 (List.mem_of_getElem? (i := 23) rfl)) rfl) al_n)))
theorem dX13_reads_41 : decode cX13_reads 41 = .ok (.ifCond .ne 9, 3) := by decide +kernel
theorem dX13_reads_50 : decode cX13_reads 50 = .ok (.iconst 0, 1) := by decide +kernel
theorem dX13_reads_51 : decode cX13_reads 51 = .ok (.istore 6, 2) := by decide +kernel
theorem dX13_reads_53 : decode cX13_reads 53 = .ok (.iload 5, 2) := by decide +kernel
theorem dX13_reads_55 : decode cX13_reads 55 = .ok (.iconst 1, 1) := by decide +kernel
theorem dX13_reads_56 : decode cX13_reads 56 = .ok (.isub, 1) := by decide +kernel
theorem dX13_reads_57 : decode cX13_reads 57 = .ok (.istore 7, 2) := by decide +kernel
theorem dX13_reads_59 : decode cX13_reads 59 = .ok (.iload 7, 2) := by decide +kernel
theorem dX13_reads_61 : decode cX13_reads 61 = .ok (.ifCond .lt 26, 3) := by decide +kernel
theorem dX13_reads_87 : decode cX13_reads 87 = .ok (.aload_n 0, 1) := by decide +kernel
theorem dX13_reads_88 : decode cX13_reads 88 = .ok (.iload_n 2, 1) := by decide +kernel
theorem dX13_reads_89 : decode cX13_reads 89 = .ok (.iload_n 3, 1) := by decide +kernel
theorem dX13_reads_90 : decode cX13_reads 90 = .ok (.ifCond .ne 9, 3) := by decide +kernel
theorem dX13_reads_99 : decode cX13_reads 99 = .ok (.iload_n 3, 1) := by decide +kernel
theorem dX13_reads_100 : decode cX13_reads 100 = .ok (.iconst 1, 1) := by decide +kernel
theorem dX13_reads_101 : decode cX13_reads 101 = .ok (.if_icmp .ne 9, 3) := by decide +kernel
theorem dX13_reads_110 : decode cX13_reads 110 = .ok (.iload 6, 2) := by decide +kernel
theorem dX13_reads_112 : decode cX13_reads 112 = .ok (.invokevirtual 659, 3) := by decide +kernel
theorem tw_216 : (.code yX13_goes cX13_goes 3 none : Cond) ∈ tw_W := tw_in (t8_12 (List.mem_of_getElem? (i := 107) rfl)) rfl
theorem tw_217 : ∀ w ∈ ([.methodLink RX13 659 yX13_goes, .instanceMethod yX13_goes, .selects RX13 yX13_goes yX13_goes, .initialized RX13] : List Cond), w ∈ tw_W := al_c (tw_in (t8_12 (List.mem_of_getElem? (i := 104) rfl)) rfl) (al_c (tw_in (t8_12 (List.mem_of_getElem? (i := 106) rfl)) rfl) (al_c (tw_in (t7_12 (q := (yX13_goes, 124)) (List.mem_of_getElem? (i := 3) rfl)) rfl) (al_c (tw_in (t8_1 (List.mem_of_getElem? (i := 23) rfl)) rfl) al_n)))
theorem dX13_reads_115 : decode cX13_reads 115 = .ok (.return_, 1) := by decide +kernel
theorem dX13_reads_104 : decode cX13_reads 104 = .ok (.iload 6, 2) := by decide +kernel
theorem dX13_reads_106 : decode cX13_reads 106 = .ok (.i2s, 1) := by decide +kernel
theorem dX13_reads_107 : decode cX13_reads 107 = .ok (.goto 5, 3) := by decide +kernel
theorem dX13_reads_93 : decode cX13_reads 93 = .ok (.iload 6, 2) := by decide +kernel
theorem dX13_reads_95 : decode cX13_reads 95 = .ok (.i2b, 1) := by decide +kernel
theorem dX13_reads_96 : decode cX13_reads 96 = .ok (.goto 16, 3) := by decide +kernel
theorem dX13_reads_64 : decode cX13_reads 64 = .ok (.iload 6, 2) := by decide +kernel
theorem dX13_reads_66 : decode cX13_reads 66 = .ok (.bipush 8, 2) := by decide +kernel
theorem dX13_reads_68 : decode cX13_reads 68 = .ok (.ishl, 1) := by decide +kernel
theorem dX13_reads_69 : decode cX13_reads 69 = .ok (.aload_n 0, 1) := by decide +kernel
theorem dX13_reads_70 : decode cX13_reads 70 = .ok (.iload 4, 2) := by decide +kernel
theorem dX13_reads_72 : decode cX13_reads 72 = .ok (.iload 7, 2) := by decide +kernel
theorem dX13_reads_74 : decode cX13_reads 74 = .ok (.iadd, 1) := by decide +kernel
theorem dX13_reads_75 : decode cX13_reads 75 = .ok (.invokevirtual 693, 3) := by decide +kernel
theorem tw_218 : (.code yX13_byteAt cX13_byteAt 2 (some .int) : Cond) ∈ tw_W := tw_in (t8_12 (List.mem_of_getElem? (i := 130) rfl)) rfl
theorem tw_219 : ∀ w ∈ ([.methodLink RX13 693 yX13_byteAt, .instanceMethod yX13_byteAt, .selects RX13 yX13_byteAt yX13_byteAt, .initialized RX13] : List Cond), w ∈ tw_W := al_c (tw_in (t8_12 (List.mem_of_getElem? (i := 127) rfl)) rfl) (al_c (tw_in (t8_12 (List.mem_of_getElem? (i := 129) rfl)) rfl) (al_c (tw_in (t7_12 (q := (yX13_byteAt, 124)) (List.mem_of_getElem? (i := 7) rfl)) rfl) (al_c (tw_in (t8_1 (List.mem_of_getElem? (i := 23) rfl)) rfl) al_n)))
theorem dX13_reads_78 : decode cX13_reads 78 = .ok (.ior, 1) := by decide +kernel
theorem dX13_reads_79 : decode cX13_reads 79 = .ok (.istore 6, 2) := by decide +kernel
theorem dX13_reads_81 : decode cX13_reads 81 = .ok (.iinc 7 (-1), 3) := by decide +kernel
theorem dX13_reads_84 : decode cX13_reads 84 = .ok (.goto (-25), 3) := by decide +kernel
theorem dX13_writes_0 : decode cX13_writes 0 = .ok (.iconst 1, 1) := by decide +kernel
theorem dX13_writes_1 : decode cX13_writes 1 = .ok (.iload_n 1, 1) := by decide +kernel
theorem dX13_writes_2 : decode cX13_writes 2 = .ok (.iconst 3, 1) := by decide +kernel
theorem dX13_writes_3 : decode cX13_writes 3 = .ok (.iand, 1) := by decide +kernel
theorem dX13_writes_4 : decode cX13_writes 4 = .ok (.ishl, 1) := by decide +kernel
theorem dX13_writes_5 : decode cX13_writes 5 = .ok (.istore 4, 2) := by decide +kernel
theorem dX13_writes_7 : decode cX13_writes 7 = .ok (.iload_n 1, 1) := by decide +kernel
theorem dX13_writes_8 : decode cX13_writes 8 = .ok (.iconst 2, 1) := by decide +kernel
theorem dX13_writes_9 : decode cX13_writes 9 = .ok (.if_icmp .le 9, 3) := by decide +kernel
theorem dX13_writes_18 : decode cX13_writes 18 = .ok (.iload_n 2, 1) := by decide +kernel
theorem dX13_writes_19 : decode cX13_writes 19 = .ok (.iload 4, 2) := by decide +kernel
theorem dX13_writes_21 : decode cX13_writes 21 = .ok (.iconst 1, 1) := by decide +kernel
theorem dX13_writes_22 : decode cX13_writes 22 = .ok (.isub, 1) := by decide +kernel
theorem dX13_writes_23 : decode cX13_writes 23 = .ok (.iand, 1) := by decide +kernel
theorem dX13_writes_24 : decode cX13_writes 24 = .ok (.ifCond .ne 13, 3) := by decide +kernel
theorem dX13_writes_37 : decode cX13_writes 37 = .ok (.aload_n 0, 1) := by decide +kernel
theorem dX13_writes_38 : decode cX13_writes 38 = .ok (.iconst 3, 1) := by decide +kernel
theorem dX13_writes_39 : decode cX13_writes 39 = .ok (.putfield 636, 3) := by decide +kernel
theorem dX13_writes_42 : decode cX13_writes 42 = .ok (.return_, 1) := by decide +kernel
theorem dX13_writes_27 : decode cX13_writes 27 = .ok (.aload_n 0, 1) := by decide +kernel
theorem dX13_writes_28 : decode cX13_writes 28 = .ok (.iload_n 2, 1) := by decide +kernel
theorem dX13_writes_29 : decode cX13_writes 29 = .ok (.iload 4, 2) := by decide +kernel
theorem dX13_writes_31 : decode cX13_writes 31 = .ok (.invokevirtual 656, 3) := by decide +kernel
theorem dX13_writes_34 : decode cX13_writes 34 = .ok (.ifCond .ne 9, 3) := by decide +kernel
theorem dX13_writes_43 : decode cX13_writes 43 = .ok (.iconst 0, 1) := by decide +kernel
theorem dX13_writes_44 : decode cX13_writes 44 = .ok (.istore 5, 2) := by decide +kernel
theorem dX13_writes_46 : decode cX13_writes 46 = .ok (.iload 5, 2) := by decide +kernel
theorem dX13_writes_48 : decode cX13_writes 48 = .ok (.iload 4, 2) := by decide +kernel
theorem dX13_writes_50 : decode cX13_writes 50 = .ok (.if_icmp .ge 24, 3) := by decide +kernel
theorem dX13_writes_74 : decode cX13_writes 74 = .ok (.aload_n 0, 1) := by decide +kernel
theorem dX13_writes_75 : decode cX13_writes 75 = .ok (.dup, 1) := by decide +kernel
theorem dX13_writes_76 : decode cX13_writes 76 = .ok (.getfield 633, 3) := by decide +kernel
theorem dX13_writes_79 : decode cX13_writes 79 = .ok (.iconst 4, 1) := by decide +kernel
theorem dX13_writes_80 : decode cX13_writes 80 = .ok (.iadd, 1) := by decide +kernel
theorem dX13_writes_81 : decode cX13_writes 81 = .ok (.putfield 633, 3) := by decide +kernel
theorem dX13_writes_84 : decode cX13_writes 84 = .ok (.return_, 1) := by decide +kernel
theorem dX13_writes_53 : decode cX13_writes 53 = .ok (.aload_n 0, 1) := by decide +kernel
theorem dX13_writes_54 : decode cX13_writes 54 = .ok (.iload_n 2, 1) := by decide +kernel
theorem dX13_writes_55 : decode cX13_writes 55 = .ok (.iload 5, 2) := by decide +kernel
theorem dX13_writes_57 : decode cX13_writes 57 = .ok (.iadd, 1) := by decide +kernel
theorem dX13_writes_58 : decode cX13_writes 58 = .ok (.iload_n 3, 1) := by decide +kernel
theorem dX13_writes_59 : decode cX13_writes 59 = .ok (.bipush 8, 2) := by decide +kernel
theorem dX13_writes_61 : decode cX13_writes 61 = .ok (.iload 5, 2) := by decide +kernel
theorem dX13_writes_63 : decode cX13_writes 63 = .ok (.imul, 1) := by decide +kernel
theorem dX13_writes_64 : decode cX13_writes 64 = .ok (.ishr, 1) := by decide +kernel
theorem dX13_writes_65 : decode cX13_writes 65 = .ok (.invokevirtual 696, 3) := by decide +kernel
theorem tw_220 : (.code yX13_setByte cX13_setByte 4 none : Cond) ∈ tw_W := tw_in (t8_12 (List.mem_of_getElem? (i := 138) rfl)) rfl
theorem tw_221 : ∀ w ∈ ([.methodLink RX13 696 yX13_setByte, .instanceMethod yX13_setByte, .selects RX13 yX13_setByte yX13_setByte, .initialized RX13] : List Cond), w ∈ tw_W := al_c (tw_in (t8_12 (List.mem_of_getElem? (i := 135) rfl)) rfl) (al_c (tw_in (t8_12 (List.mem_of_getElem? (i := 137) rfl)) rfl) (al_c (tw_in (t7_12 (q := (yX13_setByte, 124)) (List.mem_of_getElem? (i := 9) rfl)) rfl) (al_c (tw_in (t8_1 (List.mem_of_getElem? (i := 23) rfl)) rfl) al_n)))
theorem dX13_writes_68 : decode cX13_writes 68 = .ok (.iinc 5 1, 3) := by decide +kernel
theorem dX13_writes_71 : decode cX13_writes 71 = .ok (.goto (-25), 3) := by decide +kernel
theorem dX13_writes_12 : decode cX13_writes 12 = .ok (.aload_n 0, 1) := by decide +kernel
theorem dX13_writes_13 : decode cX13_writes 13 = .ok (.iconst 2, 1) := by decide +kernel
theorem dX13_writes_14 : decode cX13_writes 14 = .ok (.putfield 636, 3) := by decide +kernel
theorem dX13_writes_17 : decode cX13_writes 17 = .ok (.return_, 1) := by decide +kernel
theorem dX13_less_0 : decode cX13_less 0 = .ok (.iload_n 0, 1) := by decide +kernel
theorem dX13_less_1 : decode cX13_less 1 = .ok (.ifCond .eq 7, 3) := by decide +kernel
theorem dX13_less_8 : decode cX13_less 8 = .ok (.iconst 0, 1) := by decide +kernel
theorem dX13_less_9 : decode cX13_less 9 = .ok (.ireturn, 1) := by decide +kernel
theorem dX13_less_4 : decode cX13_less 4 = .ok (.iconst 1, 1) := by decide +kernel
theorem dX13_less_5 : decode cX13_less 5 = .ok (.goto 4, 3) := by decide +kernel
theorem om_a85b825e17 {n0 : Nat} (h0 : (256 : Int) ≤ (n0 : Int) ∧ (n0 : Int) ≤ 4096) : (n0 : Int) ≤ 4096 := by omega
set_option maxHeartbeats 4000000 in
set_option maxRecDepth 100000 in
theorem c_m_isIn (l : Launch) (dC : Nat → ClassId) (dI : Nat → Nat → Nat) (cI cB cZ cJ cR : ClassId) (tb : Nat → Nat) (sz : Nat) (ad : Nat → Nat) (N : Nat) (v : MS) (pa : Int32) (pb : Int32) (zN : (256 : Int) ≤ (N : Int) ∧ (N : Int) ≤ 4096) (zk : 0 ≤ pb.toInt ∧ pb.toInt ≤ 8) : Met l yX13_isIn (Cond.code yX13_isIn cX13_isIn 5 (some .boolean) :: tw_W) ({ frames := 0, cells := 0, slots := 0, locals := 0 }) (pc_ (dC, dI) (tyS cI cB cZ cJ cR) tb (mW ad N cI cZ cJ v) sz [.ref (ad 0), .int pa, .int pb]) (qi_ (dC, dI) (mW ad N cI cZ cJ v) sz (fun (r : Int32) (u : MS) => v = u ∧ (r = 0 ∨ r = 1) ∧ (0 ≤ r.toInt ∧ r.toInt ≤ 1) ∧ (r.toInt = 0 ∨ (0 ≤ pa.toInt ∧ pa.toInt + pb.toInt ≤ 4 * (N : Int))) ∧ (r.toInt = 1 ∨ (pa.toInt < 0 ∨ 4 * (N : Int) < pa.toInt + pb.toInt))) (fun (u : MS) => (mW ad N cI cZ cJ u))) 0 0 (va_A (mW ad N cI cZ cJ v) sz) := by
  refine Met.ofW (cc := cX13_isIn) (maxL := 5) (ret := (some .boolean)) (by decide) rfl ?_
  intro p e s m args below meth c s₁ B hml hv
  obtain ⟨rfl, hsz, hP, hKK, hD0, hFx⟩ := hv
  have hK := hKK.1
  have hx := B.exec
  have hb := B.bytes
  have hr := B.returns
  have ht : ∀ w ∈ tw_W, w.before _ s = true := fun w h => atoms_spec (ws := Cond.code yX13_isIn cX13_isIn 5 (some .boolean) :: tw_W) B.pre w (List.mem_cons_of_mem _ h)
  have hown : s.vm.findClass RX13 = some m.cls := findClass_of_methodNamed B.named
  have hlocks := B.notSynchronized
  subst hsz
  unfold qi_
  have hD := hD0.self (sz := s.heap.size)
  generalize hAe : va_A (mW ad N cI cZ cJ v) s.heap.size = A at hD hFx ⊢
  have hA : ∀ q : Nat, s.heap.size ≤ q → A q := fun q h => by rw [← hAe]; exact Or.inr h
  have hS : va_S A s.heap s.heap [] := va_S.rf
  have hl := lv_entry ([.ref (ad 0), .int pa, .int pb]) (n := 5) (Nat.le_of_ble_eq_true rfl)
  rw [lg_entry_eq]
  generalize (lg_sl ([.ref (ad 0), .int pa, .int pb]) ++ List.replicate (5 - (lg_sl ([.ref (ad 0), .int pa, .int pb])).length) Slot.unset).toArray = ls at hl ⊢
  have hl : lv_has ls 5 [(0, .ref (ad 0)), (1, .int pa), (2, .int pb)] := hl
  refine lv_iload_n hx hb dX13_isIn_0 rfl (lv_at hl 1 rfl) ?_
  refine lv_i2l hx hb dX13_isIn_1 rfl ?_
  refine lv_ldc2 (v := 4294967295) hx hb hown (ht _ tw_205) dX13_isIn_2 ?_
  refine lv_land hx hb dX13_isIn_5 ?_
  refine lv_lstore_n (lv' := [(3, .long ((pa).toInt64 &&& 4294967295)), (0, .ref (ad 0)), (1, .int pa), (2, .int pb)]) hx hb dX13_isIn_6 rfl hl (by decide) rfl (fun ls hl => ?_)
  refine lv_lload_n hx hb dX13_isIn_7 rfl (lv_at hl 0 rfl) ?_
  refine lv_iload_n hx hb dX13_isIn_8 rfl (lv_at hl 3 rfl) ?_
  refine lv_i2l hx hb dX13_isIn_9 rfl ?_
  refine lv_ladd hx hb dX13_isIn_10 ?_
  refine lv_ldc2 (v := 4) hx hb hown (ht _ tw_206) dX13_isIn_11 ?_
  refine lv_aload_n hx hb dX13_isIn_14 rfl (lv_at hl 1 rfl) ?_
  refine va_get (D := (dC, dI)) (ci := 16) (fs := mF ad v) (v := .ref (ad 96)) (C := RX13) (T := TX13) (N := 124) hx hb ht itX13 hown hK hP 0 rfl rfl 96 (by decide) (ht _ tw_207) (fun _ h9 => h9) rfl dX13_isIn_15 ?_
  refine va_alen (D := (dC, dI)) (v := (nI N)) hx hb hK hP 52 0 rfl rfl rfl dX13_isIn_18 ?_
  have zN1 : (nI N).toInt = (N : Int) := nI_N (by have := (om_a85b825e17 zN); omega)
  refine lv_i2l hx hb dX13_isIn_19 rfl ?_
  refine lv_lmul hx hb dX13_isIn_20 ?_
  refine W.lcmp hx hb dX13_isIn_21 ?_
  refine lv_if_gt (tgt := 29) hx hb dX13_isIn_22 (by decide) (fun h2 => ?_) (fun h2 => ?_)
  · have z3 : (0 : Int) < (lg_cmp (((pa).toInt64 &&& 4294967295) + (pb).toInt64) (4 * ((nI N).toInt64))).toInt := lt_z (show (0 : Int32).toInt = (0 : Int) by decide) rfl h2
    refine lv_iconst (v := 0) hx hb dX13_isIn_29 (by decide) ?_
    exact W.zret (v := 0) hx hb hr rfl (fun t ht9 hW => ⟨⟨0, v, rfl, ⟨rfl, ⟨Or.inl rfl, (by decide), Or.inl (by decide), Or.inr (isin_n zk (by have := zN.2; omega) z3)⟩⟩, by rw [ht9]; exact hP, hD⟩, hS.F ht9⟩) hS.2.2 dX13_isIn_30
  · have z4 : (lg_cmp (((pa).toInt64 &&& 4294967295) + (pb).toInt64) (4 * ((nI N).toInt64))).toInt ≤ (0 : Int) := nlt_z (show (0 : Int32).toInt = (0 : Int) by decide) rfl h2
    refine lv_iconst (v := 1) hx hb dX13_isIn_25 (by decide) ?_
    refine lv_goto (tgt := 30) hx hb dX13_isIn_26 (by decide) ?_
    exact W.zret (v := 1) hx hb hr rfl (fun t ht9 hW => ⟨⟨1, v, rfl, ⟨rfl, ⟨Or.inr rfl, (by decide), Or.inr (isin_k zk (by have := zN.2; omega) z4), Or.inl (by decide)⟩⟩, by rw [ht9]; exact hP, hD⟩, hS.F ht9⟩) hS.2.2 dX13_isIn_30
theorem om_7dc86ce783 {x0 : Int} {n1 : Nat} (h0 : 0 ≤ x0 ∧ x0 < 4 * (n1 : Int)) : 0 ≤ x0 := by omega
theorem om_04a8277abe {x0 x2 : Int} {n1 : Nat} (h0 : 0 ≤ x0 ∧ x0 < 4 * (n1 : Int)) (h1 : 4 * x2 ≤ x0 ∧ x0 ≤ 4 * x2 + 3) : 0 ≤ x2 := by omega
theorem om_31a9b75597 {x0 x2 : Int} {n1 : Nat} (h0 : 0 ≤ x0 ∧ x0 < 4 * (n1 : Int)) (h1 : 4 * x2 ≤ x0 ∧ x0 ≤ 4 * x2 + 3) : x2 < (n1 : Int) := by omega
theorem om_caeebbc66c {x0 : Int} (h0 : 0 ≤ x0 ∧ x0 < 4) : -2147483648 ≤ (8 : Int) * (x0) := by omega
theorem om_25e35bdc3e {x0 : Int} (h0 : 0 ≤ x0 ∧ x0 < 4) : (8 : Int) * (x0) < 2147483648 := by omega
set_option maxHeartbeats 4000000 in
set_option maxRecDepth 100000 in
theorem c_m_byteAt (l : Launch) (dC : Nat → ClassId) (dI : Nat → Nat → Nat) (cI cB cZ cJ cR : ClassId) (tb : Nat → Nat) (sz : Nat) (ad : Nat → Nat) (N : Nat) (v : MS) (pa : Int32) (zN : (256 : Int) ≤ (N : Int) ∧ (N : Int) ≤ 4096) (za : 0 ≤ pa.toInt ∧ pa.toInt < 4 * (N : Int)) : Met l yX13_byteAt (Cond.code yX13_byteAt cX13_byteAt 2 (some .int) :: tw_W) ({ frames := 0, cells := 0, slots := 0, locals := 0 }) (pc_ (dC, dI) (tyS cI cB cZ cJ cR) tb (mW ad N cI cZ cJ v) sz [.ref (ad 0), .int pa]) (qi_ (dC, dI) (mW ad N cI cZ cJ v) sz (fun (r : Int32) (u : MS) => v = u) (fun (u : MS) => (mW ad N cI cZ cJ u))) 0 0 (va_A (mW ad N cI cZ cJ v) sz) := by
  refine Met.ofW (cc := cX13_byteAt) (maxL := 2) (ret := (some .int)) (by decide) rfl ?_
  intro p e s m args below meth c s₁ B hml hv
  obtain ⟨rfl, hsz, hP, hKK, hD0, hFx⟩ := hv
  have hK := hKK.1
  have hx := B.exec
  have hb := B.bytes
  have hr := B.returns
  have ht : ∀ w ∈ tw_W, w.before _ s = true := fun w h => atoms_spec (ws := Cond.code yX13_byteAt cX13_byteAt 2 (some .int) :: tw_W) B.pre w (List.mem_cons_of_mem _ h)
  have hown : s.vm.findClass RX13 = some m.cls := findClass_of_methodNamed B.named
  have hlocks := B.notSynchronized
  subst hsz
  unfold qi_
  have hD := hD0.self (sz := s.heap.size)
  generalize hAe : va_A (mW ad N cI cZ cJ v) s.heap.size = A at hD hFx ⊢
  have hA : ∀ q : Nat, s.heap.size ≤ q → A q := fun q h => by rw [← hAe]; exact Or.inr h
  have hS : va_S A s.heap s.heap [] := va_S.rf
  have hl := lv_entry ([.ref (ad 0), .int pa]) (n := 2) (Nat.le_of_ble_eq_true rfl)
  rw [lg_entry_eq]
  generalize (lg_sl ([.ref (ad 0), .int pa]) ++ List.replicate (2 - (lg_sl ([.ref (ad 0), .int pa])).length) Slot.unset).toArray = ls at hl ⊢
  have hl : lv_has ls 2 [(0, .ref (ad 0)), (1, .int pa)] := hl
  refine lv_aload_n hx hb dX13_byteAt_0 rfl (lv_at hl 0 rfl) ?_
  refine va_get (D := (dC, dI)) (ci := 16) (fs := mF ad v) (v := .ref (ad 96)) (C := RX13) (T := TX13) (N := 124) hx hb ht itX13 hown hK hP 0 rfl rfl 96 (by decide) (ht _ tw_207) (fun _ h9 => h9) rfl dX13_byteAt_1 ?_
  refine lv_iload_n hx hb dX13_byteAt_4 rfl (lv_at hl 1 rfl) ?_
  refine lv_iconst (v := 2) hx hb dX13_byteAt_5 (by decide) ?_
  refine lv_ishr hx hb dX13_byteAt_6 ?_
  have z1 : 4 * (pa >>> ((2 : Int32) &&& 31)).toInt ≤ pa.toInt ∧ pa.toInt ≤ 4 * (pa >>> ((2 : Int32) &&& 31)).toInt + 3 := shr2_f (om_7dc86ce783 za)
  refine va_iald (D := (dC, dI)) (f := (v.1 96)) hx hb hK hP 52 0 rfl rfl (in_y (a := (pa >>> ((2 : Int32) &&& 31)).toInt) (b := (N : Int)) rfl (om_04a8277abe za z1) (om_31a9b75597 za z1) rfl) dX13_byteAt_7 ?_
  refine lv_bipush (v := 8) hx hb dX13_byteAt_8 (by decide) ?_
  refine lv_iload_n hx hb dX13_byteAt_10 rfl (lv_at hl 1 rfl) ?_
  refine lv_iconst (v := 3) hx hb dX13_byteAt_11 (by decide) ?_
  refine lv_iand hx hb dX13_byteAt_12 ?_
  refine lv_imul hx hb dX13_byteAt_13 ?_
  have q2 : 0 ≤ (pa &&& (3 : Int32)).toInt ∧ (pa &&& (3 : Int32)).toInt < 4 := and_f (n := 4) (pk_andIn pa 2 (by decide) (by decide))
  have z3 : ((8 : Int32) * (pa &&& (3 : Int32))).toInt = (8 : Int) * ((pa &&& (3 : Int32)).toInt) := mul_z (show (8 : Int32).toInt = (8 : Int) by decide) rfl (om_caeebbc66c q2) (om_25e35bdc3e q2)
  refine lv_ishr hx hb dX13_byteAt_14 ?_
  refine lv_sipush (v := 255) hx hb dX13_byteAt_15 (by decide) ?_
  refine lv_iand hx hb dX13_byteAt_18 ?_
  exact W.iret (v := ((((v.1 96) (pa >>> ((2 : Int32) &&& 31)).toNatClampNeg) >>> (((8 : Int32) * (pa &&& (3 : Int32))) &&& 31)) &&& (255 : Int32))) hx hb hr (fun t ht9 hW => ⟨⟨((((v.1 96) (pa >>> ((2 : Int32) &&& 31)).toNatClampNeg) >>> (((8 : Int32) * (pa &&& (3 : Int32))) &&& 31)) &&& (255 : Int32)), v, rfl, rfl, by rw [ht9]; exact hP, hD⟩, hS.F ht9⟩) hS.2.2 dX13_byteAt_19
set_option maxHeartbeats 4000000 in
set_option maxRecDepth 100000 in
theorem c_m_setByte (l : Launch) (dC : Nat → ClassId) (dI : Nat → Nat → Nat) (cI cB cZ cJ cR : ClassId) (tb : Nat → Nat) (sz : Nat) (ad : Nat → Nat) (N : Nat) (v : MS) (pa : Int32) (pb : Int32) (zN : (256 : Int) ≤ (N : Int) ∧ (N : Int) ≤ 4096) (za : 0 ≤ pa.toInt ∧ pa.toInt < 4 * (N : Int)) : Met l yX13_setByte (Cond.code yX13_setByte cX13_setByte 4 none :: tw_W) ({ frames := 0, cells := 0, slots := 0, locals := 0 }) (pc_ (dC, dI) (tyS cI cB cZ cJ cR) tb (mW ad N cI cZ cJ v) sz [.ref (ad 0), .int pa, .int pb]) (qv_ (dC, dI) (mW ad N cI cZ cJ v) sz (fun (u : MS) => FG [] [96] v u) (fun (u : MS) => (mW ad N cI cZ cJ u))) 0 0 (va_A (mW ad N cI cZ cJ v) sz) := by
  refine Met.ofW (cc := cX13_setByte) (maxL := 4) (ret := none) (by decide) rfl ?_
  intro p e s m args below meth c s₁ B hml hv
  obtain ⟨rfl, hsz, hP, hKK, hD0, hFx⟩ := hv
  have hK := hKK.1
  have hx := B.exec
  have hb := B.bytes
  have hr := B.returns
  have ht : ∀ w ∈ tw_W, w.before _ s = true := fun w h => atoms_spec (ws := Cond.code yX13_setByte cX13_setByte 4 none :: tw_W) B.pre w (List.mem_cons_of_mem _ h)
  have hown : s.vm.findClass RX13 = some m.cls := findClass_of_methodNamed B.named
  have hlocks := B.notSynchronized
  subst hsz
  unfold qv_
  have hD := hD0.self (sz := s.heap.size)
  generalize hAe : va_A (mW ad N cI cZ cJ v) s.heap.size = A at hD hFx ⊢
  have hA : ∀ q : Nat, s.heap.size ≤ q → A q := fun q h => by rw [← hAe]; exact Or.inr h
  have hS : va_S A s.heap s.heap [] := va_S.rf
  have hl := lv_entry ([.ref (ad 0), .int pa, .int pb]) (n := 4) (Nat.le_of_ble_eq_true rfl)
  rw [lg_entry_eq]
  generalize (lg_sl ([.ref (ad 0), .int pa, .int pb]) ++ List.replicate (4 - (lg_sl ([.ref (ad 0), .int pa, .int pb])).length) Slot.unset).toArray = ls at hl ⊢
  have hl : lv_has ls 4 [(0, .ref (ad 0)), (1, .int pa), (2, .int pb)] := hl
  refine lv_bipush (v := 8) hx hb dX13_setByte_0 (by decide) ?_
  refine lv_iload_n hx hb dX13_setByte_2 rfl (lv_at hl 1 rfl) ?_
  refine lv_iconst (v := 3) hx hb dX13_setByte_3 (by decide) ?_
  refine lv_iand hx hb dX13_setByte_4 ?_
  refine lv_imul hx hb dX13_setByte_5 ?_
  have q1 : 0 ≤ (pa &&& (3 : Int32)).toInt ∧ (pa &&& (3 : Int32)).toInt < 4 := and_f (n := 4) (pk_andIn pa 2 (by decide) (by decide))
  have z2 : ((8 : Int32) * (pa &&& (3 : Int32))).toInt = (8 : Int) * ((pa &&& (3 : Int32)).toInt) := mul_z (show (8 : Int32).toInt = (8 : Int) by decide) rfl (om_caeebbc66c q1) (om_25e35bdc3e q1)
  refine lv_istore_n (lv' := [(3, .int ((8 : Int32) * (pa &&& (3 : Int32)))), (0, .ref (ad 0)), (1, .int pa), (2, .int pb)]) hx hb dX13_setByte_6 rfl hl (by decide) rfl (fun ls hl => ?_)
  refine lv_aload_n hx hb dX13_setByte_7 rfl (lv_at hl 1 rfl) ?_
  refine va_get (D := (dC, dI)) (ci := 16) (fs := mF ad v) (v := .ref (ad 96)) (C := RX13) (T := TX13) (N := 124) hx hb ht itX13 hown hK hP 0 rfl rfl 96 (by decide) (ht _ tw_207) (fun _ h9 => h9) rfl dX13_setByte_8 ?_
  refine lv_iload_n hx hb dX13_setByte_11 rfl (lv_at hl 2 rfl) ?_
  refine lv_iconst (v := 2) hx hb dX13_setByte_12 (by decide) ?_
  refine lv_ishr hx hb dX13_setByte_13 ?_
  have z3 : 4 * (pa >>> ((2 : Int32) &&& 31)).toInt ≤ pa.toInt ∧ pa.toInt ≤ 4 * (pa >>> ((2 : Int32) &&& 31)).toInt + 3 := shr2_f (om_7dc86ce783 za)
  refine lv_aload_n hx hb dX13_setByte_14 rfl (lv_at hl 1 rfl) ?_
  refine va_get (D := (dC, dI)) (ci := 16) (fs := mF ad v) (v := .ref (ad 96)) (C := RX13) (T := TX13) (N := 124) hx hb ht itX13 hown hK hP 0 rfl rfl 96 (by decide) (ht _ tw_207) (fun _ h9 => h9) rfl dX13_setByte_15 ?_
  refine lv_iload_n hx hb dX13_setByte_18 rfl (lv_at hl 2 rfl) ?_
  refine lv_iconst (v := 2) hx hb dX13_setByte_19 (by decide) ?_
  refine lv_ishr hx hb dX13_setByte_20 ?_
  have z4 : 4 * (pa >>> ((2 : Int32) &&& 31)).toInt ≤ pa.toInt ∧ pa.toInt ≤ 4 * (pa >>> ((2 : Int32) &&& 31)).toInt + 3 := shr2_f (om_7dc86ce783 za)
  refine va_iald (D := (dC, dI)) (f := (v.1 96)) hx hb hK hP 52 0 rfl rfl (in_y (a := (pa >>> ((2 : Int32) &&& 31)).toInt) (b := (N : Int)) rfl (om_04a8277abe za z3) (om_31a9b75597 za z3) rfl) dX13_setByte_21 ?_
  refine lv_sipush (v := 255) hx hb dX13_setByte_22 (by decide) ?_
  refine lv_iload_n hx hb dX13_setByte_25 rfl (lv_at hl 0 rfl) ?_
  refine lv_ishl hx hb dX13_setByte_26 ?_
  refine lv_iconst (v := -1) hx hb dX13_setByte_27 (by decide) ?_
  refine lv_ixor hx hb dX13_setByte_28 ?_
  refine lv_iand hx hb dX13_setByte_29 ?_
  refine lv_iload_n hx hb dX13_setByte_30 rfl (lv_at hl 3 rfl) ?_
  refine lv_sipush (v := 255) hx hb dX13_setByte_31 (by decide) ?_
  refine lv_iand hx hb dX13_setByte_34 ?_
  refine lv_iload_n hx hb dX13_setByte_35 rfl (lv_at hl 0 rfl) ?_
  refine lv_ishl hx hb dX13_setByte_36 ?_
  refine lv_ior hx hb dX13_setByte_37 ?_
  refine va_iast (D := (dC, dI)) (f := (v.1 96)) hx hb hK hP hD hS 52 0 rfl rfl (in_y (a := (pa >>> ((2 : Int32) &&& 31)).toInt) (b := (N : Int)) rfl (om_04a8277abe za z3) (om_31a9b75597 za z3) rfl) dX13_setByte_38 (fun H locs hP hD hS => ?_)
  have hP := cP_ (ma_96 ad N cI cZ cJ v ((pa >>> ((2 : Int32) &&& 31)).toNatClampNeg) ((((v.1 96) (pa >>> ((2 : Int32) &&& 31)).toNatClampNeg) &&& (((255 : Int32) <<< (((8 : Int32) * (pa &&& (3 : Int32))) &&& 31)) ^^^ ((-1) : Int32))) ||| ((pb &&& (255 : Int32)) <<< (((8 : Int32) * (pa &&& (3 : Int32))) &&& 31)))) hP
  have hD := cD_ (ma_96 ad N cI cZ cJ v ((pa >>> ((2 : Int32) &&& 31)).toNatClampNeg) ((((v.1 96) (pa >>> ((2 : Int32) &&& 31)).toNatClampNeg) &&& (((255 : Int32) <<< (((8 : Int32) * (pa &&& (3 : Int32))) &&& 31)) ^^^ ((-1) : Int32))) ||| ((pb &&& (255 : Int32)) <<< (((8 : Int32) * (pa &&& (3 : Int32))) &&& 31)))) hD
  exact W.vret hx hb hr (fun t ht9 hW => ⟨⟨(wA v 96 ((pa >>> ((2 : Int32) &&& 31)).toNatClampNeg) ((((v.1 96) (pa >>> ((2 : Int32) &&& 31)).toNatClampNeg) &&& (((255 : Int32) <<< (((8 : Int32) * (pa &&& (3 : Int32))) &&& 31)) ^^^ ((-1) : Int32))) ||| ((pb &&& (255 : Int32)) <<< (((8 : Int32) * (pa &&& (3 : Int32))) &&& 31)))), rfl, (FG.a (FG.rf _) ((pa >>> ((2 : Int32) &&& 31)).toNatClampNeg) ((((v.1 96) (pa >>> ((2 : Int32) &&& 31)).toNatClampNeg) &&& (((255 : Int32) <<< (((8 : Int32) * (pa &&& (3 : Int32))) &&& 31)) ^^^ ((-1) : Int32))) ||| ((pb &&& (255 : Int32)) <<< (((8 : Int32) * (pa &&& (3 : Int32))) &&& 31))) (by decide) (by decide)), by rw [ht9]; exact hP, hD⟩, hS.F ht9⟩) hS.2.2 dX13_setByte_39
theorem om_b3bcb1a033 {x0 : Int} (h0 : (0 : Int) < x0) : 0 ≤ x0 := by omega
theorem om_cbdb5e7289 {x0 : Int} (h0 : 0 ≤ x0 ∧ x0 < 32) : x0 < 32 := by omega
set_option maxHeartbeats 4000000 in
set_option maxRecDepth 100000 in
theorem c_m_goes (l : Launch) (dC : Nat → ClassId) (dI : Nat → Nat → Nat) (cI cB cZ cJ cR : ClassId) (tb : Nat → Nat) (sz : Nat) (ad : Nat → Nat) (N : Nat) (v : MS) (pa : Int32) (pb : Int32) (zr : 0 ≤ pa.toInt ∧ pa.toInt < 32) : Met l yX13_goes (Cond.code yX13_goes cX13_goes 3 none :: tw_W) ({ frames := 0, cells := 0, slots := 0, locals := 0 }) (pc_ (dC, dI) (tyS cI cB cZ cJ cR) tb (mW ad N cI cZ cJ v) sz [.ref (ad 0), .int pa, .int pb]) (qv_ (dC, dI) (mW ad N cI cZ cJ v) sz (fun (u : MS) => FG [98] [0, 97] v u) (fun (u : MS) => (mW ad N cI cZ cJ u))) 0 0 (va_A (mW ad N cI cZ cJ v) sz) := by
  refine Met.ofW (cc := cX13_goes) (maxL := 3) (ret := none) (by decide) rfl ?_
  intro p e s m args below meth c s₁ B hml hv
  obtain ⟨rfl, hsz, hP, hKK, hD0, hFx⟩ := hv
  have hK := hKK.1
  have hx := B.exec
  have hb := B.bytes
  have hr := B.returns
  have ht : ∀ w ∈ tw_W, w.before _ s = true := fun w h => atoms_spec (ws := Cond.code yX13_goes cX13_goes 3 none :: tw_W) B.pre w (List.mem_cons_of_mem _ h)
  have hown : s.vm.findClass RX13 = some m.cls := findClass_of_methodNamed B.named
  have hlocks := B.notSynchronized
  subst hsz
  unfold qv_
  have hD := hD0.self (sz := s.heap.size)
  generalize hAe : va_A (mW ad N cI cZ cJ v) s.heap.size = A at hD hFx ⊢
  have hA : ∀ q : Nat, s.heap.size ≤ q → A q := fun q h => by rw [← hAe]; exact Or.inr h
  have hS : va_S A s.heap s.heap [] := va_S.rf
  have hl := lv_entry ([.ref (ad 0), .int pa, .int pb]) (n := 3) (Nat.le_of_ble_eq_true rfl)
  rw [lg_entry_eq]
  generalize (lg_sl ([.ref (ad 0), .int pa, .int pb]) ++ List.replicate (3 - (lg_sl ([.ref (ad 0), .int pa, .int pb])).length) Slot.unset).toArray = ls at hl ⊢
  have hl : lv_has ls 3 [(0, .ref (ad 0)), (1, .int pa), (2, .int pb)] := hl
  refine lv_iload_n hx hb dX13_goes_0 rfl (lv_at hl 1 rfl) ?_
  refine lv_if_le (tgt := 11) hx hb dX13_goes_1 (by decide) (fun h1 => ?_) (fun h1 => ?_)
  · have z2 : pa.toInt ≤ (0 : Int) := le_z rfl (show (0 : Int32).toInt = (0 : Int) by decide) h1
    refine lv_aload_n hx hb dX13_goes_11 rfl (lv_at hl 0 rfl) ?_
    refine lv_dup hx hb dX13_goes_12 rfl ?_
    refine va_get (D := (dC, dI)) (ci := 16) (fs := mF ad v) (v := .int (v.1 0 98)) (C := RX13) (T := TX13) (N := 124) hx hb ht itX13 hown hK hP 0 rfl rfl 98 (by decide) (ht _ tw_208) (fun _ h9 => h9) rfl dX13_goes_13 ?_
    refine lv_iconst (v := 4) hx hb dX13_goes_16 (by decide) ?_
    refine lv_iadd hx hb dX13_goes_17 ?_
    refine va_put (D := (dC, dI)) (ci := 16) (fs := mF ad v) (v := .int ((v.1 0 98) + (4 : Int32))) (ty := .int) (C := RX13) (T := TX13) (N := 124) hx hb ht itX13 tyX13 tyX13_ok nmX13 hown hK hP hD hS 0 rfl rfl 98 (by decide) (ht _ tw_208) (fun _ h9 => h9) rfl (by decide +kernel) rfl rfl (Nat.le_of_ble_eq_true rfl) dX13_goes_18 (fun H locs hP hD hS => ?_)
    have hP := cP_ (mw_98 ad N cI cZ cJ v ((v.1 0 98) + (4 : Int32))) hP
    have hD := cD_ (mw_98 ad N cI cZ cJ v ((v.1 0 98) + (4 : Int32))) hD
    exact W.vret hx hb hr (fun t ht9 hW => ⟨⟨(wA v 0 98 ((v.1 0 98) + (4 : Int32))), rfl, (FG.f (FG.rf _) ((v.1 0 98) + (4 : Int32)) (by decide)), by rw [ht9]; exact hP, hD⟩, hS.F ht9⟩) hS.2.2 dX13_goes_21
  · have z3 : (0 : Int) < pa.toInt := nle_z rfl (show (0 : Int32).toInt = (0 : Int) by decide) h1
    refine lv_aload_n hx hb dX13_goes_4 rfl (lv_at hl 0 rfl) ?_
    refine va_get (D := (dC, dI)) (ci := 16) (fs := mF ad v) (v := .ref (ad 97)) (C := RX13) (T := TX13) (N := 124) hx hb ht itX13 hown hK hP 0 rfl rfl 97 (by decide) (ht _ tw_209) (fun _ h9 => h9) rfl dX13_goes_5 ?_
    refine lv_iload_n hx hb dX13_goes_8 rfl (lv_at hl 1 rfl) ?_
    refine lv_iload_n hx hb dX13_goes_9 rfl (lv_at hl 2 rfl) ?_
    refine va_iast (D := (dC, dI)) (f := (v.1 97)) hx hb hK hP hD hS 53 0 rfl rfl (in_y (a := pa.toInt) (b := 32) rfl (om_b3bcb1a033 z3) (om_cbdb5e7289 zr) rfl) dX13_goes_10 (fun H locs hP hD hS => ?_)
    have hP := cP_ (ma_97 ad N cI cZ cJ v pa.toNatClampNeg pb) hP
    have hD := cD_ (ma_97 ad N cI cZ cJ v pa.toNatClampNeg pb) hD
    refine lv_aload_n hx hb dX13_goes_11 rfl (lv_at hl 0 rfl) ?_
    refine lv_dup hx hb dX13_goes_12 rfl ?_
    refine va_get (D := (dC, dI)) (ci := 16) (fs := mF ad (wA v 97 pa.toNatClampNeg pb)) (v := .int (v.1 0 98)) (C := RX13) (T := TX13) (N := 124) hx hb ht itX13 hown hK hP 0 rfl rfl 98 (by decide) (ht _ tw_208) (fun _ h9 => h9) rfl dX13_goes_13 ?_
    refine lv_iconst (v := 4) hx hb dX13_goes_16 (by decide) ?_
    refine lv_iadd hx hb dX13_goes_17 ?_
    refine va_put (D := (dC, dI)) (ci := 16) (fs := mF ad (wA v 97 pa.toNatClampNeg pb)) (v := .int ((v.1 0 98) + (4 : Int32))) (ty := .int) (C := RX13) (T := TX13) (N := 124) hx hb ht itX13 tyX13 tyX13_ok nmX13 hown hK hP hD hS 0 rfl rfl 98 (by decide) (ht _ tw_208) (fun _ h9 => h9) rfl (by decide +kernel) rfl rfl (Nat.le_of_ble_eq_true rfl) dX13_goes_18 (fun H locs hP hD hS => ?_)
    have hP := cP_ (mw_98 ad N cI cZ cJ (wA v 97 pa.toNatClampNeg pb) ((v.1 0 98) + (4 : Int32))) hP
    have hD := cD_ (mw_98 ad N cI cZ cJ (wA v 97 pa.toNatClampNeg pb) ((v.1 0 98) + (4 : Int32))) hD
    exact W.vret hx hb hr (fun t ht9 hW => ⟨⟨(wA (wA v 97 pa.toNatClampNeg pb) 0 98 ((v.1 0 98) + (4 : Int32))), rfl, (FG.f (FG.a (FG.rf _) pa.toNatClampNeg pb (by decide) (by decide)) ((v.1 0 98) + (4 : Int32)) (by decide)), by rw [ht9]; exact hP, hD⟩, hS.F ht9⟩) hS.2.2 dX13_goes_21
set_option maxHeartbeats 4000000 in
set_option maxRecDepth 100000 in
theorem c_m_jumps (l : Launch) (dC : Nat → ClassId) (dI : Nat → Nat → Nat) (cI cB cZ cJ cR : ClassId) (tb : Nat → Nat) (sz : Nat) (ad : Nat → Nat) (N : Nat) (v : MS) (pa : Int32) (pb : Int32) (zr : 0 ≤ pa.toInt ∧ pa.toInt < 32) : Met l yX13_jumps (Cond.code yX13_jumps cX13_jumps 3 none :: tw_W) ({ frames := 0, cells := 0, slots := 0, locals := 0 }) (pc_ (dC, dI) (tyS cI cB cZ cJ cR) tb (mW ad N cI cZ cJ v) sz [.ref (ad 0), .int pa, .int pb]) (qv_ (dC, dI) (mW ad N cI cZ cJ v) sz (fun (u : MS) => FG [98, 99] [0, 97] v u) (fun (u : MS) => (mW ad N cI cZ cJ u))) 0 0 (va_A (mW ad N cI cZ cJ v) sz) := by
  refine Met.ofW (cc := cX13_jumps) (maxL := 3) (ret := none) (by decide) rfl ?_
  intro p e s m args below meth c s₁ B hml hv
  obtain ⟨rfl, hsz, hP, hKK, hD0, hFx⟩ := hv
  have hK := hKK.1
  have hx := B.exec
  have hb := B.bytes
  have hr := B.returns
  have ht : ∀ w ∈ tw_W, w.before _ s = true := fun w h => atoms_spec (ws := Cond.code yX13_jumps cX13_jumps 3 none :: tw_W) B.pre w (List.mem_cons_of_mem _ h)
  have hown : s.vm.findClass RX13 = some m.cls := findClass_of_methodNamed B.named
  have hlocks := B.notSynchronized
  subst hsz
  unfold qv_
  have hD := hD0.self (sz := s.heap.size)
  generalize hAe : va_A (mW ad N cI cZ cJ v) s.heap.size = A at hD hFx ⊢
  have hA : ∀ q : Nat, s.heap.size ≤ q → A q := fun q h => by rw [← hAe]; exact Or.inr h
  have hS : va_S A s.heap s.heap [] := va_S.rf
  have hl := lv_entry ([.ref (ad 0), .int pa, .int pb]) (n := 3) (Nat.le_of_ble_eq_true rfl)
  rw [lg_entry_eq]
  generalize (lg_sl ([.ref (ad 0), .int pa, .int pb]) ++ List.replicate (3 - (lg_sl ([.ref (ad 0), .int pa, .int pb])).length) Slot.unset).toArray = ls at hl ⊢
  have hl : lv_has ls 3 [(0, .ref (ad 0)), (1, .int pa), (2, .int pb)] := hl
  refine lv_iload_n hx hb dX13_jumps_0 rfl (lv_at hl 2 rfl) ?_
  refine lv_iconst (v := 3) hx hb dX13_jumps_1 (by decide) ?_
  refine lv_iand hx hb dX13_jumps_2 ?_
  refine lv_if_eq (tgt := 12) hx hb dX13_jumps_3 (by decide) (fun h1 => ?_) (fun h1 => ?_)
  · have z2 : (pb &&& (3 : Int32)).toInt = (0 : Int) := eq_z rfl (show (0 : Int32).toInt = (0 : Int) by decide) h1
    refine lv_iload_n hx hb dX13_jumps_12 rfl (lv_at hl 1 rfl) ?_
    refine lv_if_le (tgt := 28) hx hb dX13_jumps_13 (by decide) (fun h3 => ?_) (fun h3 => ?_)
    · have z4 : pa.toInt ≤ (0 : Int) := le_z rfl (show (0 : Int32).toInt = (0 : Int) by decide) h3
      refine lv_aload_n hx hb dX13_jumps_28 rfl (lv_at hl 0 rfl) ?_
      refine lv_iload_n hx hb dX13_jumps_29 rfl (lv_at hl 2 rfl) ?_
      refine va_put (D := (dC, dI)) (ci := 16) (fs := mF ad v) (v := .int pb) (ty := .int) (C := RX13) (T := TX13) (N := 124) hx hb ht itX13 tyX13 tyX13_ok nmX13 hown hK hP hD hS 0 rfl rfl 98 (by decide) (ht _ tw_208) (fun _ h9 => h9) rfl (by decide +kernel) rfl rfl (Nat.le_of_ble_eq_true rfl) dX13_jumps_30 (fun H locs hP hD hS => ?_)
      have hP := cP_ (mw_98 ad N cI cZ cJ v pb) hP
      have hD := cD_ (mw_98 ad N cI cZ cJ v pb) hD
      exact W.vret hx hb hr (fun t ht9 hW => ⟨⟨(wA v 0 98 pb), rfl, (FG.f (FG.rf _) pb (by decide)), by rw [ht9]; exact hP, hD⟩, hS.F ht9⟩) hS.2.2 dX13_jumps_33
    · have z5 : (0 : Int) < pa.toInt := nle_z rfl (show (0 : Int32).toInt = (0 : Int) by decide) h3
      refine lv_aload_n hx hb dX13_jumps_16 rfl (lv_at hl 0 rfl) ?_
      refine va_get (D := (dC, dI)) (ci := 16) (fs := mF ad v) (v := .ref (ad 97)) (C := RX13) (T := TX13) (N := 124) hx hb ht itX13 hown hK hP 0 rfl rfl 97 (by decide) (ht _ tw_209) (fun _ h9 => h9) rfl dX13_jumps_17 ?_
      refine lv_iload_n hx hb dX13_jumps_20 rfl (lv_at hl 1 rfl) ?_
      refine lv_aload_n hx hb dX13_jumps_21 rfl (lv_at hl 0 rfl) ?_
      refine va_get (D := (dC, dI)) (ci := 16) (fs := mF ad v) (v := .int (v.1 0 98)) (C := RX13) (T := TX13) (N := 124) hx hb ht itX13 hown hK hP 0 rfl rfl 98 (by decide) (ht _ tw_208) (fun _ h9 => h9) rfl dX13_jumps_22 ?_
      refine lv_iconst (v := 4) hx hb dX13_jumps_25 (by decide) ?_
      refine lv_iadd hx hb dX13_jumps_26 ?_
      refine va_iast (D := (dC, dI)) (f := (v.1 97)) hx hb hK hP hD hS 53 0 rfl rfl (in_y (a := pa.toInt) (b := 32) rfl (om_b3bcb1a033 z5) (om_cbdb5e7289 zr) rfl) dX13_jumps_27 (fun H locs hP hD hS => ?_)
      have hP := cP_ (ma_97 ad N cI cZ cJ v pa.toNatClampNeg ((v.1 0 98) + (4 : Int32))) hP
      have hD := cD_ (ma_97 ad N cI cZ cJ v pa.toNatClampNeg ((v.1 0 98) + (4 : Int32))) hD
      refine lv_aload_n hx hb dX13_jumps_28 rfl (lv_at hl 0 rfl) ?_
      refine lv_iload_n hx hb dX13_jumps_29 rfl (lv_at hl 2 rfl) ?_
      refine va_put (D := (dC, dI)) (ci := 16) (fs := mF ad (wA v 97 pa.toNatClampNeg ((v.1 0 98) + (4 : Int32)))) (v := .int pb) (ty := .int) (C := RX13) (T := TX13) (N := 124) hx hb ht itX13 tyX13 tyX13_ok nmX13 hown hK hP hD hS 0 rfl rfl 98 (by decide) (ht _ tw_208) (fun _ h9 => h9) rfl (by decide +kernel) rfl rfl (Nat.le_of_ble_eq_true rfl) dX13_jumps_30 (fun H locs hP hD hS => ?_)
      have hP := cP_ (mw_98 ad N cI cZ cJ (wA v 97 pa.toNatClampNeg ((v.1 0 98) + (4 : Int32))) pb) hP
      have hD := cD_ (mw_98 ad N cI cZ cJ (wA v 97 pa.toNatClampNeg ((v.1 0 98) + (4 : Int32))) pb) hD
      exact W.vret hx hb hr (fun t ht9 hW => ⟨⟨(wA (wA v 97 pa.toNatClampNeg ((v.1 0 98) + (4 : Int32))) 0 98 pb), rfl, (FG.f (FG.a (FG.rf _) pa.toNatClampNeg ((v.1 0 98) + (4 : Int32)) (by decide) (by decide)) pb (by decide)), by rw [ht9]; exact hP, hD⟩, hS.F ht9⟩) hS.2.2 dX13_jumps_33
  · have z6 : (pb &&& (3 : Int32)).toInt ≠ (0 : Int) := ne_z rfl (show (0 : Int32).toInt = (0 : Int) by decide) h1
    refine lv_aload_n hx hb dX13_jumps_6 rfl (lv_at hl 0 rfl) ?_
    refine lv_iconst (v := 3) hx hb dX13_jumps_7 (by decide) ?_
    refine va_put (D := (dC, dI)) (ci := 16) (fs := mF ad v) (v := .int 3) (ty := .int) (C := RX13) (T := TX13) (N := 124) hx hb ht itX13 tyX13 tyX13_ok nmX13 hown hK hP hD hS 0 rfl rfl 99 (by decide) (ht _ tw_210) (fun _ h9 => h9) rfl (by decide +kernel) rfl rfl (Nat.le_of_ble_eq_true rfl) dX13_jumps_8 (fun H locs hP hD hS => ?_)
    have hP := cP_ (mw_99 ad N cI cZ cJ v 3) hP
    have hD := cD_ (mw_99 ad N cI cZ cJ v 3) hD
    exact W.vret hx hb hr (fun t ht9 hW => ⟨⟨(wA v 0 99 3), rfl, (FG.f (FG.rf _) 3 (by decide)), by rw [ht9]; exact hP, hD⟩, hS.F ht9⟩) hS.2.2 dX13_jumps_11
theorem om_4eca77726f {x0 x1 : Int} (h0 : x0 < x1) (h1 : x0 = x1) : False := by omega
set_option maxHeartbeats 4000000 in
set_option maxRecDepth 100000 in
theorem c_m_branches (l : Launch) (dC : Nat → ClassId) (dI : Nat → Nat → Nat) (cI cB cZ cJ cR : ClassId) (tb : Nat → Nat) (sz : Nat) (ad : Nat → Nat) (N : Nat) (v : MS) (pa : Int32) (pb : Int32) (pc1 : Int32) (pd : Int32)  : Met l yX13_branches (Cond.code yX13_branches cX13_branches 9 none :: tw_W) ({ frames := 1, cells := 0, slots := 0, locals := 20 }) (pc_ (dC, dI) (tyS cI cB cZ cJ cR) tb (mW ad N cI cZ cJ v) sz [.ref (ad 0), .int pa, .int pb, .int pc1, .int pd]) (qv_ (dC, dI) (mW ad N cI cZ cJ v) sz (fun (u : MS) => FG [98, 99] [0] v u) (fun (u : MS) => (mW ad N cI cZ cJ u))) 0 0 (va_A (mW ad N cI cZ cJ v) sz) := by
  refine Met.ofW (cc := cX13_branches) (maxL := 9) (ret := none) (by decide) rfl ?_
  intro p e s m args below meth c s₁ B hml hv
  obtain ⟨rfl, hsz, hP, hKK, hD0, hFx⟩ := hv
  have hK := hKK.1
  have hx := B.exec
  have hb := B.bytes
  have hr := B.returns
  have ht : ∀ w ∈ tw_W, w.before _ s = true := fun w h => atoms_spec (ws := Cond.code yX13_branches cX13_branches 9 none :: tw_W) B.pre w (List.mem_cons_of_mem _ h)
  have hown : s.vm.findClass RX13 = some m.cls := findClass_of_methodNamed B.named
  have hlocks := B.notSynchronized
  subst hsz
  unfold qv_
  have hD := hD0.self (sz := s.heap.size)
  generalize hAe : va_A (mW ad N cI cZ cJ v) s.heap.size = A at hD hFx ⊢
  have hA : ∀ q : Nat, s.heap.size ≤ q → A q := fun q h => by rw [← hAe]; exact Or.inr h
  have hS : va_S A s.heap s.heap [] := va_S.rf
  have hl := lv_entry ([.ref (ad 0), .int pa, .int pb, .int pc1, .int pd]) (n := 9) (Nat.le_of_ble_eq_true rfl)
  rw [lg_entry_eq]
  generalize (lg_sl ([.ref (ad 0), .int pa, .int pb, .int pc1, .int pd]) ++ List.replicate (9 - (lg_sl ([.ref (ad 0), .int pa, .int pb, .int pc1, .int pd])).length) Slot.unset).toArray = ls at hl ⊢
  have hl : lv_has ls 9 [(0, .ref (ad 0)), (1, .int pa), (2, .int pb), (3, .int pc1), (4, .int pd)] := hl
  refine lv_iload_n hx hb dX13_branches_0 rfl (lv_at hl 3 rfl) ?_
  refine lv_iload hx hb dX13_branches_1 (lv_at hl 4 rfl) ?_
  refine lv_icmp_ge (tgt := 10) hx hb dX13_branches_3 (by decide) (fun h1 => ?_) (fun h1 => ?_)
  · have z2 : pd.toInt ≤ pc1.toInt := le_z rfl rfl h1
    refine lv_iconst (v := 0) hx hb dX13_branches_10 (by decide) ?_
    refine lv_istore (lv' := [(5, .int 0), (0, .ref (ad 0)), (1, .int pa), (2, .int pb), (3, .int pc1), (4, .int pd)]) hx hb dX13_branches_11 hl (by decide) rfl (fun ls hl => ?_)
    refine lv_iload_n hx hb dX13_branches_13 rfl (lv_at hl 4 rfl) ?_
    refine lv_ldcw (v := -2147483648) hx hb hown (ht _ tw_211) dX13_branches_14 ?_
    refine lv_iadd hx hb dX13_branches_17 ?_
    refine lv_iload hx hb dX13_branches_18 (lv_at hl 5 rfl) ?_
    refine lv_ldcw (v := -2147483648) hx hb hown (ht _ tw_211) dX13_branches_20 ?_
    refine lv_iadd hx hb dX13_branches_23 ?_
    refine lv_icmp_ge (tgt := 31) hx hb dX13_branches_24 (by decide) (fun h3 => ?_) (fun h3 => ?_)
    · have z4 : (pd + ((-2147483648) : Int32)).toInt ≤ (pc1 + ((-2147483648) : Int32)).toInt := le_z rfl rfl h3
      refine lv_iconst (v := 0) hx hb dX13_branches_31 (by decide) ?_
      refine lv_istore (lv' := [(6, .int 0), (5, .int 0), (0, .ref (ad 0)), (1, .int pa), (2, .int pb), (3, .int pc1), (4, .int pd)]) hx hb dX13_branches_32 hl (by decide) rfl (fun ls hl => ?_)
      refine lv_iload_n hx hb dX13_branches_34 rfl (lv_at hl 4 rfl) ?_
      by_cases h5 : pb = 0
      · refine lv_tableIn (off := 45) (tgt := 80) hx hb dX13_branches_35 (by rw [h5]; decide) (by rw [h5]; decide) (by rw [h5]; decide) (by decide) ?_
        refine lv_iload_n hx hb dX13_branches_80 rfl (lv_at hl 5 rfl) ?_
        refine lv_iload hx hb dX13_branches_81 (lv_at hl 6 rfl) ?_
        refine lv_icmp_ne (tgt := 90) hx hb dX13_branches_83 (by decide) (fun h6 => ?_) (fun h6 => ?_)
        · have z7 : pc1.toInt ≠ pd.toInt := ne_z rfl rfl h6
          refine lv_iconst (v := 0) hx hb dX13_branches_90 (by decide) ?_
          refine lv_istore (lv' := [(7, .int 0), (6, .int 0), (5, .int 0), (0, .ref (ad 0)), (1, .int pa), (2, .int pb), (3, .int pc1), (4, .int pd)]) hx hb dX13_branches_91 hl (by decide) rfl (fun ls hl => ?_)
          refine lv_goto (tgt := 162) hx hb dX13_branches_93 (by decide) ?_
          refine lv_iload hx hb dX13_branches_162 (lv_at hl 0 rfl) ?_
          refine lv_if_eq (tgt := 179) hx hb dX13_branches_164 (by decide) (fun _ => ?_) (fun k8 => absurd k8 (by decide))
          refine lv_aload_n hx hb dX13_branches_179 rfl (lv_at hl 3 rfl) ?_
          refine va_get (D := (dC, dI)) (ci := 16) (fs := mF ad v) (v := .int (v.1 0 98)) (C := RX13) (T := TX13) (N := 124) hx hb ht itX13 hown hK hP 0 rfl rfl 98 (by decide) (ht _ tw_208) (fun _ h9 => h9) rfl dX13_branches_180 ?_
          refine lv_iconst (v := 4) hx hb dX13_branches_183 (by decide) ?_
          refine lv_iadd hx hb dX13_branches_184 ?_
          refine lv_istore (lv' := [(8, .int ((v.1 0 98) + (4 : Int32))), (7, .int 0), (6, .int 0), (5, .int 0), (0, .ref (ad 0)), (1, .int pa), (2, .int pb), (3, .int pc1), (4, .int pd)]) hx hb dX13_branches_185 hl (by decide) rfl (fun ls hl => ?_)
          refine lv_iload hx hb dX13_branches_187 (lv_at hl 0 rfl) ?_
          refine lv_iconst (v := 3) hx hb dX13_branches_189 (by decide) ?_
          refine lv_iand hx hb dX13_branches_190 ?_
          refine lv_if_eq (tgt := 202) hx hb dX13_branches_191 (by decide) (fun h9 => ?_) (fun h9 => ?_)
          · have z10 : (((v.1 0 98) + (4 : Int32)) &&& (3 : Int32)).toInt = (0 : Int) := eq_z rfl (show (0 : Int32).toInt = (0 : Int) by decide) h9
            refine lv_aload_n hx hb dX13_branches_202 rfl (lv_at hl 4 rfl) ?_
            refine lv_iload hx hb dX13_branches_203 (lv_at hl 0 rfl) ?_
            refine va_put (D := (dC, dI)) (ci := 16) (fs := mF ad v) (v := .int ((v.1 0 98) + (4 : Int32))) (ty := .int) (C := RX13) (T := TX13) (N := 124) hx hb ht itX13 tyX13 tyX13_ok nmX13 hown hK hP hD hS 0 rfl rfl 98 (by decide) (ht _ tw_208) (fun _ h9 => h9) rfl (by decide +kernel) rfl rfl (Nat.le_of_ble_eq_true rfl) dX13_branches_205 (fun H locs hP hD hS => ?_)
            have hP := cP_ (mw_98 ad N cI cZ cJ v ((v.1 0 98) + (4 : Int32))) hP
            have hD := cD_ (mw_98 ad N cI cZ cJ v ((v.1 0 98) + (4 : Int32))) hD
            exact W.vret hx hb hr (fun t ht9 hW => ⟨⟨(wA v 0 98 ((v.1 0 98) + (4 : Int32))), rfl, (FG.f (FG.rf _) ((v.1 0 98) + (4 : Int32)) (by decide)), by rw [ht9]; exact hP, hD⟩, hS.F ht9⟩) hS.2.2 dX13_branches_208
          · have z11 : (((v.1 0 98) + (4 : Int32)) &&& (3 : Int32)).toInt ≠ (0 : Int) := ne_z rfl (show (0 : Int32).toInt = (0 : Int) by decide) h9
            refine lv_aload_n hx hb dX13_branches_194 rfl (lv_at hl 4 rfl) ?_
            refine lv_iconst (v := 3) hx hb dX13_branches_195 (by decide) ?_
            refine va_put (D := (dC, dI)) (ci := 16) (fs := mF ad v) (v := .int 3) (ty := .int) (C := RX13) (T := TX13) (N := 124) hx hb ht itX13 tyX13 tyX13_ok nmX13 hown hK hP hD hS 0 rfl rfl 99 (by decide) (ht _ tw_210) (fun _ h9 => h9) rfl (by decide +kernel) rfl rfl (Nat.le_of_ble_eq_true rfl) dX13_branches_196 (fun H locs hP hD hS => ?_)
            have hP := cP_ (mw_99 ad N cI cZ cJ v 3) hP
            have hD := cD_ (mw_99 ad N cI cZ cJ v 3) hD
            refine lv_goto (tgt := 208) hx hb dX13_branches_199 (by decide) ?_
            exact W.vret hx hb hr (fun t ht9 hW => ⟨⟨(wA v 0 99 3), rfl, (FG.f (FG.rf _) 3 (by decide)), by rw [ht9]; exact hP, hD⟩, hS.F ht9⟩) hS.2.2 dX13_branches_208
        · have z12 : pc1.toInt = pd.toInt := eq_z rfl rfl h6
          refine lv_iconst (v := 1) hx hb dX13_branches_86 (by decide) ?_
          refine lv_goto (tgt := 91) hx hb dX13_branches_87 (by decide) ?_
          refine lv_istore (lv' := [(7, .int 1), (6, .int 0), (5, .int 0), (0, .ref (ad 0)), (1, .int pa), (2, .int pb), (3, .int pc1), (4, .int pd)]) hx hb dX13_branches_91 hl (by decide) rfl (fun ls hl => ?_)
          refine lv_goto (tgt := 162) hx hb dX13_branches_93 (by decide) ?_
          refine lv_iload hx hb dX13_branches_162 (lv_at hl 0 rfl) ?_
          refine lv_if_eq (tgt := 179) hx hb dX13_branches_164 (by decide) (fun k13 => absurd k13 (by decide)) (fun _ => ?_)
          refine lv_aload_n hx hb dX13_branches_167 rfl (lv_at hl 3 rfl) ?_
          refine va_get (D := (dC, dI)) (ci := 16) (fs := mF ad v) (v := .int (v.1 0 98)) (C := RX13) (T := TX13) (N := 124) hx hb ht itX13 hown hK hP 0 rfl rfl 98 (by decide) (ht _ tw_208) (fun _ h9 => h9) rfl dX13_branches_168 ?_
          refine lv_iload_n hx hb dX13_branches_171 rfl (lv_at hl 4 rfl) ?_
          refine cu_s (mW_nd _ _ _ _ _ _) (rn_S (n := 1) (As := [.int pa]) (rest := [.int (v.1 0 98)]) hx hb hml hown ht hKK hFx hP hD hS hA (c_m_imB l dC dI cI cB cZ cJ cR tb s.heap.size pa ) tw_212 tw_213 (by decide +kernel) rfl rfl ⟨Nat.le_of_ble_eq_true rfl, Nat.le_of_ble_eq_true rfl⟩ [] rfl rfl rfl hl.1 rfl (Nat.le_of_ble_eq_true rfl) dX13_branches_172 ⟨Nat.le_of_ble_eq_true rfl, Nat.le_of_ble_eq_true rfl⟩) hP hD hS hA (fun r16 H locs hw14 hP hD hS => ?_)
          refine W.widen (k := 0) (n := 0) (Nat.le_refl _) (Nat.le_refl _) ?_
          refine lv_iadd hx hb dX13_branches_175 ?_
          refine lv_goto (tgt := 185) hx hb dX13_branches_176 (by decide) ?_
          refine lv_istore (lv' := [(8, .int ((v.1 0 98) + r16)), (7, .int 1), (6, .int 0), (5, .int 0), (0, .ref (ad 0)), (1, .int pa), (2, .int pb), (3, .int pc1), (4, .int pd)]) hx hb dX13_branches_185 hl (by decide) rfl (fun ls hl => ?_)
          refine lv_iload hx hb dX13_branches_187 (lv_at hl 0 rfl) ?_
          refine lv_iconst (v := 3) hx hb dX13_branches_189 (by decide) ?_
          refine lv_iand hx hb dX13_branches_190 ?_
          refine lv_if_eq (tgt := 202) hx hb dX13_branches_191 (by decide) (fun h17 => ?_) (fun h17 => ?_)
          · have z18 : (((v.1 0 98) + r16) &&& (3 : Int32)).toInt = (0 : Int) := eq_z rfl (show (0 : Int32).toInt = (0 : Int) by decide) h17
            refine lv_aload_n hx hb dX13_branches_202 rfl (lv_at hl 4 rfl) ?_
            refine lv_iload hx hb dX13_branches_203 (lv_at hl 0 rfl) ?_
            refine va_put (D := (dC, dI)) (ci := 16) (fs := mF ad v) (v := .int ((v.1 0 98) + r16)) (ty := .int) (C := RX13) (T := TX13) (N := 124) hx hb ht itX13 tyX13 tyX13_ok nmX13 hown hK hP hD hS 0 rfl rfl 98 (by decide) (ht _ tw_208) (fun _ h9 => h9) rfl (by decide +kernel) rfl rfl (Nat.le_of_ble_eq_true rfl) dX13_branches_205 (fun H locs hP hD hS => ?_)
            have hP := cP_ (mw_98 ad N cI cZ cJ v ((v.1 0 98) + r16)) hP
            have hD := cD_ (mw_98 ad N cI cZ cJ v ((v.1 0 98) + r16)) hD
            exact W.vret hx hb hr (fun t ht9 hW => ⟨⟨(wA v 0 98 ((v.1 0 98) + r16)), rfl, (FG.f (FG.rf _) ((v.1 0 98) + r16) (by decide)), by rw [ht9]; exact hP, hD⟩, hS.F ht9⟩) hS.2.2 dX13_branches_208
          · have z19 : (((v.1 0 98) + r16) &&& (3 : Int32)).toInt ≠ (0 : Int) := ne_z rfl (show (0 : Int32).toInt = (0 : Int) by decide) h17
            refine lv_aload_n hx hb dX13_branches_194 rfl (lv_at hl 4 rfl) ?_
            refine lv_iconst (v := 3) hx hb dX13_branches_195 (by decide) ?_
            refine va_put (D := (dC, dI)) (ci := 16) (fs := mF ad v) (v := .int 3) (ty := .int) (C := RX13) (T := TX13) (N := 124) hx hb ht itX13 tyX13 tyX13_ok nmX13 hown hK hP hD hS 0 rfl rfl 99 (by decide) (ht _ tw_210) (fun _ h9 => h9) rfl (by decide +kernel) rfl rfl (Nat.le_of_ble_eq_true rfl) dX13_branches_196 (fun H locs hP hD hS => ?_)
            have hP := cP_ (mw_99 ad N cI cZ cJ v 3) hP
            have hD := cD_ (mw_99 ad N cI cZ cJ v 3) hD
            refine lv_goto (tgt := 208) hx hb dX13_branches_199 (by decide) ?_
            exact W.vret hx hb hr (fun t ht9 hW => ⟨⟨(wA v 0 99 3), rfl, (FG.f (FG.rf _) 3 (by decide)), by rw [ht9]; exact hP, hD⟩, hS.F ht9⟩) hS.2.2 dX13_branches_208
      ·
        by_cases h20 : pb = 1
        · refine lv_tableIn (off := 61) (tgt := 96) hx hb dX13_branches_35 (by rw [h20]; decide) (by rw [h20]; decide) (by rw [h20]; decide) (by decide) ?_
          refine lv_iload_n hx hb dX13_branches_96 rfl (lv_at hl 5 rfl) ?_
          refine lv_iload hx hb dX13_branches_97 (lv_at hl 6 rfl) ?_
          refine lv_icmp_eq (tgt := 106) hx hb dX13_branches_99 (by decide) (fun h21 => ?_) (fun h21 => ?_)
          · have z22 : pc1.toInt = pd.toInt := eq_z rfl rfl h21
            refine lv_iconst (v := 0) hx hb dX13_branches_106 (by decide) ?_
            refine lv_istore (lv' := [(7, .int 0), (6, .int 0), (5, .int 0), (0, .ref (ad 0)), (1, .int pa), (2, .int pb), (3, .int pc1), (4, .int pd)]) hx hb dX13_branches_107 hl (by decide) rfl (fun ls hl => ?_)
            refine lv_goto (tgt := 162) hx hb dX13_branches_109 (by decide) ?_
            refine lv_iload hx hb dX13_branches_162 (lv_at hl 0 rfl) ?_
            refine lv_if_eq (tgt := 179) hx hb dX13_branches_164 (by decide) (fun _ => ?_) (fun k23 => absurd k23 (by decide))
            refine lv_aload_n hx hb dX13_branches_179 rfl (lv_at hl 3 rfl) ?_
            refine va_get (D := (dC, dI)) (ci := 16) (fs := mF ad v) (v := .int (v.1 0 98)) (C := RX13) (T := TX13) (N := 124) hx hb ht itX13 hown hK hP 0 rfl rfl 98 (by decide) (ht _ tw_208) (fun _ h9 => h9) rfl dX13_branches_180 ?_
            refine lv_iconst (v := 4) hx hb dX13_branches_183 (by decide) ?_
            refine lv_iadd hx hb dX13_branches_184 ?_
            refine lv_istore (lv' := [(8, .int ((v.1 0 98) + (4 : Int32))), (7, .int 0), (6, .int 0), (5, .int 0), (0, .ref (ad 0)), (1, .int pa), (2, .int pb), (3, .int pc1), (4, .int pd)]) hx hb dX13_branches_185 hl (by decide) rfl (fun ls hl => ?_)
            refine lv_iload hx hb dX13_branches_187 (lv_at hl 0 rfl) ?_
            refine lv_iconst (v := 3) hx hb dX13_branches_189 (by decide) ?_
            refine lv_iand hx hb dX13_branches_190 ?_
            refine lv_if_eq (tgt := 202) hx hb dX13_branches_191 (by decide) (fun h24 => ?_) (fun h24 => ?_)
            · have z25 : (((v.1 0 98) + (4 : Int32)) &&& (3 : Int32)).toInt = (0 : Int) := eq_z rfl (show (0 : Int32).toInt = (0 : Int) by decide) h24
              refine lv_aload_n hx hb dX13_branches_202 rfl (lv_at hl 4 rfl) ?_
              refine lv_iload hx hb dX13_branches_203 (lv_at hl 0 rfl) ?_
              refine va_put (D := (dC, dI)) (ci := 16) (fs := mF ad v) (v := .int ((v.1 0 98) + (4 : Int32))) (ty := .int) (C := RX13) (T := TX13) (N := 124) hx hb ht itX13 tyX13 tyX13_ok nmX13 hown hK hP hD hS 0 rfl rfl 98 (by decide) (ht _ tw_208) (fun _ h9 => h9) rfl (by decide +kernel) rfl rfl (Nat.le_of_ble_eq_true rfl) dX13_branches_205 (fun H locs hP hD hS => ?_)
              have hP := cP_ (mw_98 ad N cI cZ cJ v ((v.1 0 98) + (4 : Int32))) hP
              have hD := cD_ (mw_98 ad N cI cZ cJ v ((v.1 0 98) + (4 : Int32))) hD
              exact W.vret hx hb hr (fun t ht9 hW => ⟨⟨(wA v 0 98 ((v.1 0 98) + (4 : Int32))), rfl, (FG.f (FG.rf _) ((v.1 0 98) + (4 : Int32)) (by decide)), by rw [ht9]; exact hP, hD⟩, hS.F ht9⟩) hS.2.2 dX13_branches_208
            · have z26 : (((v.1 0 98) + (4 : Int32)) &&& (3 : Int32)).toInt ≠ (0 : Int) := ne_z rfl (show (0 : Int32).toInt = (0 : Int) by decide) h24
              refine lv_aload_n hx hb dX13_branches_194 rfl (lv_at hl 4 rfl) ?_
              refine lv_iconst (v := 3) hx hb dX13_branches_195 (by decide) ?_
              refine va_put (D := (dC, dI)) (ci := 16) (fs := mF ad v) (v := .int 3) (ty := .int) (C := RX13) (T := TX13) (N := 124) hx hb ht itX13 tyX13 tyX13_ok nmX13 hown hK hP hD hS 0 rfl rfl 99 (by decide) (ht _ tw_210) (fun _ h9 => h9) rfl (by decide +kernel) rfl rfl (Nat.le_of_ble_eq_true rfl) dX13_branches_196 (fun H locs hP hD hS => ?_)
              have hP := cP_ (mw_99 ad N cI cZ cJ v 3) hP
              have hD := cD_ (mw_99 ad N cI cZ cJ v 3) hD
              refine lv_goto (tgt := 208) hx hb dX13_branches_199 (by decide) ?_
              exact W.vret hx hb hr (fun t ht9 hW => ⟨⟨(wA v 0 99 3), rfl, (FG.f (FG.rf _) 3 (by decide)), by rw [ht9]; exact hP, hD⟩, hS.F ht9⟩) hS.2.2 dX13_branches_208
          · have z27 : pc1.toInt ≠ pd.toInt := ne_z rfl rfl h21
            refine lv_iconst (v := 1) hx hb dX13_branches_102 (by decide) ?_
            refine lv_goto (tgt := 107) hx hb dX13_branches_103 (by decide) ?_
            refine lv_istore (lv' := [(7, .int 1), (6, .int 0), (5, .int 0), (0, .ref (ad 0)), (1, .int pa), (2, .int pb), (3, .int pc1), (4, .int pd)]) hx hb dX13_branches_107 hl (by decide) rfl (fun ls hl => ?_)
            refine lv_goto (tgt := 162) hx hb dX13_branches_109 (by decide) ?_
            refine lv_iload hx hb dX13_branches_162 (lv_at hl 0 rfl) ?_
            refine lv_if_eq (tgt := 179) hx hb dX13_branches_164 (by decide) (fun k28 => absurd k28 (by decide)) (fun _ => ?_)
            refine lv_aload_n hx hb dX13_branches_167 rfl (lv_at hl 3 rfl) ?_
            refine va_get (D := (dC, dI)) (ci := 16) (fs := mF ad v) (v := .int (v.1 0 98)) (C := RX13) (T := TX13) (N := 124) hx hb ht itX13 hown hK hP 0 rfl rfl 98 (by decide) (ht _ tw_208) (fun _ h9 => h9) rfl dX13_branches_168 ?_
            refine lv_iload_n hx hb dX13_branches_171 rfl (lv_at hl 4 rfl) ?_
            refine cu_s (mW_nd _ _ _ _ _ _) (rn_S (n := 1) (As := [.int pa]) (rest := [.int (v.1 0 98)]) hx hb hml hown ht hKK hFx hP hD hS hA (c_m_imB l dC dI cI cB cZ cJ cR tb s.heap.size pa ) tw_212 tw_213 (by decide +kernel) rfl rfl ⟨Nat.le_of_ble_eq_true rfl, Nat.le_of_ble_eq_true rfl⟩ [] rfl rfl rfl hl.1 rfl (Nat.le_of_ble_eq_true rfl) dX13_branches_172 ⟨Nat.le_of_ble_eq_true rfl, Nat.le_of_ble_eq_true rfl⟩) hP hD hS hA (fun r31 H locs hw29 hP hD hS => ?_)
            refine W.widen (k := 0) (n := 0) (Nat.le_refl _) (Nat.le_refl _) ?_
            refine lv_iadd hx hb dX13_branches_175 ?_
            refine lv_goto (tgt := 185) hx hb dX13_branches_176 (by decide) ?_
            refine lv_istore (lv' := [(8, .int ((v.1 0 98) + r31)), (7, .int 1), (6, .int 0), (5, .int 0), (0, .ref (ad 0)), (1, .int pa), (2, .int pb), (3, .int pc1), (4, .int pd)]) hx hb dX13_branches_185 hl (by decide) rfl (fun ls hl => ?_)
            refine lv_iload hx hb dX13_branches_187 (lv_at hl 0 rfl) ?_
            refine lv_iconst (v := 3) hx hb dX13_branches_189 (by decide) ?_
            refine lv_iand hx hb dX13_branches_190 ?_
            refine lv_if_eq (tgt := 202) hx hb dX13_branches_191 (by decide) (fun h32 => ?_) (fun h32 => ?_)
            · have z33 : (((v.1 0 98) + r31) &&& (3 : Int32)).toInt = (0 : Int) := eq_z rfl (show (0 : Int32).toInt = (0 : Int) by decide) h32
              refine lv_aload_n hx hb dX13_branches_202 rfl (lv_at hl 4 rfl) ?_
              refine lv_iload hx hb dX13_branches_203 (lv_at hl 0 rfl) ?_
              refine va_put (D := (dC, dI)) (ci := 16) (fs := mF ad v) (v := .int ((v.1 0 98) + r31)) (ty := .int) (C := RX13) (T := TX13) (N := 124) hx hb ht itX13 tyX13 tyX13_ok nmX13 hown hK hP hD hS 0 rfl rfl 98 (by decide) (ht _ tw_208) (fun _ h9 => h9) rfl (by decide +kernel) rfl rfl (Nat.le_of_ble_eq_true rfl) dX13_branches_205 (fun H locs hP hD hS => ?_)
              have hP := cP_ (mw_98 ad N cI cZ cJ v ((v.1 0 98) + r31)) hP
              have hD := cD_ (mw_98 ad N cI cZ cJ v ((v.1 0 98) + r31)) hD
              exact W.vret hx hb hr (fun t ht9 hW => ⟨⟨(wA v 0 98 ((v.1 0 98) + r31)), rfl, (FG.f (FG.rf _) ((v.1 0 98) + r31) (by decide)), by rw [ht9]; exact hP, hD⟩, hS.F ht9⟩) hS.2.2 dX13_branches_208
            · have z34 : (((v.1 0 98) + r31) &&& (3 : Int32)).toInt ≠ (0 : Int) := ne_z rfl (show (0 : Int32).toInt = (0 : Int) by decide) h32
              refine lv_aload_n hx hb dX13_branches_194 rfl (lv_at hl 4 rfl) ?_
              refine lv_iconst (v := 3) hx hb dX13_branches_195 (by decide) ?_
              refine va_put (D := (dC, dI)) (ci := 16) (fs := mF ad v) (v := .int 3) (ty := .int) (C := RX13) (T := TX13) (N := 124) hx hb ht itX13 tyX13 tyX13_ok nmX13 hown hK hP hD hS 0 rfl rfl 99 (by decide) (ht _ tw_210) (fun _ h9 => h9) rfl (by decide +kernel) rfl rfl (Nat.le_of_ble_eq_true rfl) dX13_branches_196 (fun H locs hP hD hS => ?_)
              have hP := cP_ (mw_99 ad N cI cZ cJ v 3) hP
              have hD := cD_ (mw_99 ad N cI cZ cJ v 3) hD
              refine lv_goto (tgt := 208) hx hb dX13_branches_199 (by decide) ?_
              exact W.vret hx hb hr (fun t ht9 hW => ⟨⟨(wA v 0 99 3), rfl, (FG.f (FG.rf _) 3 (by decide)), by rw [ht9]; exact hP, hD⟩, hS.F ht9⟩) hS.2.2 dX13_branches_208
        ·
          by_cases h35 : pb = 2
          · refine lv_tableIn (off := 121) (tgt := 156) hx hb dX13_branches_35 (by rw [h35]; decide) (by rw [h35]; decide) (by rw [h35]; decide) (by decide) ?_
            refine lv_aload_n hx hb dX13_branches_156 rfl (lv_at hl 2 rfl) ?_
            refine lv_iconst (v := 2) hx hb dX13_branches_157 (by decide) ?_
            refine va_put (D := (dC, dI)) (ci := 16) (fs := mF ad v) (v := .int 2) (ty := .int) (C := RX13) (T := TX13) (N := 124) hx hb ht itX13 tyX13 tyX13_ok nmX13 hown hK hP hD hS 0 rfl rfl 99 (by decide) (ht _ tw_210) (fun _ h9 => h9) rfl (by decide +kernel) rfl rfl (Nat.le_of_ble_eq_true rfl) dX13_branches_158 (fun H locs hP hD hS => ?_)
            have hP := cP_ (mw_99 ad N cI cZ cJ v 2) hP
            have hD := cD_ (mw_99 ad N cI cZ cJ v 2) hD
            exact W.vret hx hb hr (fun t ht9 hW => ⟨⟨(wA v 0 99 2), rfl, (FG.f (FG.rf _) 2 (by decide)), by rw [ht9]; exact hP, hD⟩, hS.F ht9⟩) hS.2.2 dX13_branches_161
          ·
            by_cases h36 : pb = 3
            · refine lv_tableIn (off := 121) (tgt := 156) hx hb dX13_branches_35 (by rw [h36]; decide) (by rw [h36]; decide) (by rw [h36]; decide) (by decide) ?_
              refine lv_aload_n hx hb dX13_branches_156 rfl (lv_at hl 2 rfl) ?_
              refine lv_iconst (v := 2) hx hb dX13_branches_157 (by decide) ?_
              refine va_put (D := (dC, dI)) (ci := 16) (fs := mF ad v) (v := .int 2) (ty := .int) (C := RX13) (T := TX13) (N := 124) hx hb ht itX13 tyX13 tyX13_ok nmX13 hown hK hP hD hS 0 rfl rfl 99 (by decide) (ht _ tw_210) (fun _ h9 => h9) rfl (by decide +kernel) rfl rfl (Nat.le_of_ble_eq_true rfl) dX13_branches_158 (fun H locs hP hD hS => ?_)
              have hP := cP_ (mw_99 ad N cI cZ cJ v 2) hP
              have hD := cD_ (mw_99 ad N cI cZ cJ v 2) hD
              exact W.vret hx hb hr (fun t ht9 hW => ⟨⟨(wA v 0 99 2), rfl, (FG.f (FG.rf _) 2 (by decide)), by rw [ht9]; exact hP, hD⟩, hS.F ht9⟩) hS.2.2 dX13_branches_161
            ·
              by_cases h37 : pb = 4
              · refine lv_tableIn (off := 77) (tgt := 112) hx hb dX13_branches_35 (by rw [h37]; decide) (by rw [h37]; decide) (by rw [h37]; decide) (by decide) ?_
                refine lv_iload hx hb dX13_branches_112 (lv_at hl 1 rfl) ?_
                refine lv_istore (lv' := [(7, .int 0), (6, .int 0), (5, .int 0), (0, .ref (ad 0)), (1, .int pa), (2, .int pb), (3, .int pc1), (4, .int pd)]) hx hb dX13_branches_114 hl (by decide) rfl (fun ls hl => ?_)
                refine lv_goto (tgt := 162) hx hb dX13_branches_116 (by decide) ?_
                refine lv_iload hx hb dX13_branches_162 (lv_at hl 0 rfl) ?_
                refine lv_if_eq (tgt := 179) hx hb dX13_branches_164 (by decide) (fun _ => ?_) (fun k38 => absurd k38 (by decide))
                refine lv_aload_n hx hb dX13_branches_179 rfl (lv_at hl 3 rfl) ?_
                refine va_get (D := (dC, dI)) (ci := 16) (fs := mF ad v) (v := .int (v.1 0 98)) (C := RX13) (T := TX13) (N := 124) hx hb ht itX13 hown hK hP 0 rfl rfl 98 (by decide) (ht _ tw_208) (fun _ h9 => h9) rfl dX13_branches_180 ?_
                refine lv_iconst (v := 4) hx hb dX13_branches_183 (by decide) ?_
                refine lv_iadd hx hb dX13_branches_184 ?_
                refine lv_istore (lv' := [(8, .int ((v.1 0 98) + (4 : Int32))), (7, .int 0), (6, .int 0), (5, .int 0), (0, .ref (ad 0)), (1, .int pa), (2, .int pb), (3, .int pc1), (4, .int pd)]) hx hb dX13_branches_185 hl (by decide) rfl (fun ls hl => ?_)
                refine lv_iload hx hb dX13_branches_187 (lv_at hl 0 rfl) ?_
                refine lv_iconst (v := 3) hx hb dX13_branches_189 (by decide) ?_
                refine lv_iand hx hb dX13_branches_190 ?_
                refine lv_if_eq (tgt := 202) hx hb dX13_branches_191 (by decide) (fun h39 => ?_) (fun h39 => ?_)
                · have z40 : (((v.1 0 98) + (4 : Int32)) &&& (3 : Int32)).toInt = (0 : Int) := eq_z rfl (show (0 : Int32).toInt = (0 : Int) by decide) h39
                  refine lv_aload_n hx hb dX13_branches_202 rfl (lv_at hl 4 rfl) ?_
                  refine lv_iload hx hb dX13_branches_203 (lv_at hl 0 rfl) ?_
                  refine va_put (D := (dC, dI)) (ci := 16) (fs := mF ad v) (v := .int ((v.1 0 98) + (4 : Int32))) (ty := .int) (C := RX13) (T := TX13) (N := 124) hx hb ht itX13 tyX13 tyX13_ok nmX13 hown hK hP hD hS 0 rfl rfl 98 (by decide) (ht _ tw_208) (fun _ h9 => h9) rfl (by decide +kernel) rfl rfl (Nat.le_of_ble_eq_true rfl) dX13_branches_205 (fun H locs hP hD hS => ?_)
                  have hP := cP_ (mw_98 ad N cI cZ cJ v ((v.1 0 98) + (4 : Int32))) hP
                  have hD := cD_ (mw_98 ad N cI cZ cJ v ((v.1 0 98) + (4 : Int32))) hD
                  exact W.vret hx hb hr (fun t ht9 hW => ⟨⟨(wA v 0 98 ((v.1 0 98) + (4 : Int32))), rfl, (FG.f (FG.rf _) ((v.1 0 98) + (4 : Int32)) (by decide)), by rw [ht9]; exact hP, hD⟩, hS.F ht9⟩) hS.2.2 dX13_branches_208
                · have z41 : (((v.1 0 98) + (4 : Int32)) &&& (3 : Int32)).toInt ≠ (0 : Int) := ne_z rfl (show (0 : Int32).toInt = (0 : Int) by decide) h39
                  refine lv_aload_n hx hb dX13_branches_194 rfl (lv_at hl 4 rfl) ?_
                  refine lv_iconst (v := 3) hx hb dX13_branches_195 (by decide) ?_
                  refine va_put (D := (dC, dI)) (ci := 16) (fs := mF ad v) (v := .int 3) (ty := .int) (C := RX13) (T := TX13) (N := 124) hx hb ht itX13 tyX13 tyX13_ok nmX13 hown hK hP hD hS 0 rfl rfl 99 (by decide) (ht _ tw_210) (fun _ h9 => h9) rfl (by decide +kernel) rfl rfl (Nat.le_of_ble_eq_true rfl) dX13_branches_196 (fun H locs hP hD hS => ?_)
                  have hP := cP_ (mw_99 ad N cI cZ cJ v 3) hP
                  have hD := cD_ (mw_99 ad N cI cZ cJ v 3) hD
                  refine lv_goto (tgt := 208) hx hb dX13_branches_199 (by decide) ?_
                  exact W.vret hx hb hr (fun t ht9 hW => ⟨⟨(wA v 0 99 3), rfl, (FG.f (FG.rf _) 3 (by decide)), by rw [ht9]; exact hP, hD⟩, hS.F ht9⟩) hS.2.2 dX13_branches_208
              ·
                by_cases h42 : pb = 5
                · refine lv_tableIn (off := 84) (tgt := 119) hx hb dX13_branches_35 (by rw [h42]; decide) (by rw [h42]; decide) (by rw [h42]; decide) (by decide) ?_
                  refine lv_iload hx hb dX13_branches_119 (lv_at hl 1 rfl) ?_
                  refine lv_if_ne (tgt := 128) hx hb dX13_branches_121 (by decide) (fun k43 => absurd k43 (by decide)) (fun _ => ?_)
                  refine lv_iconst (v := 1) hx hb dX13_branches_124 (by decide) ?_
                  refine lv_goto (tgt := 129) hx hb dX13_branches_125 (by decide) ?_
                  refine lv_istore (lv' := [(7, .int 1), (6, .int 0), (5, .int 0), (0, .ref (ad 0)), (1, .int pa), (2, .int pb), (3, .int pc1), (4, .int pd)]) hx hb dX13_branches_129 hl (by decide) rfl (fun ls hl => ?_)
                  refine lv_goto (tgt := 162) hx hb dX13_branches_131 (by decide) ?_
                  refine lv_iload hx hb dX13_branches_162 (lv_at hl 0 rfl) ?_
                  refine lv_if_eq (tgt := 179) hx hb dX13_branches_164 (by decide) (fun k44 => absurd k44 (by decide)) (fun _ => ?_)
                  refine lv_aload_n hx hb dX13_branches_167 rfl (lv_at hl 3 rfl) ?_
                  refine va_get (D := (dC, dI)) (ci := 16) (fs := mF ad v) (v := .int (v.1 0 98)) (C := RX13) (T := TX13) (N := 124) hx hb ht itX13 hown hK hP 0 rfl rfl 98 (by decide) (ht _ tw_208) (fun _ h9 => h9) rfl dX13_branches_168 ?_
                  refine lv_iload_n hx hb dX13_branches_171 rfl (lv_at hl 4 rfl) ?_
                  refine cu_s (mW_nd _ _ _ _ _ _) (rn_S (n := 1) (As := [.int pa]) (rest := [.int (v.1 0 98)]) hx hb hml hown ht hKK hFx hP hD hS hA (c_m_imB l dC dI cI cB cZ cJ cR tb s.heap.size pa ) tw_212 tw_213 (by decide +kernel) rfl rfl ⟨Nat.le_of_ble_eq_true rfl, Nat.le_of_ble_eq_true rfl⟩ [] rfl rfl rfl hl.1 rfl (Nat.le_of_ble_eq_true rfl) dX13_branches_172 ⟨Nat.le_of_ble_eq_true rfl, Nat.le_of_ble_eq_true rfl⟩) hP hD hS hA (fun r47 H locs hw45 hP hD hS => ?_)
                  refine W.widen (k := 0) (n := 0) (Nat.le_refl _) (Nat.le_refl _) ?_
                  refine lv_iadd hx hb dX13_branches_175 ?_
                  refine lv_goto (tgt := 185) hx hb dX13_branches_176 (by decide) ?_
                  refine lv_istore (lv' := [(8, .int ((v.1 0 98) + r47)), (7, .int 1), (6, .int 0), (5, .int 0), (0, .ref (ad 0)), (1, .int pa), (2, .int pb), (3, .int pc1), (4, .int pd)]) hx hb dX13_branches_185 hl (by decide) rfl (fun ls hl => ?_)
                  refine lv_iload hx hb dX13_branches_187 (lv_at hl 0 rfl) ?_
                  refine lv_iconst (v := 3) hx hb dX13_branches_189 (by decide) ?_
                  refine lv_iand hx hb dX13_branches_190 ?_
                  refine lv_if_eq (tgt := 202) hx hb dX13_branches_191 (by decide) (fun h48 => ?_) (fun h48 => ?_)
                  · have z49 : (((v.1 0 98) + r47) &&& (3 : Int32)).toInt = (0 : Int) := eq_z rfl (show (0 : Int32).toInt = (0 : Int) by decide) h48
                    refine lv_aload_n hx hb dX13_branches_202 rfl (lv_at hl 4 rfl) ?_
                    refine lv_iload hx hb dX13_branches_203 (lv_at hl 0 rfl) ?_
                    refine va_put (D := (dC, dI)) (ci := 16) (fs := mF ad v) (v := .int ((v.1 0 98) + r47)) (ty := .int) (C := RX13) (T := TX13) (N := 124) hx hb ht itX13 tyX13 tyX13_ok nmX13 hown hK hP hD hS 0 rfl rfl 98 (by decide) (ht _ tw_208) (fun _ h9 => h9) rfl (by decide +kernel) rfl rfl (Nat.le_of_ble_eq_true rfl) dX13_branches_205 (fun H locs hP hD hS => ?_)
                    have hP := cP_ (mw_98 ad N cI cZ cJ v ((v.1 0 98) + r47)) hP
                    have hD := cD_ (mw_98 ad N cI cZ cJ v ((v.1 0 98) + r47)) hD
                    exact W.vret hx hb hr (fun t ht9 hW => ⟨⟨(wA v 0 98 ((v.1 0 98) + r47)), rfl, (FG.f (FG.rf _) ((v.1 0 98) + r47) (by decide)), by rw [ht9]; exact hP, hD⟩, hS.F ht9⟩) hS.2.2 dX13_branches_208
                  · have z50 : (((v.1 0 98) + r47) &&& (3 : Int32)).toInt ≠ (0 : Int) := ne_z rfl (show (0 : Int32).toInt = (0 : Int) by decide) h48
                    refine lv_aload_n hx hb dX13_branches_194 rfl (lv_at hl 4 rfl) ?_
                    refine lv_iconst (v := 3) hx hb dX13_branches_195 (by decide) ?_
                    refine va_put (D := (dC, dI)) (ci := 16) (fs := mF ad v) (v := .int 3) (ty := .int) (C := RX13) (T := TX13) (N := 124) hx hb ht itX13 tyX13 tyX13_ok nmX13 hown hK hP hD hS 0 rfl rfl 99 (by decide) (ht _ tw_210) (fun _ h9 => h9) rfl (by decide +kernel) rfl rfl (Nat.le_of_ble_eq_true rfl) dX13_branches_196 (fun H locs hP hD hS => ?_)
                    have hP := cP_ (mw_99 ad N cI cZ cJ v 3) hP
                    have hD := cD_ (mw_99 ad N cI cZ cJ v 3) hD
                    refine lv_goto (tgt := 208) hx hb dX13_branches_199 (by decide) ?_
                    exact W.vret hx hb hr (fun t ht9 hW => ⟨⟨(wA v 0 99 3), rfl, (FG.f (FG.rf _) 3 (by decide)), by rw [ht9]; exact hP, hD⟩, hS.F ht9⟩) hS.2.2 dX13_branches_208
                ·
                  by_cases h51 : pb = 6
                  · refine lv_tableIn (off := 99) (tgt := 134) hx hb dX13_branches_35 (by rw [h51]; decide) (by rw [h51]; decide) (by rw [h51]; decide) (by decide) ?_
                    refine lv_iload hx hb dX13_branches_134 (lv_at hl 0 rfl) ?_
                    refine lv_istore (lv' := [(7, .int 0), (6, .int 0), (5, .int 0), (0, .ref (ad 0)), (1, .int pa), (2, .int pb), (3, .int pc1), (4, .int pd)]) hx hb dX13_branches_136 hl (by decide) rfl (fun ls hl => ?_)
                    refine lv_goto (tgt := 162) hx hb dX13_branches_138 (by decide) ?_
                    refine lv_iload hx hb dX13_branches_162 (lv_at hl 0 rfl) ?_
                    refine lv_if_eq (tgt := 179) hx hb dX13_branches_164 (by decide) (fun _ => ?_) (fun k52 => absurd k52 (by decide))
                    refine lv_aload_n hx hb dX13_branches_179 rfl (lv_at hl 3 rfl) ?_
                    refine va_get (D := (dC, dI)) (ci := 16) (fs := mF ad v) (v := .int (v.1 0 98)) (C := RX13) (T := TX13) (N := 124) hx hb ht itX13 hown hK hP 0 rfl rfl 98 (by decide) (ht _ tw_208) (fun _ h9 => h9) rfl dX13_branches_180 ?_
                    refine lv_iconst (v := 4) hx hb dX13_branches_183 (by decide) ?_
                    refine lv_iadd hx hb dX13_branches_184 ?_
                    refine lv_istore (lv' := [(8, .int ((v.1 0 98) + (4 : Int32))), (7, .int 0), (6, .int 0), (5, .int 0), (0, .ref (ad 0)), (1, .int pa), (2, .int pb), (3, .int pc1), (4, .int pd)]) hx hb dX13_branches_185 hl (by decide) rfl (fun ls hl => ?_)
                    refine lv_iload hx hb dX13_branches_187 (lv_at hl 0 rfl) ?_
                    refine lv_iconst (v := 3) hx hb dX13_branches_189 (by decide) ?_
                    refine lv_iand hx hb dX13_branches_190 ?_
                    refine lv_if_eq (tgt := 202) hx hb dX13_branches_191 (by decide) (fun h53 => ?_) (fun h53 => ?_)
                    · have z54 : (((v.1 0 98) + (4 : Int32)) &&& (3 : Int32)).toInt = (0 : Int) := eq_z rfl (show (0 : Int32).toInt = (0 : Int) by decide) h53
                      refine lv_aload_n hx hb dX13_branches_202 rfl (lv_at hl 4 rfl) ?_
                      refine lv_iload hx hb dX13_branches_203 (lv_at hl 0 rfl) ?_
                      refine va_put (D := (dC, dI)) (ci := 16) (fs := mF ad v) (v := .int ((v.1 0 98) + (4 : Int32))) (ty := .int) (C := RX13) (T := TX13) (N := 124) hx hb ht itX13 tyX13 tyX13_ok nmX13 hown hK hP hD hS 0 rfl rfl 98 (by decide) (ht _ tw_208) (fun _ h9 => h9) rfl (by decide +kernel) rfl rfl (Nat.le_of_ble_eq_true rfl) dX13_branches_205 (fun H locs hP hD hS => ?_)
                      have hP := cP_ (mw_98 ad N cI cZ cJ v ((v.1 0 98) + (4 : Int32))) hP
                      have hD := cD_ (mw_98 ad N cI cZ cJ v ((v.1 0 98) + (4 : Int32))) hD
                      exact W.vret hx hb hr (fun t ht9 hW => ⟨⟨(wA v 0 98 ((v.1 0 98) + (4 : Int32))), rfl, (FG.f (FG.rf _) ((v.1 0 98) + (4 : Int32)) (by decide)), by rw [ht9]; exact hP, hD⟩, hS.F ht9⟩) hS.2.2 dX13_branches_208
                    · have z55 : (((v.1 0 98) + (4 : Int32)) &&& (3 : Int32)).toInt ≠ (0 : Int) := ne_z rfl (show (0 : Int32).toInt = (0 : Int) by decide) h53
                      refine lv_aload_n hx hb dX13_branches_194 rfl (lv_at hl 4 rfl) ?_
                      refine lv_iconst (v := 3) hx hb dX13_branches_195 (by decide) ?_
                      refine va_put (D := (dC, dI)) (ci := 16) (fs := mF ad v) (v := .int 3) (ty := .int) (C := RX13) (T := TX13) (N := 124) hx hb ht itX13 tyX13 tyX13_ok nmX13 hown hK hP hD hS 0 rfl rfl 99 (by decide) (ht _ tw_210) (fun _ h9 => h9) rfl (by decide +kernel) rfl rfl (Nat.le_of_ble_eq_true rfl) dX13_branches_196 (fun H locs hP hD hS => ?_)
                      have hP := cP_ (mw_99 ad N cI cZ cJ v 3) hP
                      have hD := cD_ (mw_99 ad N cI cZ cJ v 3) hD
                      refine lv_goto (tgt := 208) hx hb dX13_branches_199 (by decide) ?_
                      exact W.vret hx hb hr (fun t ht9 hW => ⟨⟨(wA v 0 99 3), rfl, (FG.f (FG.rf _) 3 (by decide)), by rw [ht9]; exact hP, hD⟩, hS.F ht9⟩) hS.2.2 dX13_branches_208
                  ·
                    by_cases h56 : pb = 7
                    · refine lv_tableIn (off := 106) (tgt := 141) hx hb dX13_branches_35 (by rw [h56]; decide) (by rw [h56]; decide) (by rw [h56]; decide) (by decide) ?_
                      refine lv_iload hx hb dX13_branches_141 (lv_at hl 0 rfl) ?_
                      refine lv_if_ne (tgt := 150) hx hb dX13_branches_143 (by decide) (fun k57 => absurd k57 (by decide)) (fun _ => ?_)
                      refine lv_iconst (v := 1) hx hb dX13_branches_146 (by decide) ?_
                      refine lv_goto (tgt := 151) hx hb dX13_branches_147 (by decide) ?_
                      refine lv_istore (lv' := [(7, .int 1), (6, .int 0), (5, .int 0), (0, .ref (ad 0)), (1, .int pa), (2, .int pb), (3, .int pc1), (4, .int pd)]) hx hb dX13_branches_151 hl (by decide) rfl (fun ls hl => ?_)
                      refine lv_goto (tgt := 162) hx hb dX13_branches_153 (by decide) ?_
                      refine lv_iload hx hb dX13_branches_162 (lv_at hl 0 rfl) ?_
                      refine lv_if_eq (tgt := 179) hx hb dX13_branches_164 (by decide) (fun k58 => absurd k58 (by decide)) (fun _ => ?_)
                      refine lv_aload_n hx hb dX13_branches_167 rfl (lv_at hl 3 rfl) ?_
                      refine va_get (D := (dC, dI)) (ci := 16) (fs := mF ad v) (v := .int (v.1 0 98)) (C := RX13) (T := TX13) (N := 124) hx hb ht itX13 hown hK hP 0 rfl rfl 98 (by decide) (ht _ tw_208) (fun _ h9 => h9) rfl dX13_branches_168 ?_
                      refine lv_iload_n hx hb dX13_branches_171 rfl (lv_at hl 4 rfl) ?_
                      refine cu_s (mW_nd _ _ _ _ _ _) (rn_S (n := 1) (As := [.int pa]) (rest := [.int (v.1 0 98)]) hx hb hml hown ht hKK hFx hP hD hS hA (c_m_imB l dC dI cI cB cZ cJ cR tb s.heap.size pa ) tw_212 tw_213 (by decide +kernel) rfl rfl ⟨Nat.le_of_ble_eq_true rfl, Nat.le_of_ble_eq_true rfl⟩ [] rfl rfl rfl hl.1 rfl (Nat.le_of_ble_eq_true rfl) dX13_branches_172 ⟨Nat.le_of_ble_eq_true rfl, Nat.le_of_ble_eq_true rfl⟩) hP hD hS hA (fun r61 H locs hw59 hP hD hS => ?_)
                      refine W.widen (k := 0) (n := 0) (Nat.le_refl _) (Nat.le_refl _) ?_
                      refine lv_iadd hx hb dX13_branches_175 ?_
                      refine lv_goto (tgt := 185) hx hb dX13_branches_176 (by decide) ?_
                      refine lv_istore (lv' := [(8, .int ((v.1 0 98) + r61)), (7, .int 1), (6, .int 0), (5, .int 0), (0, .ref (ad 0)), (1, .int pa), (2, .int pb), (3, .int pc1), (4, .int pd)]) hx hb dX13_branches_185 hl (by decide) rfl (fun ls hl => ?_)
                      refine lv_iload hx hb dX13_branches_187 (lv_at hl 0 rfl) ?_
                      refine lv_iconst (v := 3) hx hb dX13_branches_189 (by decide) ?_
                      refine lv_iand hx hb dX13_branches_190 ?_
                      refine lv_if_eq (tgt := 202) hx hb dX13_branches_191 (by decide) (fun h62 => ?_) (fun h62 => ?_)
                      · have z63 : (((v.1 0 98) + r61) &&& (3 : Int32)).toInt = (0 : Int) := eq_z rfl (show (0 : Int32).toInt = (0 : Int) by decide) h62
                        refine lv_aload_n hx hb dX13_branches_202 rfl (lv_at hl 4 rfl) ?_
                        refine lv_iload hx hb dX13_branches_203 (lv_at hl 0 rfl) ?_
                        refine va_put (D := (dC, dI)) (ci := 16) (fs := mF ad v) (v := .int ((v.1 0 98) + r61)) (ty := .int) (C := RX13) (T := TX13) (N := 124) hx hb ht itX13 tyX13 tyX13_ok nmX13 hown hK hP hD hS 0 rfl rfl 98 (by decide) (ht _ tw_208) (fun _ h9 => h9) rfl (by decide +kernel) rfl rfl (Nat.le_of_ble_eq_true rfl) dX13_branches_205 (fun H locs hP hD hS => ?_)
                        have hP := cP_ (mw_98 ad N cI cZ cJ v ((v.1 0 98) + r61)) hP
                        have hD := cD_ (mw_98 ad N cI cZ cJ v ((v.1 0 98) + r61)) hD
                        exact W.vret hx hb hr (fun t ht9 hW => ⟨⟨(wA v 0 98 ((v.1 0 98) + r61)), rfl, (FG.f (FG.rf _) ((v.1 0 98) + r61) (by decide)), by rw [ht9]; exact hP, hD⟩, hS.F ht9⟩) hS.2.2 dX13_branches_208
                      · have z64 : (((v.1 0 98) + r61) &&& (3 : Int32)).toInt ≠ (0 : Int) := ne_z rfl (show (0 : Int32).toInt = (0 : Int) by decide) h62
                        refine lv_aload_n hx hb dX13_branches_194 rfl (lv_at hl 4 rfl) ?_
                        refine lv_iconst (v := 3) hx hb dX13_branches_195 (by decide) ?_
                        refine va_put (D := (dC, dI)) (ci := 16) (fs := mF ad v) (v := .int 3) (ty := .int) (C := RX13) (T := TX13) (N := 124) hx hb ht itX13 tyX13 tyX13_ok nmX13 hown hK hP hD hS 0 rfl rfl 99 (by decide) (ht _ tw_210) (fun _ h9 => h9) rfl (by decide +kernel) rfl rfl (Nat.le_of_ble_eq_true rfl) dX13_branches_196 (fun H locs hP hD hS => ?_)
                        have hP := cP_ (mw_99 ad N cI cZ cJ v 3) hP
                        have hD := cD_ (mw_99 ad N cI cZ cJ v 3) hD
                        refine lv_goto (tgt := 208) hx hb dX13_branches_199 (by decide) ?_
                        exact W.vret hx hb hr (fun t ht9 hW => ⟨⟨(wA v 0 99 3), rfl, (FG.f (FG.rf _) 3 (by decide)), by rw [ht9]; exact hP, hD⟩, hS.F ht9⟩) hS.2.2 dX13_branches_208
                    ·
                      refine lv_tableOut (tgt := 156) hx hb dX13_branches_35 (by have := lv_neT h5 (a := 0) (by decide); have := lv_neT h20 (a := 1) (by decide); have := lv_neT h35 (a := 2) (by decide); have := lv_neT h36 (a := 3) (by decide); have := lv_neT h37 (a := 4) (by decide); have := lv_neT h42 (a := 5) (by decide); have := lv_neT h51 (a := 6) (by decide); have := lv_neT h56 (a := 7) (by decide); omega) (by decide) ?_
                      refine lv_aload_n hx hb dX13_branches_156 rfl (lv_at hl 2 rfl) ?_
                      refine lv_iconst (v := 2) hx hb dX13_branches_157 (by decide) ?_
                      refine va_put (D := (dC, dI)) (ci := 16) (fs := mF ad v) (v := .int 2) (ty := .int) (C := RX13) (T := TX13) (N := 124) hx hb ht itX13 tyX13 tyX13_ok nmX13 hown hK hP hD hS 0 rfl rfl 99 (by decide) (ht _ tw_210) (fun _ h9 => h9) rfl (by decide +kernel) rfl rfl (Nat.le_of_ble_eq_true rfl) dX13_branches_158 (fun H locs hP hD hS => ?_)
                      have hP := cP_ (mw_99 ad N cI cZ cJ v 2) hP
                      have hD := cD_ (mw_99 ad N cI cZ cJ v 2) hD
                      exact W.vret hx hb hr (fun t ht9 hW => ⟨⟨(wA v 0 99 2), rfl, (FG.f (FG.rf _) 2 (by decide)), by rw [ht9]; exact hP, hD⟩, hS.F ht9⟩) hS.2.2 dX13_branches_161
    · have z65 : (pc1 + ((-2147483648) : Int32)).toInt < (pd + ((-2147483648) : Int32)).toInt := nle_z rfl rfl h3
      refine lv_iconst (v := 1) hx hb dX13_branches_27 (by decide) ?_
      refine lv_goto (tgt := 32) hx hb dX13_branches_28 (by decide) ?_
      refine lv_istore (lv' := [(6, .int 1), (5, .int 0), (0, .ref (ad 0)), (1, .int pa), (2, .int pb), (3, .int pc1), (4, .int pd)]) hx hb dX13_branches_32 hl (by decide) rfl (fun ls hl => ?_)
      refine lv_iload_n hx hb dX13_branches_34 rfl (lv_at hl 4 rfl) ?_
      by_cases h66 : pb = 0
      · refine lv_tableIn (off := 45) (tgt := 80) hx hb dX13_branches_35 (by rw [h66]; decide) (by rw [h66]; decide) (by rw [h66]; decide) (by decide) ?_
        refine lv_iload_n hx hb dX13_branches_80 rfl (lv_at hl 5 rfl) ?_
        refine lv_iload hx hb dX13_branches_81 (lv_at hl 6 rfl) ?_
        refine lv_icmp_ne (tgt := 90) hx hb dX13_branches_83 (by decide) (fun h67 => ?_) (fun h67 => ?_)
        · have z68 : pc1.toInt ≠ pd.toInt := ne_z rfl rfl h67
          refine lv_iconst (v := 0) hx hb dX13_branches_90 (by decide) ?_
          refine lv_istore (lv' := [(7, .int 0), (6, .int 1), (5, .int 0), (0, .ref (ad 0)), (1, .int pa), (2, .int pb), (3, .int pc1), (4, .int pd)]) hx hb dX13_branches_91 hl (by decide) rfl (fun ls hl => ?_)
          refine lv_goto (tgt := 162) hx hb dX13_branches_93 (by decide) ?_
          refine lv_iload hx hb dX13_branches_162 (lv_at hl 0 rfl) ?_
          refine lv_if_eq (tgt := 179) hx hb dX13_branches_164 (by decide) (fun _ => ?_) (fun k69 => absurd k69 (by decide))
          refine lv_aload_n hx hb dX13_branches_179 rfl (lv_at hl 3 rfl) ?_
          refine va_get (D := (dC, dI)) (ci := 16) (fs := mF ad v) (v := .int (v.1 0 98)) (C := RX13) (T := TX13) (N := 124) hx hb ht itX13 hown hK hP 0 rfl rfl 98 (by decide) (ht _ tw_208) (fun _ h9 => h9) rfl dX13_branches_180 ?_
          refine lv_iconst (v := 4) hx hb dX13_branches_183 (by decide) ?_
          refine lv_iadd hx hb dX13_branches_184 ?_
          refine lv_istore (lv' := [(8, .int ((v.1 0 98) + (4 : Int32))), (7, .int 0), (6, .int 1), (5, .int 0), (0, .ref (ad 0)), (1, .int pa), (2, .int pb), (3, .int pc1), (4, .int pd)]) hx hb dX13_branches_185 hl (by decide) rfl (fun ls hl => ?_)
          refine lv_iload hx hb dX13_branches_187 (lv_at hl 0 rfl) ?_
          refine lv_iconst (v := 3) hx hb dX13_branches_189 (by decide) ?_
          refine lv_iand hx hb dX13_branches_190 ?_
          refine lv_if_eq (tgt := 202) hx hb dX13_branches_191 (by decide) (fun h70 => ?_) (fun h70 => ?_)
          · have z71 : (((v.1 0 98) + (4 : Int32)) &&& (3 : Int32)).toInt = (0 : Int) := eq_z rfl (show (0 : Int32).toInt = (0 : Int) by decide) h70
            refine lv_aload_n hx hb dX13_branches_202 rfl (lv_at hl 4 rfl) ?_
            refine lv_iload hx hb dX13_branches_203 (lv_at hl 0 rfl) ?_
            refine va_put (D := (dC, dI)) (ci := 16) (fs := mF ad v) (v := .int ((v.1 0 98) + (4 : Int32))) (ty := .int) (C := RX13) (T := TX13) (N := 124) hx hb ht itX13 tyX13 tyX13_ok nmX13 hown hK hP hD hS 0 rfl rfl 98 (by decide) (ht _ tw_208) (fun _ h9 => h9) rfl (by decide +kernel) rfl rfl (Nat.le_of_ble_eq_true rfl) dX13_branches_205 (fun H locs hP hD hS => ?_)
            have hP := cP_ (mw_98 ad N cI cZ cJ v ((v.1 0 98) + (4 : Int32))) hP
            have hD := cD_ (mw_98 ad N cI cZ cJ v ((v.1 0 98) + (4 : Int32))) hD
            exact W.vret hx hb hr (fun t ht9 hW => ⟨⟨(wA v 0 98 ((v.1 0 98) + (4 : Int32))), rfl, (FG.f (FG.rf _) ((v.1 0 98) + (4 : Int32)) (by decide)), by rw [ht9]; exact hP, hD⟩, hS.F ht9⟩) hS.2.2 dX13_branches_208
          · have z72 : (((v.1 0 98) + (4 : Int32)) &&& (3 : Int32)).toInt ≠ (0 : Int) := ne_z rfl (show (0 : Int32).toInt = (0 : Int) by decide) h70
            refine lv_aload_n hx hb dX13_branches_194 rfl (lv_at hl 4 rfl) ?_
            refine lv_iconst (v := 3) hx hb dX13_branches_195 (by decide) ?_
            refine va_put (D := (dC, dI)) (ci := 16) (fs := mF ad v) (v := .int 3) (ty := .int) (C := RX13) (T := TX13) (N := 124) hx hb ht itX13 tyX13 tyX13_ok nmX13 hown hK hP hD hS 0 rfl rfl 99 (by decide) (ht _ tw_210) (fun _ h9 => h9) rfl (by decide +kernel) rfl rfl (Nat.le_of_ble_eq_true rfl) dX13_branches_196 (fun H locs hP hD hS => ?_)
            have hP := cP_ (mw_99 ad N cI cZ cJ v 3) hP
            have hD := cD_ (mw_99 ad N cI cZ cJ v 3) hD
            refine lv_goto (tgt := 208) hx hb dX13_branches_199 (by decide) ?_
            exact W.vret hx hb hr (fun t ht9 hW => ⟨⟨(wA v 0 99 3), rfl, (FG.f (FG.rf _) 3 (by decide)), by rw [ht9]; exact hP, hD⟩, hS.F ht9⟩) hS.2.2 dX13_branches_208
        · have z73 : pc1.toInt = pd.toInt := eq_z rfl rfl h67
          refine lv_iconst (v := 1) hx hb dX13_branches_86 (by decide) ?_
          refine lv_goto (tgt := 91) hx hb dX13_branches_87 (by decide) ?_
          refine lv_istore (lv' := [(7, .int 1), (6, .int 1), (5, .int 0), (0, .ref (ad 0)), (1, .int pa), (2, .int pb), (3, .int pc1), (4, .int pd)]) hx hb dX13_branches_91 hl (by decide) rfl (fun ls hl => ?_)
          refine lv_goto (tgt := 162) hx hb dX13_branches_93 (by decide) ?_
          refine lv_iload hx hb dX13_branches_162 (lv_at hl 0 rfl) ?_
          refine lv_if_eq (tgt := 179) hx hb dX13_branches_164 (by decide) (fun k74 => absurd k74 (by decide)) (fun _ => ?_)
          refine lv_aload_n hx hb dX13_branches_167 rfl (lv_at hl 3 rfl) ?_
          refine va_get (D := (dC, dI)) (ci := 16) (fs := mF ad v) (v := .int (v.1 0 98)) (C := RX13) (T := TX13) (N := 124) hx hb ht itX13 hown hK hP 0 rfl rfl 98 (by decide) (ht _ tw_208) (fun _ h9 => h9) rfl dX13_branches_168 ?_
          refine lv_iload_n hx hb dX13_branches_171 rfl (lv_at hl 4 rfl) ?_
          refine cu_s (mW_nd _ _ _ _ _ _) (rn_S (n := 1) (As := [.int pa]) (rest := [.int (v.1 0 98)]) hx hb hml hown ht hKK hFx hP hD hS hA (c_m_imB l dC dI cI cB cZ cJ cR tb s.heap.size pa ) tw_212 tw_213 (by decide +kernel) rfl rfl ⟨Nat.le_of_ble_eq_true rfl, Nat.le_of_ble_eq_true rfl⟩ [] rfl rfl rfl hl.1 rfl (Nat.le_of_ble_eq_true rfl) dX13_branches_172 ⟨Nat.le_of_ble_eq_true rfl, Nat.le_of_ble_eq_true rfl⟩) hP hD hS hA (fun r77 H locs hw75 hP hD hS => ?_)
          refine W.widen (k := 0) (n := 0) (Nat.le_refl _) (Nat.le_refl _) ?_
          refine lv_iadd hx hb dX13_branches_175 ?_
          refine lv_goto (tgt := 185) hx hb dX13_branches_176 (by decide) ?_
          refine lv_istore (lv' := [(8, .int ((v.1 0 98) + r77)), (7, .int 1), (6, .int 1), (5, .int 0), (0, .ref (ad 0)), (1, .int pa), (2, .int pb), (3, .int pc1), (4, .int pd)]) hx hb dX13_branches_185 hl (by decide) rfl (fun ls hl => ?_)
          refine lv_iload hx hb dX13_branches_187 (lv_at hl 0 rfl) ?_
          refine lv_iconst (v := 3) hx hb dX13_branches_189 (by decide) ?_
          refine lv_iand hx hb dX13_branches_190 ?_
          refine lv_if_eq (tgt := 202) hx hb dX13_branches_191 (by decide) (fun h78 => ?_) (fun h78 => ?_)
          · have z79 : (((v.1 0 98) + r77) &&& (3 : Int32)).toInt = (0 : Int) := eq_z rfl (show (0 : Int32).toInt = (0 : Int) by decide) h78
            refine lv_aload_n hx hb dX13_branches_202 rfl (lv_at hl 4 rfl) ?_
            refine lv_iload hx hb dX13_branches_203 (lv_at hl 0 rfl) ?_
            refine va_put (D := (dC, dI)) (ci := 16) (fs := mF ad v) (v := .int ((v.1 0 98) + r77)) (ty := .int) (C := RX13) (T := TX13) (N := 124) hx hb ht itX13 tyX13 tyX13_ok nmX13 hown hK hP hD hS 0 rfl rfl 98 (by decide) (ht _ tw_208) (fun _ h9 => h9) rfl (by decide +kernel) rfl rfl (Nat.le_of_ble_eq_true rfl) dX13_branches_205 (fun H locs hP hD hS => ?_)
            have hP := cP_ (mw_98 ad N cI cZ cJ v ((v.1 0 98) + r77)) hP
            have hD := cD_ (mw_98 ad N cI cZ cJ v ((v.1 0 98) + r77)) hD
            exact W.vret hx hb hr (fun t ht9 hW => ⟨⟨(wA v 0 98 ((v.1 0 98) + r77)), rfl, (FG.f (FG.rf _) ((v.1 0 98) + r77) (by decide)), by rw [ht9]; exact hP, hD⟩, hS.F ht9⟩) hS.2.2 dX13_branches_208
          · have z80 : (((v.1 0 98) + r77) &&& (3 : Int32)).toInt ≠ (0 : Int) := ne_z rfl (show (0 : Int32).toInt = (0 : Int) by decide) h78
            refine lv_aload_n hx hb dX13_branches_194 rfl (lv_at hl 4 rfl) ?_
            refine lv_iconst (v := 3) hx hb dX13_branches_195 (by decide) ?_
            refine va_put (D := (dC, dI)) (ci := 16) (fs := mF ad v) (v := .int 3) (ty := .int) (C := RX13) (T := TX13) (N := 124) hx hb ht itX13 tyX13 tyX13_ok nmX13 hown hK hP hD hS 0 rfl rfl 99 (by decide) (ht _ tw_210) (fun _ h9 => h9) rfl (by decide +kernel) rfl rfl (Nat.le_of_ble_eq_true rfl) dX13_branches_196 (fun H locs hP hD hS => ?_)
            have hP := cP_ (mw_99 ad N cI cZ cJ v 3) hP
            have hD := cD_ (mw_99 ad N cI cZ cJ v 3) hD
            refine lv_goto (tgt := 208) hx hb dX13_branches_199 (by decide) ?_
            exact W.vret hx hb hr (fun t ht9 hW => ⟨⟨(wA v 0 99 3), rfl, (FG.f (FG.rf _) 3 (by decide)), by rw [ht9]; exact hP, hD⟩, hS.F ht9⟩) hS.2.2 dX13_branches_208
      ·
        by_cases h81 : pb = 1
        · refine lv_tableIn (off := 61) (tgt := 96) hx hb dX13_branches_35 (by rw [h81]; decide) (by rw [h81]; decide) (by rw [h81]; decide) (by decide) ?_
          refine lv_iload_n hx hb dX13_branches_96 rfl (lv_at hl 5 rfl) ?_
          refine lv_iload hx hb dX13_branches_97 (lv_at hl 6 rfl) ?_
          refine lv_icmp_eq (tgt := 106) hx hb dX13_branches_99 (by decide) (fun h82 => ?_) (fun h82 => ?_)
          · have z83 : pc1.toInt = pd.toInt := eq_z rfl rfl h82
            refine lv_iconst (v := 0) hx hb dX13_branches_106 (by decide) ?_
            refine lv_istore (lv' := [(7, .int 0), (6, .int 1), (5, .int 0), (0, .ref (ad 0)), (1, .int pa), (2, .int pb), (3, .int pc1), (4, .int pd)]) hx hb dX13_branches_107 hl (by decide) rfl (fun ls hl => ?_)
            refine lv_goto (tgt := 162) hx hb dX13_branches_109 (by decide) ?_
            refine lv_iload hx hb dX13_branches_162 (lv_at hl 0 rfl) ?_
            refine lv_if_eq (tgt := 179) hx hb dX13_branches_164 (by decide) (fun _ => ?_) (fun k84 => absurd k84 (by decide))
            refine lv_aload_n hx hb dX13_branches_179 rfl (lv_at hl 3 rfl) ?_
            refine va_get (D := (dC, dI)) (ci := 16) (fs := mF ad v) (v := .int (v.1 0 98)) (C := RX13) (T := TX13) (N := 124) hx hb ht itX13 hown hK hP 0 rfl rfl 98 (by decide) (ht _ tw_208) (fun _ h9 => h9) rfl dX13_branches_180 ?_
            refine lv_iconst (v := 4) hx hb dX13_branches_183 (by decide) ?_
            refine lv_iadd hx hb dX13_branches_184 ?_
            refine lv_istore (lv' := [(8, .int ((v.1 0 98) + (4 : Int32))), (7, .int 0), (6, .int 1), (5, .int 0), (0, .ref (ad 0)), (1, .int pa), (2, .int pb), (3, .int pc1), (4, .int pd)]) hx hb dX13_branches_185 hl (by decide) rfl (fun ls hl => ?_)
            refine lv_iload hx hb dX13_branches_187 (lv_at hl 0 rfl) ?_
            refine lv_iconst (v := 3) hx hb dX13_branches_189 (by decide) ?_
            refine lv_iand hx hb dX13_branches_190 ?_
            refine lv_if_eq (tgt := 202) hx hb dX13_branches_191 (by decide) (fun h85 => ?_) (fun h85 => ?_)
            · have z86 : (((v.1 0 98) + (4 : Int32)) &&& (3 : Int32)).toInt = (0 : Int) := eq_z rfl (show (0 : Int32).toInt = (0 : Int) by decide) h85
              refine lv_aload_n hx hb dX13_branches_202 rfl (lv_at hl 4 rfl) ?_
              refine lv_iload hx hb dX13_branches_203 (lv_at hl 0 rfl) ?_
              refine va_put (D := (dC, dI)) (ci := 16) (fs := mF ad v) (v := .int ((v.1 0 98) + (4 : Int32))) (ty := .int) (C := RX13) (T := TX13) (N := 124) hx hb ht itX13 tyX13 tyX13_ok nmX13 hown hK hP hD hS 0 rfl rfl 98 (by decide) (ht _ tw_208) (fun _ h9 => h9) rfl (by decide +kernel) rfl rfl (Nat.le_of_ble_eq_true rfl) dX13_branches_205 (fun H locs hP hD hS => ?_)
              have hP := cP_ (mw_98 ad N cI cZ cJ v ((v.1 0 98) + (4 : Int32))) hP
              have hD := cD_ (mw_98 ad N cI cZ cJ v ((v.1 0 98) + (4 : Int32))) hD
              exact W.vret hx hb hr (fun t ht9 hW => ⟨⟨(wA v 0 98 ((v.1 0 98) + (4 : Int32))), rfl, (FG.f (FG.rf _) ((v.1 0 98) + (4 : Int32)) (by decide)), by rw [ht9]; exact hP, hD⟩, hS.F ht9⟩) hS.2.2 dX13_branches_208
            · have z87 : (((v.1 0 98) + (4 : Int32)) &&& (3 : Int32)).toInt ≠ (0 : Int) := ne_z rfl (show (0 : Int32).toInt = (0 : Int) by decide) h85
              refine lv_aload_n hx hb dX13_branches_194 rfl (lv_at hl 4 rfl) ?_
              refine lv_iconst (v := 3) hx hb dX13_branches_195 (by decide) ?_
              refine va_put (D := (dC, dI)) (ci := 16) (fs := mF ad v) (v := .int 3) (ty := .int) (C := RX13) (T := TX13) (N := 124) hx hb ht itX13 tyX13 tyX13_ok nmX13 hown hK hP hD hS 0 rfl rfl 99 (by decide) (ht _ tw_210) (fun _ h9 => h9) rfl (by decide +kernel) rfl rfl (Nat.le_of_ble_eq_true rfl) dX13_branches_196 (fun H locs hP hD hS => ?_)
              have hP := cP_ (mw_99 ad N cI cZ cJ v 3) hP
              have hD := cD_ (mw_99 ad N cI cZ cJ v 3) hD
              refine lv_goto (tgt := 208) hx hb dX13_branches_199 (by decide) ?_
              exact W.vret hx hb hr (fun t ht9 hW => ⟨⟨(wA v 0 99 3), rfl, (FG.f (FG.rf _) 3 (by decide)), by rw [ht9]; exact hP, hD⟩, hS.F ht9⟩) hS.2.2 dX13_branches_208
          · have z88 : pc1.toInt ≠ pd.toInt := ne_z rfl rfl h82
            refine lv_iconst (v := 1) hx hb dX13_branches_102 (by decide) ?_
            refine lv_goto (tgt := 107) hx hb dX13_branches_103 (by decide) ?_
            refine lv_istore (lv' := [(7, .int 1), (6, .int 1), (5, .int 0), (0, .ref (ad 0)), (1, .int pa), (2, .int pb), (3, .int pc1), (4, .int pd)]) hx hb dX13_branches_107 hl (by decide) rfl (fun ls hl => ?_)
            refine lv_goto (tgt := 162) hx hb dX13_branches_109 (by decide) ?_
            refine lv_iload hx hb dX13_branches_162 (lv_at hl 0 rfl) ?_
            refine lv_if_eq (tgt := 179) hx hb dX13_branches_164 (by decide) (fun k89 => absurd k89 (by decide)) (fun _ => ?_)
            refine lv_aload_n hx hb dX13_branches_167 rfl (lv_at hl 3 rfl) ?_
            refine va_get (D := (dC, dI)) (ci := 16) (fs := mF ad v) (v := .int (v.1 0 98)) (C := RX13) (T := TX13) (N := 124) hx hb ht itX13 hown hK hP 0 rfl rfl 98 (by decide) (ht _ tw_208) (fun _ h9 => h9) rfl dX13_branches_168 ?_
            refine lv_iload_n hx hb dX13_branches_171 rfl (lv_at hl 4 rfl) ?_
            refine cu_s (mW_nd _ _ _ _ _ _) (rn_S (n := 1) (As := [.int pa]) (rest := [.int (v.1 0 98)]) hx hb hml hown ht hKK hFx hP hD hS hA (c_m_imB l dC dI cI cB cZ cJ cR tb s.heap.size pa ) tw_212 tw_213 (by decide +kernel) rfl rfl ⟨Nat.le_of_ble_eq_true rfl, Nat.le_of_ble_eq_true rfl⟩ [] rfl rfl rfl hl.1 rfl (Nat.le_of_ble_eq_true rfl) dX13_branches_172 ⟨Nat.le_of_ble_eq_true rfl, Nat.le_of_ble_eq_true rfl⟩) hP hD hS hA (fun r92 H locs hw90 hP hD hS => ?_)
            refine W.widen (k := 0) (n := 0) (Nat.le_refl _) (Nat.le_refl _) ?_
            refine lv_iadd hx hb dX13_branches_175 ?_
            refine lv_goto (tgt := 185) hx hb dX13_branches_176 (by decide) ?_
            refine lv_istore (lv' := [(8, .int ((v.1 0 98) + r92)), (7, .int 1), (6, .int 1), (5, .int 0), (0, .ref (ad 0)), (1, .int pa), (2, .int pb), (3, .int pc1), (4, .int pd)]) hx hb dX13_branches_185 hl (by decide) rfl (fun ls hl => ?_)
            refine lv_iload hx hb dX13_branches_187 (lv_at hl 0 rfl) ?_
            refine lv_iconst (v := 3) hx hb dX13_branches_189 (by decide) ?_
            refine lv_iand hx hb dX13_branches_190 ?_
            refine lv_if_eq (tgt := 202) hx hb dX13_branches_191 (by decide) (fun h93 => ?_) (fun h93 => ?_)
            · have z94 : (((v.1 0 98) + r92) &&& (3 : Int32)).toInt = (0 : Int) := eq_z rfl (show (0 : Int32).toInt = (0 : Int) by decide) h93
              refine lv_aload_n hx hb dX13_branches_202 rfl (lv_at hl 4 rfl) ?_
              refine lv_iload hx hb dX13_branches_203 (lv_at hl 0 rfl) ?_
              refine va_put (D := (dC, dI)) (ci := 16) (fs := mF ad v) (v := .int ((v.1 0 98) + r92)) (ty := .int) (C := RX13) (T := TX13) (N := 124) hx hb ht itX13 tyX13 tyX13_ok nmX13 hown hK hP hD hS 0 rfl rfl 98 (by decide) (ht _ tw_208) (fun _ h9 => h9) rfl (by decide +kernel) rfl rfl (Nat.le_of_ble_eq_true rfl) dX13_branches_205 (fun H locs hP hD hS => ?_)
              have hP := cP_ (mw_98 ad N cI cZ cJ v ((v.1 0 98) + r92)) hP
              have hD := cD_ (mw_98 ad N cI cZ cJ v ((v.1 0 98) + r92)) hD
              exact W.vret hx hb hr (fun t ht9 hW => ⟨⟨(wA v 0 98 ((v.1 0 98) + r92)), rfl, (FG.f (FG.rf _) ((v.1 0 98) + r92) (by decide)), by rw [ht9]; exact hP, hD⟩, hS.F ht9⟩) hS.2.2 dX13_branches_208
            · have z95 : (((v.1 0 98) + r92) &&& (3 : Int32)).toInt ≠ (0 : Int) := ne_z rfl (show (0 : Int32).toInt = (0 : Int) by decide) h93
              refine lv_aload_n hx hb dX13_branches_194 rfl (lv_at hl 4 rfl) ?_
              refine lv_iconst (v := 3) hx hb dX13_branches_195 (by decide) ?_
              refine va_put (D := (dC, dI)) (ci := 16) (fs := mF ad v) (v := .int 3) (ty := .int) (C := RX13) (T := TX13) (N := 124) hx hb ht itX13 tyX13 tyX13_ok nmX13 hown hK hP hD hS 0 rfl rfl 99 (by decide) (ht _ tw_210) (fun _ h9 => h9) rfl (by decide +kernel) rfl rfl (Nat.le_of_ble_eq_true rfl) dX13_branches_196 (fun H locs hP hD hS => ?_)
              have hP := cP_ (mw_99 ad N cI cZ cJ v 3) hP
              have hD := cD_ (mw_99 ad N cI cZ cJ v 3) hD
              refine lv_goto (tgt := 208) hx hb dX13_branches_199 (by decide) ?_
              exact W.vret hx hb hr (fun t ht9 hW => ⟨⟨(wA v 0 99 3), rfl, (FG.f (FG.rf _) 3 (by decide)), by rw [ht9]; exact hP, hD⟩, hS.F ht9⟩) hS.2.2 dX13_branches_208
        ·
          by_cases h96 : pb = 2
          · refine lv_tableIn (off := 121) (tgt := 156) hx hb dX13_branches_35 (by rw [h96]; decide) (by rw [h96]; decide) (by rw [h96]; decide) (by decide) ?_
            refine lv_aload_n hx hb dX13_branches_156 rfl (lv_at hl 2 rfl) ?_
            refine lv_iconst (v := 2) hx hb dX13_branches_157 (by decide) ?_
            refine va_put (D := (dC, dI)) (ci := 16) (fs := mF ad v) (v := .int 2) (ty := .int) (C := RX13) (T := TX13) (N := 124) hx hb ht itX13 tyX13 tyX13_ok nmX13 hown hK hP hD hS 0 rfl rfl 99 (by decide) (ht _ tw_210) (fun _ h9 => h9) rfl (by decide +kernel) rfl rfl (Nat.le_of_ble_eq_true rfl) dX13_branches_158 (fun H locs hP hD hS => ?_)
            have hP := cP_ (mw_99 ad N cI cZ cJ v 2) hP
            have hD := cD_ (mw_99 ad N cI cZ cJ v 2) hD
            exact W.vret hx hb hr (fun t ht9 hW => ⟨⟨(wA v 0 99 2), rfl, (FG.f (FG.rf _) 2 (by decide)), by rw [ht9]; exact hP, hD⟩, hS.F ht9⟩) hS.2.2 dX13_branches_161
          ·
            by_cases h97 : pb = 3
            · refine lv_tableIn (off := 121) (tgt := 156) hx hb dX13_branches_35 (by rw [h97]; decide) (by rw [h97]; decide) (by rw [h97]; decide) (by decide) ?_
              refine lv_aload_n hx hb dX13_branches_156 rfl (lv_at hl 2 rfl) ?_
              refine lv_iconst (v := 2) hx hb dX13_branches_157 (by decide) ?_
              refine va_put (D := (dC, dI)) (ci := 16) (fs := mF ad v) (v := .int 2) (ty := .int) (C := RX13) (T := TX13) (N := 124) hx hb ht itX13 tyX13 tyX13_ok nmX13 hown hK hP hD hS 0 rfl rfl 99 (by decide) (ht _ tw_210) (fun _ h9 => h9) rfl (by decide +kernel) rfl rfl (Nat.le_of_ble_eq_true rfl) dX13_branches_158 (fun H locs hP hD hS => ?_)
              have hP := cP_ (mw_99 ad N cI cZ cJ v 2) hP
              have hD := cD_ (mw_99 ad N cI cZ cJ v 2) hD
              exact W.vret hx hb hr (fun t ht9 hW => ⟨⟨(wA v 0 99 2), rfl, (FG.f (FG.rf _) 2 (by decide)), by rw [ht9]; exact hP, hD⟩, hS.F ht9⟩) hS.2.2 dX13_branches_161
            ·
              by_cases h98 : pb = 4
              · refine lv_tableIn (off := 77) (tgt := 112) hx hb dX13_branches_35 (by rw [h98]; decide) (by rw [h98]; decide) (by rw [h98]; decide) (by decide) ?_
                refine lv_iload hx hb dX13_branches_112 (lv_at hl 1 rfl) ?_
                refine lv_istore (lv' := [(7, .int 0), (6, .int 1), (5, .int 0), (0, .ref (ad 0)), (1, .int pa), (2, .int pb), (3, .int pc1), (4, .int pd)]) hx hb dX13_branches_114 hl (by decide) rfl (fun ls hl => ?_)
                refine lv_goto (tgt := 162) hx hb dX13_branches_116 (by decide) ?_
                refine lv_iload hx hb dX13_branches_162 (lv_at hl 0 rfl) ?_
                refine lv_if_eq (tgt := 179) hx hb dX13_branches_164 (by decide) (fun _ => ?_) (fun k99 => absurd k99 (by decide))
                refine lv_aload_n hx hb dX13_branches_179 rfl (lv_at hl 3 rfl) ?_
                refine va_get (D := (dC, dI)) (ci := 16) (fs := mF ad v) (v := .int (v.1 0 98)) (C := RX13) (T := TX13) (N := 124) hx hb ht itX13 hown hK hP 0 rfl rfl 98 (by decide) (ht _ tw_208) (fun _ h9 => h9) rfl dX13_branches_180 ?_
                refine lv_iconst (v := 4) hx hb dX13_branches_183 (by decide) ?_
                refine lv_iadd hx hb dX13_branches_184 ?_
                refine lv_istore (lv' := [(8, .int ((v.1 0 98) + (4 : Int32))), (7, .int 0), (6, .int 1), (5, .int 0), (0, .ref (ad 0)), (1, .int pa), (2, .int pb), (3, .int pc1), (4, .int pd)]) hx hb dX13_branches_185 hl (by decide) rfl (fun ls hl => ?_)
                refine lv_iload hx hb dX13_branches_187 (lv_at hl 0 rfl) ?_
                refine lv_iconst (v := 3) hx hb dX13_branches_189 (by decide) ?_
                refine lv_iand hx hb dX13_branches_190 ?_
                refine lv_if_eq (tgt := 202) hx hb dX13_branches_191 (by decide) (fun h100 => ?_) (fun h100 => ?_)
                · have z101 : (((v.1 0 98) + (4 : Int32)) &&& (3 : Int32)).toInt = (0 : Int) := eq_z rfl (show (0 : Int32).toInt = (0 : Int) by decide) h100
                  refine lv_aload_n hx hb dX13_branches_202 rfl (lv_at hl 4 rfl) ?_
                  refine lv_iload hx hb dX13_branches_203 (lv_at hl 0 rfl) ?_
                  refine va_put (D := (dC, dI)) (ci := 16) (fs := mF ad v) (v := .int ((v.1 0 98) + (4 : Int32))) (ty := .int) (C := RX13) (T := TX13) (N := 124) hx hb ht itX13 tyX13 tyX13_ok nmX13 hown hK hP hD hS 0 rfl rfl 98 (by decide) (ht _ tw_208) (fun _ h9 => h9) rfl (by decide +kernel) rfl rfl (Nat.le_of_ble_eq_true rfl) dX13_branches_205 (fun H locs hP hD hS => ?_)
                  have hP := cP_ (mw_98 ad N cI cZ cJ v ((v.1 0 98) + (4 : Int32))) hP
                  have hD := cD_ (mw_98 ad N cI cZ cJ v ((v.1 0 98) + (4 : Int32))) hD
                  exact W.vret hx hb hr (fun t ht9 hW => ⟨⟨(wA v 0 98 ((v.1 0 98) + (4 : Int32))), rfl, (FG.f (FG.rf _) ((v.1 0 98) + (4 : Int32)) (by decide)), by rw [ht9]; exact hP, hD⟩, hS.F ht9⟩) hS.2.2 dX13_branches_208
                · have z102 : (((v.1 0 98) + (4 : Int32)) &&& (3 : Int32)).toInt ≠ (0 : Int) := ne_z rfl (show (0 : Int32).toInt = (0 : Int) by decide) h100
                  refine lv_aload_n hx hb dX13_branches_194 rfl (lv_at hl 4 rfl) ?_
                  refine lv_iconst (v := 3) hx hb dX13_branches_195 (by decide) ?_
                  refine va_put (D := (dC, dI)) (ci := 16) (fs := mF ad v) (v := .int 3) (ty := .int) (C := RX13) (T := TX13) (N := 124) hx hb ht itX13 tyX13 tyX13_ok nmX13 hown hK hP hD hS 0 rfl rfl 99 (by decide) (ht _ tw_210) (fun _ h9 => h9) rfl (by decide +kernel) rfl rfl (Nat.le_of_ble_eq_true rfl) dX13_branches_196 (fun H locs hP hD hS => ?_)
                  have hP := cP_ (mw_99 ad N cI cZ cJ v 3) hP
                  have hD := cD_ (mw_99 ad N cI cZ cJ v 3) hD
                  refine lv_goto (tgt := 208) hx hb dX13_branches_199 (by decide) ?_
                  exact W.vret hx hb hr (fun t ht9 hW => ⟨⟨(wA v 0 99 3), rfl, (FG.f (FG.rf _) 3 (by decide)), by rw [ht9]; exact hP, hD⟩, hS.F ht9⟩) hS.2.2 dX13_branches_208
              ·
                by_cases h103 : pb = 5
                · refine lv_tableIn (off := 84) (tgt := 119) hx hb dX13_branches_35 (by rw [h103]; decide) (by rw [h103]; decide) (by rw [h103]; decide) (by decide) ?_
                  refine lv_iload hx hb dX13_branches_119 (lv_at hl 1 rfl) ?_
                  refine lv_if_ne (tgt := 128) hx hb dX13_branches_121 (by decide) (fun k104 => absurd k104 (by decide)) (fun _ => ?_)
                  refine lv_iconst (v := 1) hx hb dX13_branches_124 (by decide) ?_
                  refine lv_goto (tgt := 129) hx hb dX13_branches_125 (by decide) ?_
                  refine lv_istore (lv' := [(7, .int 1), (6, .int 1), (5, .int 0), (0, .ref (ad 0)), (1, .int pa), (2, .int pb), (3, .int pc1), (4, .int pd)]) hx hb dX13_branches_129 hl (by decide) rfl (fun ls hl => ?_)
                  refine lv_goto (tgt := 162) hx hb dX13_branches_131 (by decide) ?_
                  refine lv_iload hx hb dX13_branches_162 (lv_at hl 0 rfl) ?_
                  refine lv_if_eq (tgt := 179) hx hb dX13_branches_164 (by decide) (fun k105 => absurd k105 (by decide)) (fun _ => ?_)
                  refine lv_aload_n hx hb dX13_branches_167 rfl (lv_at hl 3 rfl) ?_
                  refine va_get (D := (dC, dI)) (ci := 16) (fs := mF ad v) (v := .int (v.1 0 98)) (C := RX13) (T := TX13) (N := 124) hx hb ht itX13 hown hK hP 0 rfl rfl 98 (by decide) (ht _ tw_208) (fun _ h9 => h9) rfl dX13_branches_168 ?_
                  refine lv_iload_n hx hb dX13_branches_171 rfl (lv_at hl 4 rfl) ?_
                  refine cu_s (mW_nd _ _ _ _ _ _) (rn_S (n := 1) (As := [.int pa]) (rest := [.int (v.1 0 98)]) hx hb hml hown ht hKK hFx hP hD hS hA (c_m_imB l dC dI cI cB cZ cJ cR tb s.heap.size pa ) tw_212 tw_213 (by decide +kernel) rfl rfl ⟨Nat.le_of_ble_eq_true rfl, Nat.le_of_ble_eq_true rfl⟩ [] rfl rfl rfl hl.1 rfl (Nat.le_of_ble_eq_true rfl) dX13_branches_172 ⟨Nat.le_of_ble_eq_true rfl, Nat.le_of_ble_eq_true rfl⟩) hP hD hS hA (fun r108 H locs hw106 hP hD hS => ?_)
                  refine W.widen (k := 0) (n := 0) (Nat.le_refl _) (Nat.le_refl _) ?_
                  refine lv_iadd hx hb dX13_branches_175 ?_
                  refine lv_goto (tgt := 185) hx hb dX13_branches_176 (by decide) ?_
                  refine lv_istore (lv' := [(8, .int ((v.1 0 98) + r108)), (7, .int 1), (6, .int 1), (5, .int 0), (0, .ref (ad 0)), (1, .int pa), (2, .int pb), (3, .int pc1), (4, .int pd)]) hx hb dX13_branches_185 hl (by decide) rfl (fun ls hl => ?_)
                  refine lv_iload hx hb dX13_branches_187 (lv_at hl 0 rfl) ?_
                  refine lv_iconst (v := 3) hx hb dX13_branches_189 (by decide) ?_
                  refine lv_iand hx hb dX13_branches_190 ?_
                  refine lv_if_eq (tgt := 202) hx hb dX13_branches_191 (by decide) (fun h109 => ?_) (fun h109 => ?_)
                  · have z110 : (((v.1 0 98) + r108) &&& (3 : Int32)).toInt = (0 : Int) := eq_z rfl (show (0 : Int32).toInt = (0 : Int) by decide) h109
                    refine lv_aload_n hx hb dX13_branches_202 rfl (lv_at hl 4 rfl) ?_
                    refine lv_iload hx hb dX13_branches_203 (lv_at hl 0 rfl) ?_
                    refine va_put (D := (dC, dI)) (ci := 16) (fs := mF ad v) (v := .int ((v.1 0 98) + r108)) (ty := .int) (C := RX13) (T := TX13) (N := 124) hx hb ht itX13 tyX13 tyX13_ok nmX13 hown hK hP hD hS 0 rfl rfl 98 (by decide) (ht _ tw_208) (fun _ h9 => h9) rfl (by decide +kernel) rfl rfl (Nat.le_of_ble_eq_true rfl) dX13_branches_205 (fun H locs hP hD hS => ?_)
                    have hP := cP_ (mw_98 ad N cI cZ cJ v ((v.1 0 98) + r108)) hP
                    have hD := cD_ (mw_98 ad N cI cZ cJ v ((v.1 0 98) + r108)) hD
                    exact W.vret hx hb hr (fun t ht9 hW => ⟨⟨(wA v 0 98 ((v.1 0 98) + r108)), rfl, (FG.f (FG.rf _) ((v.1 0 98) + r108) (by decide)), by rw [ht9]; exact hP, hD⟩, hS.F ht9⟩) hS.2.2 dX13_branches_208
                  · have z111 : (((v.1 0 98) + r108) &&& (3 : Int32)).toInt ≠ (0 : Int) := ne_z rfl (show (0 : Int32).toInt = (0 : Int) by decide) h109
                    refine lv_aload_n hx hb dX13_branches_194 rfl (lv_at hl 4 rfl) ?_
                    refine lv_iconst (v := 3) hx hb dX13_branches_195 (by decide) ?_
                    refine va_put (D := (dC, dI)) (ci := 16) (fs := mF ad v) (v := .int 3) (ty := .int) (C := RX13) (T := TX13) (N := 124) hx hb ht itX13 tyX13 tyX13_ok nmX13 hown hK hP hD hS 0 rfl rfl 99 (by decide) (ht _ tw_210) (fun _ h9 => h9) rfl (by decide +kernel) rfl rfl (Nat.le_of_ble_eq_true rfl) dX13_branches_196 (fun H locs hP hD hS => ?_)
                    have hP := cP_ (mw_99 ad N cI cZ cJ v 3) hP
                    have hD := cD_ (mw_99 ad N cI cZ cJ v 3) hD
                    refine lv_goto (tgt := 208) hx hb dX13_branches_199 (by decide) ?_
                    exact W.vret hx hb hr (fun t ht9 hW => ⟨⟨(wA v 0 99 3), rfl, (FG.f (FG.rf _) 3 (by decide)), by rw [ht9]; exact hP, hD⟩, hS.F ht9⟩) hS.2.2 dX13_branches_208
                ·
                  by_cases h112 : pb = 6
                  · refine lv_tableIn (off := 99) (tgt := 134) hx hb dX13_branches_35 (by rw [h112]; decide) (by rw [h112]; decide) (by rw [h112]; decide) (by decide) ?_
                    refine lv_iload hx hb dX13_branches_134 (lv_at hl 0 rfl) ?_
                    refine lv_istore (lv' := [(7, .int 1), (6, .int 1), (5, .int 0), (0, .ref (ad 0)), (1, .int pa), (2, .int pb), (3, .int pc1), (4, .int pd)]) hx hb dX13_branches_136 hl (by decide) rfl (fun ls hl => ?_)
                    refine lv_goto (tgt := 162) hx hb dX13_branches_138 (by decide) ?_
                    refine lv_iload hx hb dX13_branches_162 (lv_at hl 0 rfl) ?_
                    refine lv_if_eq (tgt := 179) hx hb dX13_branches_164 (by decide) (fun k113 => absurd k113 (by decide)) (fun _ => ?_)
                    refine lv_aload_n hx hb dX13_branches_167 rfl (lv_at hl 3 rfl) ?_
                    refine va_get (D := (dC, dI)) (ci := 16) (fs := mF ad v) (v := .int (v.1 0 98)) (C := RX13) (T := TX13) (N := 124) hx hb ht itX13 hown hK hP 0 rfl rfl 98 (by decide) (ht _ tw_208) (fun _ h9 => h9) rfl dX13_branches_168 ?_
                    refine lv_iload_n hx hb dX13_branches_171 rfl (lv_at hl 4 rfl) ?_
                    refine cu_s (mW_nd _ _ _ _ _ _) (rn_S (n := 1) (As := [.int pa]) (rest := [.int (v.1 0 98)]) hx hb hml hown ht hKK hFx hP hD hS hA (c_m_imB l dC dI cI cB cZ cJ cR tb s.heap.size pa ) tw_212 tw_213 (by decide +kernel) rfl rfl ⟨Nat.le_of_ble_eq_true rfl, Nat.le_of_ble_eq_true rfl⟩ [] rfl rfl rfl hl.1 rfl (Nat.le_of_ble_eq_true rfl) dX13_branches_172 ⟨Nat.le_of_ble_eq_true rfl, Nat.le_of_ble_eq_true rfl⟩) hP hD hS hA (fun r116 H locs hw114 hP hD hS => ?_)
                    refine W.widen (k := 0) (n := 0) (Nat.le_refl _) (Nat.le_refl _) ?_
                    refine lv_iadd hx hb dX13_branches_175 ?_
                    refine lv_goto (tgt := 185) hx hb dX13_branches_176 (by decide) ?_
                    refine lv_istore (lv' := [(8, .int ((v.1 0 98) + r116)), (7, .int 1), (6, .int 1), (5, .int 0), (0, .ref (ad 0)), (1, .int pa), (2, .int pb), (3, .int pc1), (4, .int pd)]) hx hb dX13_branches_185 hl (by decide) rfl (fun ls hl => ?_)
                    refine lv_iload hx hb dX13_branches_187 (lv_at hl 0 rfl) ?_
                    refine lv_iconst (v := 3) hx hb dX13_branches_189 (by decide) ?_
                    refine lv_iand hx hb dX13_branches_190 ?_
                    refine lv_if_eq (tgt := 202) hx hb dX13_branches_191 (by decide) (fun h117 => ?_) (fun h117 => ?_)
                    · have z118 : (((v.1 0 98) + r116) &&& (3 : Int32)).toInt = (0 : Int) := eq_z rfl (show (0 : Int32).toInt = (0 : Int) by decide) h117
                      refine lv_aload_n hx hb dX13_branches_202 rfl (lv_at hl 4 rfl) ?_
                      refine lv_iload hx hb dX13_branches_203 (lv_at hl 0 rfl) ?_
                      refine va_put (D := (dC, dI)) (ci := 16) (fs := mF ad v) (v := .int ((v.1 0 98) + r116)) (ty := .int) (C := RX13) (T := TX13) (N := 124) hx hb ht itX13 tyX13 tyX13_ok nmX13 hown hK hP hD hS 0 rfl rfl 98 (by decide) (ht _ tw_208) (fun _ h9 => h9) rfl (by decide +kernel) rfl rfl (Nat.le_of_ble_eq_true rfl) dX13_branches_205 (fun H locs hP hD hS => ?_)
                      have hP := cP_ (mw_98 ad N cI cZ cJ v ((v.1 0 98) + r116)) hP
                      have hD := cD_ (mw_98 ad N cI cZ cJ v ((v.1 0 98) + r116)) hD
                      exact W.vret hx hb hr (fun t ht9 hW => ⟨⟨(wA v 0 98 ((v.1 0 98) + r116)), rfl, (FG.f (FG.rf _) ((v.1 0 98) + r116) (by decide)), by rw [ht9]; exact hP, hD⟩, hS.F ht9⟩) hS.2.2 dX13_branches_208
                    · have z119 : (((v.1 0 98) + r116) &&& (3 : Int32)).toInt ≠ (0 : Int) := ne_z rfl (show (0 : Int32).toInt = (0 : Int) by decide) h117
                      refine lv_aload_n hx hb dX13_branches_194 rfl (lv_at hl 4 rfl) ?_
                      refine lv_iconst (v := 3) hx hb dX13_branches_195 (by decide) ?_
                      refine va_put (D := (dC, dI)) (ci := 16) (fs := mF ad v) (v := .int 3) (ty := .int) (C := RX13) (T := TX13) (N := 124) hx hb ht itX13 tyX13 tyX13_ok nmX13 hown hK hP hD hS 0 rfl rfl 99 (by decide) (ht _ tw_210) (fun _ h9 => h9) rfl (by decide +kernel) rfl rfl (Nat.le_of_ble_eq_true rfl) dX13_branches_196 (fun H locs hP hD hS => ?_)
                      have hP := cP_ (mw_99 ad N cI cZ cJ v 3) hP
                      have hD := cD_ (mw_99 ad N cI cZ cJ v 3) hD
                      refine lv_goto (tgt := 208) hx hb dX13_branches_199 (by decide) ?_
                      exact W.vret hx hb hr (fun t ht9 hW => ⟨⟨(wA v 0 99 3), rfl, (FG.f (FG.rf _) 3 (by decide)), by rw [ht9]; exact hP, hD⟩, hS.F ht9⟩) hS.2.2 dX13_branches_208
                  ·
                    by_cases h120 : pb = 7
                    · refine lv_tableIn (off := 106) (tgt := 141) hx hb dX13_branches_35 (by rw [h120]; decide) (by rw [h120]; decide) (by rw [h120]; decide) (by decide) ?_
                      refine lv_iload hx hb dX13_branches_141 (lv_at hl 0 rfl) ?_
                      refine lv_if_ne (tgt := 150) hx hb dX13_branches_143 (by decide) (fun _ => ?_) (fun k121 => absurd k121 (by decide))
                      refine lv_iconst (v := 0) hx hb dX13_branches_150 (by decide) ?_
                      refine lv_istore (lv' := [(7, .int 0), (6, .int 1), (5, .int 0), (0, .ref (ad 0)), (1, .int pa), (2, .int pb), (3, .int pc1), (4, .int pd)]) hx hb dX13_branches_151 hl (by decide) rfl (fun ls hl => ?_)
                      refine lv_goto (tgt := 162) hx hb dX13_branches_153 (by decide) ?_
                      refine lv_iload hx hb dX13_branches_162 (lv_at hl 0 rfl) ?_
                      refine lv_if_eq (tgt := 179) hx hb dX13_branches_164 (by decide) (fun _ => ?_) (fun k122 => absurd k122 (by decide))
                      refine lv_aload_n hx hb dX13_branches_179 rfl (lv_at hl 3 rfl) ?_
                      refine va_get (D := (dC, dI)) (ci := 16) (fs := mF ad v) (v := .int (v.1 0 98)) (C := RX13) (T := TX13) (N := 124) hx hb ht itX13 hown hK hP 0 rfl rfl 98 (by decide) (ht _ tw_208) (fun _ h9 => h9) rfl dX13_branches_180 ?_
                      refine lv_iconst (v := 4) hx hb dX13_branches_183 (by decide) ?_
                      refine lv_iadd hx hb dX13_branches_184 ?_
                      refine lv_istore (lv' := [(8, .int ((v.1 0 98) + (4 : Int32))), (7, .int 0), (6, .int 1), (5, .int 0), (0, .ref (ad 0)), (1, .int pa), (2, .int pb), (3, .int pc1), (4, .int pd)]) hx hb dX13_branches_185 hl (by decide) rfl (fun ls hl => ?_)
                      refine lv_iload hx hb dX13_branches_187 (lv_at hl 0 rfl) ?_
                      refine lv_iconst (v := 3) hx hb dX13_branches_189 (by decide) ?_
                      refine lv_iand hx hb dX13_branches_190 ?_
                      refine lv_if_eq (tgt := 202) hx hb dX13_branches_191 (by decide) (fun h123 => ?_) (fun h123 => ?_)
                      · have z124 : (((v.1 0 98) + (4 : Int32)) &&& (3 : Int32)).toInt = (0 : Int) := eq_z rfl (show (0 : Int32).toInt = (0 : Int) by decide) h123
                        refine lv_aload_n hx hb dX13_branches_202 rfl (lv_at hl 4 rfl) ?_
                        refine lv_iload hx hb dX13_branches_203 (lv_at hl 0 rfl) ?_
                        refine va_put (D := (dC, dI)) (ci := 16) (fs := mF ad v) (v := .int ((v.1 0 98) + (4 : Int32))) (ty := .int) (C := RX13) (T := TX13) (N := 124) hx hb ht itX13 tyX13 tyX13_ok nmX13 hown hK hP hD hS 0 rfl rfl 98 (by decide) (ht _ tw_208) (fun _ h9 => h9) rfl (by decide +kernel) rfl rfl (Nat.le_of_ble_eq_true rfl) dX13_branches_205 (fun H locs hP hD hS => ?_)
                        have hP := cP_ (mw_98 ad N cI cZ cJ v ((v.1 0 98) + (4 : Int32))) hP
                        have hD := cD_ (mw_98 ad N cI cZ cJ v ((v.1 0 98) + (4 : Int32))) hD
                        exact W.vret hx hb hr (fun t ht9 hW => ⟨⟨(wA v 0 98 ((v.1 0 98) + (4 : Int32))), rfl, (FG.f (FG.rf _) ((v.1 0 98) + (4 : Int32)) (by decide)), by rw [ht9]; exact hP, hD⟩, hS.F ht9⟩) hS.2.2 dX13_branches_208
                      · have z125 : (((v.1 0 98) + (4 : Int32)) &&& (3 : Int32)).toInt ≠ (0 : Int) := ne_z rfl (show (0 : Int32).toInt = (0 : Int) by decide) h123
                        refine lv_aload_n hx hb dX13_branches_194 rfl (lv_at hl 4 rfl) ?_
                        refine lv_iconst (v := 3) hx hb dX13_branches_195 (by decide) ?_
                        refine va_put (D := (dC, dI)) (ci := 16) (fs := mF ad v) (v := .int 3) (ty := .int) (C := RX13) (T := TX13) (N := 124) hx hb ht itX13 tyX13 tyX13_ok nmX13 hown hK hP hD hS 0 rfl rfl 99 (by decide) (ht _ tw_210) (fun _ h9 => h9) rfl (by decide +kernel) rfl rfl (Nat.le_of_ble_eq_true rfl) dX13_branches_196 (fun H locs hP hD hS => ?_)
                        have hP := cP_ (mw_99 ad N cI cZ cJ v 3) hP
                        have hD := cD_ (mw_99 ad N cI cZ cJ v 3) hD
                        refine lv_goto (tgt := 208) hx hb dX13_branches_199 (by decide) ?_
                        exact W.vret hx hb hr (fun t ht9 hW => ⟨⟨(wA v 0 99 3), rfl, (FG.f (FG.rf _) 3 (by decide)), by rw [ht9]; exact hP, hD⟩, hS.F ht9⟩) hS.2.2 dX13_branches_208
                    ·
                      refine lv_tableOut (tgt := 156) hx hb dX13_branches_35 (by have := lv_neT h66 (a := 0) (by decide); have := lv_neT h81 (a := 1) (by decide); have := lv_neT h96 (a := 2) (by decide); have := lv_neT h97 (a := 3) (by decide); have := lv_neT h98 (a := 4) (by decide); have := lv_neT h103 (a := 5) (by decide); have := lv_neT h112 (a := 6) (by decide); have := lv_neT h120 (a := 7) (by decide); omega) (by decide) ?_
                      refine lv_aload_n hx hb dX13_branches_156 rfl (lv_at hl 2 rfl) ?_
                      refine lv_iconst (v := 2) hx hb dX13_branches_157 (by decide) ?_
                      refine va_put (D := (dC, dI)) (ci := 16) (fs := mF ad v) (v := .int 2) (ty := .int) (C := RX13) (T := TX13) (N := 124) hx hb ht itX13 tyX13 tyX13_ok nmX13 hown hK hP hD hS 0 rfl rfl 99 (by decide) (ht _ tw_210) (fun _ h9 => h9) rfl (by decide +kernel) rfl rfl (Nat.le_of_ble_eq_true rfl) dX13_branches_158 (fun H locs hP hD hS => ?_)
                      have hP := cP_ (mw_99 ad N cI cZ cJ v 2) hP
                      have hD := cD_ (mw_99 ad N cI cZ cJ v 2) hD
                      exact W.vret hx hb hr (fun t ht9 hW => ⟨⟨(wA v 0 99 2), rfl, (FG.f (FG.rf _) 2 (by decide)), by rw [ht9]; exact hP, hD⟩, hS.F ht9⟩) hS.2.2 dX13_branches_161
  · have z126 : pc1.toInt < pd.toInt := nle_z rfl rfl h1
    refine lv_iconst (v := 1) hx hb dX13_branches_6 (by decide) ?_
    refine lv_goto (tgt := 11) hx hb dX13_branches_7 (by decide) ?_
    refine lv_istore (lv' := [(5, .int 1), (0, .ref (ad 0)), (1, .int pa), (2, .int pb), (3, .int pc1), (4, .int pd)]) hx hb dX13_branches_11 hl (by decide) rfl (fun ls hl => ?_)
    refine lv_iload_n hx hb dX13_branches_13 rfl (lv_at hl 4 rfl) ?_
    refine lv_ldcw (v := -2147483648) hx hb hown (ht _ tw_211) dX13_branches_14 ?_
    refine lv_iadd hx hb dX13_branches_17 ?_
    refine lv_iload hx hb dX13_branches_18 (lv_at hl 5 rfl) ?_
    refine lv_ldcw (v := -2147483648) hx hb hown (ht _ tw_211) dX13_branches_20 ?_
    refine lv_iadd hx hb dX13_branches_23 ?_
    refine lv_icmp_ge (tgt := 31) hx hb dX13_branches_24 (by decide) (fun h127 => ?_) (fun h127 => ?_)
    · have z128 : (pd + ((-2147483648) : Int32)).toInt ≤ (pc1 + ((-2147483648) : Int32)).toInt := le_z rfl rfl h127
      refine lv_iconst (v := 0) hx hb dX13_branches_31 (by decide) ?_
      refine lv_istore (lv' := [(6, .int 0), (5, .int 1), (0, .ref (ad 0)), (1, .int pa), (2, .int pb), (3, .int pc1), (4, .int pd)]) hx hb dX13_branches_32 hl (by decide) rfl (fun ls hl => ?_)
      refine lv_iload_n hx hb dX13_branches_34 rfl (lv_at hl 4 rfl) ?_
      by_cases h129 : pb = 0
      · refine lv_tableIn (off := 45) (tgt := 80) hx hb dX13_branches_35 (by rw [h129]; decide) (by rw [h129]; decide) (by rw [h129]; decide) (by decide) ?_
        refine lv_iload_n hx hb dX13_branches_80 rfl (lv_at hl 5 rfl) ?_
        refine lv_iload hx hb dX13_branches_81 (lv_at hl 6 rfl) ?_
        refine lv_icmp_ne (tgt := 90) hx hb dX13_branches_83 (by decide) (fun h130 => ?_) (fun h130 => ?_)
        · have z131 : pc1.toInt ≠ pd.toInt := ne_z rfl rfl h130
          refine lv_iconst (v := 0) hx hb dX13_branches_90 (by decide) ?_
          refine lv_istore (lv' := [(7, .int 0), (6, .int 0), (5, .int 1), (0, .ref (ad 0)), (1, .int pa), (2, .int pb), (3, .int pc1), (4, .int pd)]) hx hb dX13_branches_91 hl (by decide) rfl (fun ls hl => ?_)
          refine lv_goto (tgt := 162) hx hb dX13_branches_93 (by decide) ?_
          refine lv_iload hx hb dX13_branches_162 (lv_at hl 0 rfl) ?_
          refine lv_if_eq (tgt := 179) hx hb dX13_branches_164 (by decide) (fun _ => ?_) (fun k132 => absurd k132 (by decide))
          refine lv_aload_n hx hb dX13_branches_179 rfl (lv_at hl 3 rfl) ?_
          refine va_get (D := (dC, dI)) (ci := 16) (fs := mF ad v) (v := .int (v.1 0 98)) (C := RX13) (T := TX13) (N := 124) hx hb ht itX13 hown hK hP 0 rfl rfl 98 (by decide) (ht _ tw_208) (fun _ h9 => h9) rfl dX13_branches_180 ?_
          refine lv_iconst (v := 4) hx hb dX13_branches_183 (by decide) ?_
          refine lv_iadd hx hb dX13_branches_184 ?_
          refine lv_istore (lv' := [(8, .int ((v.1 0 98) + (4 : Int32))), (7, .int 0), (6, .int 0), (5, .int 1), (0, .ref (ad 0)), (1, .int pa), (2, .int pb), (3, .int pc1), (4, .int pd)]) hx hb dX13_branches_185 hl (by decide) rfl (fun ls hl => ?_)
          refine lv_iload hx hb dX13_branches_187 (lv_at hl 0 rfl) ?_
          refine lv_iconst (v := 3) hx hb dX13_branches_189 (by decide) ?_
          refine lv_iand hx hb dX13_branches_190 ?_
          refine lv_if_eq (tgt := 202) hx hb dX13_branches_191 (by decide) (fun h133 => ?_) (fun h133 => ?_)
          · have z134 : (((v.1 0 98) + (4 : Int32)) &&& (3 : Int32)).toInt = (0 : Int) := eq_z rfl (show (0 : Int32).toInt = (0 : Int) by decide) h133
            refine lv_aload_n hx hb dX13_branches_202 rfl (lv_at hl 4 rfl) ?_
            refine lv_iload hx hb dX13_branches_203 (lv_at hl 0 rfl) ?_
            refine va_put (D := (dC, dI)) (ci := 16) (fs := mF ad v) (v := .int ((v.1 0 98) + (4 : Int32))) (ty := .int) (C := RX13) (T := TX13) (N := 124) hx hb ht itX13 tyX13 tyX13_ok nmX13 hown hK hP hD hS 0 rfl rfl 98 (by decide) (ht _ tw_208) (fun _ h9 => h9) rfl (by decide +kernel) rfl rfl (Nat.le_of_ble_eq_true rfl) dX13_branches_205 (fun H locs hP hD hS => ?_)
            have hP := cP_ (mw_98 ad N cI cZ cJ v ((v.1 0 98) + (4 : Int32))) hP
            have hD := cD_ (mw_98 ad N cI cZ cJ v ((v.1 0 98) + (4 : Int32))) hD
            exact W.vret hx hb hr (fun t ht9 hW => ⟨⟨(wA v 0 98 ((v.1 0 98) + (4 : Int32))), rfl, (FG.f (FG.rf _) ((v.1 0 98) + (4 : Int32)) (by decide)), by rw [ht9]; exact hP, hD⟩, hS.F ht9⟩) hS.2.2 dX13_branches_208
          · have z135 : (((v.1 0 98) + (4 : Int32)) &&& (3 : Int32)).toInt ≠ (0 : Int) := ne_z rfl (show (0 : Int32).toInt = (0 : Int) by decide) h133
            refine lv_aload_n hx hb dX13_branches_194 rfl (lv_at hl 4 rfl) ?_
            refine lv_iconst (v := 3) hx hb dX13_branches_195 (by decide) ?_
            refine va_put (D := (dC, dI)) (ci := 16) (fs := mF ad v) (v := .int 3) (ty := .int) (C := RX13) (T := TX13) (N := 124) hx hb ht itX13 tyX13 tyX13_ok nmX13 hown hK hP hD hS 0 rfl rfl 99 (by decide) (ht _ tw_210) (fun _ h9 => h9) rfl (by decide +kernel) rfl rfl (Nat.le_of_ble_eq_true rfl) dX13_branches_196 (fun H locs hP hD hS => ?_)
            have hP := cP_ (mw_99 ad N cI cZ cJ v 3) hP
            have hD := cD_ (mw_99 ad N cI cZ cJ v 3) hD
            refine lv_goto (tgt := 208) hx hb dX13_branches_199 (by decide) ?_
            exact W.vret hx hb hr (fun t ht9 hW => ⟨⟨(wA v 0 99 3), rfl, (FG.f (FG.rf _) 3 (by decide)), by rw [ht9]; exact hP, hD⟩, hS.F ht9⟩) hS.2.2 dX13_branches_208
        · have z136 : pc1.toInt = pd.toInt := eq_z rfl rfl h130
          exact False.elim (om_4eca77726f z126 z136)
      ·
        by_cases h137 : pb = 1
        · refine lv_tableIn (off := 61) (tgt := 96) hx hb dX13_branches_35 (by rw [h137]; decide) (by rw [h137]; decide) (by rw [h137]; decide) (by decide) ?_
          refine lv_iload_n hx hb dX13_branches_96 rfl (lv_at hl 5 rfl) ?_
          refine lv_iload hx hb dX13_branches_97 (lv_at hl 6 rfl) ?_
          refine lv_icmp_eq (tgt := 106) hx hb dX13_branches_99 (by decide) (fun h138 => ?_) (fun h138 => ?_)
          · have z139 : pc1.toInt = pd.toInt := eq_z rfl rfl h138
            exact False.elim (om_4eca77726f z126 z139)
          · have z140 : pc1.toInt ≠ pd.toInt := ne_z rfl rfl h138
            refine lv_iconst (v := 1) hx hb dX13_branches_102 (by decide) ?_
            refine lv_goto (tgt := 107) hx hb dX13_branches_103 (by decide) ?_
            refine lv_istore (lv' := [(7, .int 1), (6, .int 0), (5, .int 1), (0, .ref (ad 0)), (1, .int pa), (2, .int pb), (3, .int pc1), (4, .int pd)]) hx hb dX13_branches_107 hl (by decide) rfl (fun ls hl => ?_)
            refine lv_goto (tgt := 162) hx hb dX13_branches_109 (by decide) ?_
            refine lv_iload hx hb dX13_branches_162 (lv_at hl 0 rfl) ?_
            refine lv_if_eq (tgt := 179) hx hb dX13_branches_164 (by decide) (fun k141 => absurd k141 (by decide)) (fun _ => ?_)
            refine lv_aload_n hx hb dX13_branches_167 rfl (lv_at hl 3 rfl) ?_
            refine va_get (D := (dC, dI)) (ci := 16) (fs := mF ad v) (v := .int (v.1 0 98)) (C := RX13) (T := TX13) (N := 124) hx hb ht itX13 hown hK hP 0 rfl rfl 98 (by decide) (ht _ tw_208) (fun _ h9 => h9) rfl dX13_branches_168 ?_
            refine lv_iload_n hx hb dX13_branches_171 rfl (lv_at hl 4 rfl) ?_
            refine cu_s (mW_nd _ _ _ _ _ _) (rn_S (n := 1) (As := [.int pa]) (rest := [.int (v.1 0 98)]) hx hb hml hown ht hKK hFx hP hD hS hA (c_m_imB l dC dI cI cB cZ cJ cR tb s.heap.size pa ) tw_212 tw_213 (by decide +kernel) rfl rfl ⟨Nat.le_of_ble_eq_true rfl, Nat.le_of_ble_eq_true rfl⟩ [] rfl rfl rfl hl.1 rfl (Nat.le_of_ble_eq_true rfl) dX13_branches_172 ⟨Nat.le_of_ble_eq_true rfl, Nat.le_of_ble_eq_true rfl⟩) hP hD hS hA (fun r144 H locs hw142 hP hD hS => ?_)
            refine W.widen (k := 0) (n := 0) (Nat.le_refl _) (Nat.le_refl _) ?_
            refine lv_iadd hx hb dX13_branches_175 ?_
            refine lv_goto (tgt := 185) hx hb dX13_branches_176 (by decide) ?_
            refine lv_istore (lv' := [(8, .int ((v.1 0 98) + r144)), (7, .int 1), (6, .int 0), (5, .int 1), (0, .ref (ad 0)), (1, .int pa), (2, .int pb), (3, .int pc1), (4, .int pd)]) hx hb dX13_branches_185 hl (by decide) rfl (fun ls hl => ?_)
            refine lv_iload hx hb dX13_branches_187 (lv_at hl 0 rfl) ?_
            refine lv_iconst (v := 3) hx hb dX13_branches_189 (by decide) ?_
            refine lv_iand hx hb dX13_branches_190 ?_
            refine lv_if_eq (tgt := 202) hx hb dX13_branches_191 (by decide) (fun h145 => ?_) (fun h145 => ?_)
            · have z146 : (((v.1 0 98) + r144) &&& (3 : Int32)).toInt = (0 : Int) := eq_z rfl (show (0 : Int32).toInt = (0 : Int) by decide) h145
              refine lv_aload_n hx hb dX13_branches_202 rfl (lv_at hl 4 rfl) ?_
              refine lv_iload hx hb dX13_branches_203 (lv_at hl 0 rfl) ?_
              refine va_put (D := (dC, dI)) (ci := 16) (fs := mF ad v) (v := .int ((v.1 0 98) + r144)) (ty := .int) (C := RX13) (T := TX13) (N := 124) hx hb ht itX13 tyX13 tyX13_ok nmX13 hown hK hP hD hS 0 rfl rfl 98 (by decide) (ht _ tw_208) (fun _ h9 => h9) rfl (by decide +kernel) rfl rfl (Nat.le_of_ble_eq_true rfl) dX13_branches_205 (fun H locs hP hD hS => ?_)
              have hP := cP_ (mw_98 ad N cI cZ cJ v ((v.1 0 98) + r144)) hP
              have hD := cD_ (mw_98 ad N cI cZ cJ v ((v.1 0 98) + r144)) hD
              exact W.vret hx hb hr (fun t ht9 hW => ⟨⟨(wA v 0 98 ((v.1 0 98) + r144)), rfl, (FG.f (FG.rf _) ((v.1 0 98) + r144) (by decide)), by rw [ht9]; exact hP, hD⟩, hS.F ht9⟩) hS.2.2 dX13_branches_208
            · have z147 : (((v.1 0 98) + r144) &&& (3 : Int32)).toInt ≠ (0 : Int) := ne_z rfl (show (0 : Int32).toInt = (0 : Int) by decide) h145
              refine lv_aload_n hx hb dX13_branches_194 rfl (lv_at hl 4 rfl) ?_
              refine lv_iconst (v := 3) hx hb dX13_branches_195 (by decide) ?_
              refine va_put (D := (dC, dI)) (ci := 16) (fs := mF ad v) (v := .int 3) (ty := .int) (C := RX13) (T := TX13) (N := 124) hx hb ht itX13 tyX13 tyX13_ok nmX13 hown hK hP hD hS 0 rfl rfl 99 (by decide) (ht _ tw_210) (fun _ h9 => h9) rfl (by decide +kernel) rfl rfl (Nat.le_of_ble_eq_true rfl) dX13_branches_196 (fun H locs hP hD hS => ?_)
              have hP := cP_ (mw_99 ad N cI cZ cJ v 3) hP
              have hD := cD_ (mw_99 ad N cI cZ cJ v 3) hD
              refine lv_goto (tgt := 208) hx hb dX13_branches_199 (by decide) ?_
              exact W.vret hx hb hr (fun t ht9 hW => ⟨⟨(wA v 0 99 3), rfl, (FG.f (FG.rf _) 3 (by decide)), by rw [ht9]; exact hP, hD⟩, hS.F ht9⟩) hS.2.2 dX13_branches_208
        ·
          by_cases h148 : pb = 2
          · refine lv_tableIn (off := 121) (tgt := 156) hx hb dX13_branches_35 (by rw [h148]; decide) (by rw [h148]; decide) (by rw [h148]; decide) (by decide) ?_
            refine lv_aload_n hx hb dX13_branches_156 rfl (lv_at hl 2 rfl) ?_
            refine lv_iconst (v := 2) hx hb dX13_branches_157 (by decide) ?_
            refine va_put (D := (dC, dI)) (ci := 16) (fs := mF ad v) (v := .int 2) (ty := .int) (C := RX13) (T := TX13) (N := 124) hx hb ht itX13 tyX13 tyX13_ok nmX13 hown hK hP hD hS 0 rfl rfl 99 (by decide) (ht _ tw_210) (fun _ h9 => h9) rfl (by decide +kernel) rfl rfl (Nat.le_of_ble_eq_true rfl) dX13_branches_158 (fun H locs hP hD hS => ?_)
            have hP := cP_ (mw_99 ad N cI cZ cJ v 2) hP
            have hD := cD_ (mw_99 ad N cI cZ cJ v 2) hD
            exact W.vret hx hb hr (fun t ht9 hW => ⟨⟨(wA v 0 99 2), rfl, (FG.f (FG.rf _) 2 (by decide)), by rw [ht9]; exact hP, hD⟩, hS.F ht9⟩) hS.2.2 dX13_branches_161
          ·
            by_cases h149 : pb = 3
            · refine lv_tableIn (off := 121) (tgt := 156) hx hb dX13_branches_35 (by rw [h149]; decide) (by rw [h149]; decide) (by rw [h149]; decide) (by decide) ?_
              refine lv_aload_n hx hb dX13_branches_156 rfl (lv_at hl 2 rfl) ?_
              refine lv_iconst (v := 2) hx hb dX13_branches_157 (by decide) ?_
              refine va_put (D := (dC, dI)) (ci := 16) (fs := mF ad v) (v := .int 2) (ty := .int) (C := RX13) (T := TX13) (N := 124) hx hb ht itX13 tyX13 tyX13_ok nmX13 hown hK hP hD hS 0 rfl rfl 99 (by decide) (ht _ tw_210) (fun _ h9 => h9) rfl (by decide +kernel) rfl rfl (Nat.le_of_ble_eq_true rfl) dX13_branches_158 (fun H locs hP hD hS => ?_)
              have hP := cP_ (mw_99 ad N cI cZ cJ v 2) hP
              have hD := cD_ (mw_99 ad N cI cZ cJ v 2) hD
              exact W.vret hx hb hr (fun t ht9 hW => ⟨⟨(wA v 0 99 2), rfl, (FG.f (FG.rf _) 2 (by decide)), by rw [ht9]; exact hP, hD⟩, hS.F ht9⟩) hS.2.2 dX13_branches_161
            ·
              by_cases h150 : pb = 4
              · refine lv_tableIn (off := 77) (tgt := 112) hx hb dX13_branches_35 (by rw [h150]; decide) (by rw [h150]; decide) (by rw [h150]; decide) (by decide) ?_
                refine lv_iload hx hb dX13_branches_112 (lv_at hl 1 rfl) ?_
                refine lv_istore (lv' := [(7, .int 1), (6, .int 0), (5, .int 1), (0, .ref (ad 0)), (1, .int pa), (2, .int pb), (3, .int pc1), (4, .int pd)]) hx hb dX13_branches_114 hl (by decide) rfl (fun ls hl => ?_)
                refine lv_goto (tgt := 162) hx hb dX13_branches_116 (by decide) ?_
                refine lv_iload hx hb dX13_branches_162 (lv_at hl 0 rfl) ?_
                refine lv_if_eq (tgt := 179) hx hb dX13_branches_164 (by decide) (fun k151 => absurd k151 (by decide)) (fun _ => ?_)
                refine lv_aload_n hx hb dX13_branches_167 rfl (lv_at hl 3 rfl) ?_
                refine va_get (D := (dC, dI)) (ci := 16) (fs := mF ad v) (v := .int (v.1 0 98)) (C := RX13) (T := TX13) (N := 124) hx hb ht itX13 hown hK hP 0 rfl rfl 98 (by decide) (ht _ tw_208) (fun _ h9 => h9) rfl dX13_branches_168 ?_
                refine lv_iload_n hx hb dX13_branches_171 rfl (lv_at hl 4 rfl) ?_
                refine cu_s (mW_nd _ _ _ _ _ _) (rn_S (n := 1) (As := [.int pa]) (rest := [.int (v.1 0 98)]) hx hb hml hown ht hKK hFx hP hD hS hA (c_m_imB l dC dI cI cB cZ cJ cR tb s.heap.size pa ) tw_212 tw_213 (by decide +kernel) rfl rfl ⟨Nat.le_of_ble_eq_true rfl, Nat.le_of_ble_eq_true rfl⟩ [] rfl rfl rfl hl.1 rfl (Nat.le_of_ble_eq_true rfl) dX13_branches_172 ⟨Nat.le_of_ble_eq_true rfl, Nat.le_of_ble_eq_true rfl⟩) hP hD hS hA (fun r154 H locs hw152 hP hD hS => ?_)
                refine W.widen (k := 0) (n := 0) (Nat.le_refl _) (Nat.le_refl _) ?_
                refine lv_iadd hx hb dX13_branches_175 ?_
                refine lv_goto (tgt := 185) hx hb dX13_branches_176 (by decide) ?_
                refine lv_istore (lv' := [(8, .int ((v.1 0 98) + r154)), (7, .int 1), (6, .int 0), (5, .int 1), (0, .ref (ad 0)), (1, .int pa), (2, .int pb), (3, .int pc1), (4, .int pd)]) hx hb dX13_branches_185 hl (by decide) rfl (fun ls hl => ?_)
                refine lv_iload hx hb dX13_branches_187 (lv_at hl 0 rfl) ?_
                refine lv_iconst (v := 3) hx hb dX13_branches_189 (by decide) ?_
                refine lv_iand hx hb dX13_branches_190 ?_
                refine lv_if_eq (tgt := 202) hx hb dX13_branches_191 (by decide) (fun h155 => ?_) (fun h155 => ?_)
                · have z156 : (((v.1 0 98) + r154) &&& (3 : Int32)).toInt = (0 : Int) := eq_z rfl (show (0 : Int32).toInt = (0 : Int) by decide) h155
                  refine lv_aload_n hx hb dX13_branches_202 rfl (lv_at hl 4 rfl) ?_
                  refine lv_iload hx hb dX13_branches_203 (lv_at hl 0 rfl) ?_
                  refine va_put (D := (dC, dI)) (ci := 16) (fs := mF ad v) (v := .int ((v.1 0 98) + r154)) (ty := .int) (C := RX13) (T := TX13) (N := 124) hx hb ht itX13 tyX13 tyX13_ok nmX13 hown hK hP hD hS 0 rfl rfl 98 (by decide) (ht _ tw_208) (fun _ h9 => h9) rfl (by decide +kernel) rfl rfl (Nat.le_of_ble_eq_true rfl) dX13_branches_205 (fun H locs hP hD hS => ?_)
                  have hP := cP_ (mw_98 ad N cI cZ cJ v ((v.1 0 98) + r154)) hP
                  have hD := cD_ (mw_98 ad N cI cZ cJ v ((v.1 0 98) + r154)) hD
                  exact W.vret hx hb hr (fun t ht9 hW => ⟨⟨(wA v 0 98 ((v.1 0 98) + r154)), rfl, (FG.f (FG.rf _) ((v.1 0 98) + r154) (by decide)), by rw [ht9]; exact hP, hD⟩, hS.F ht9⟩) hS.2.2 dX13_branches_208
                · have z157 : (((v.1 0 98) + r154) &&& (3 : Int32)).toInt ≠ (0 : Int) := ne_z rfl (show (0 : Int32).toInt = (0 : Int) by decide) h155
                  refine lv_aload_n hx hb dX13_branches_194 rfl (lv_at hl 4 rfl) ?_
                  refine lv_iconst (v := 3) hx hb dX13_branches_195 (by decide) ?_
                  refine va_put (D := (dC, dI)) (ci := 16) (fs := mF ad v) (v := .int 3) (ty := .int) (C := RX13) (T := TX13) (N := 124) hx hb ht itX13 tyX13 tyX13_ok nmX13 hown hK hP hD hS 0 rfl rfl 99 (by decide) (ht _ tw_210) (fun _ h9 => h9) rfl (by decide +kernel) rfl rfl (Nat.le_of_ble_eq_true rfl) dX13_branches_196 (fun H locs hP hD hS => ?_)
                  have hP := cP_ (mw_99 ad N cI cZ cJ v 3) hP
                  have hD := cD_ (mw_99 ad N cI cZ cJ v 3) hD
                  refine lv_goto (tgt := 208) hx hb dX13_branches_199 (by decide) ?_
                  exact W.vret hx hb hr (fun t ht9 hW => ⟨⟨(wA v 0 99 3), rfl, (FG.f (FG.rf _) 3 (by decide)), by rw [ht9]; exact hP, hD⟩, hS.F ht9⟩) hS.2.2 dX13_branches_208
              ·
                by_cases h158 : pb = 5
                · refine lv_tableIn (off := 84) (tgt := 119) hx hb dX13_branches_35 (by rw [h158]; decide) (by rw [h158]; decide) (by rw [h158]; decide) (by decide) ?_
                  refine lv_iload hx hb dX13_branches_119 (lv_at hl 1 rfl) ?_
                  refine lv_if_ne (tgt := 128) hx hb dX13_branches_121 (by decide) (fun _ => ?_) (fun k159 => absurd k159 (by decide))
                  refine lv_iconst (v := 0) hx hb dX13_branches_128 (by decide) ?_
                  refine lv_istore (lv' := [(7, .int 0), (6, .int 0), (5, .int 1), (0, .ref (ad 0)), (1, .int pa), (2, .int pb), (3, .int pc1), (4, .int pd)]) hx hb dX13_branches_129 hl (by decide) rfl (fun ls hl => ?_)
                  refine lv_goto (tgt := 162) hx hb dX13_branches_131 (by decide) ?_
                  refine lv_iload hx hb dX13_branches_162 (lv_at hl 0 rfl) ?_
                  refine lv_if_eq (tgt := 179) hx hb dX13_branches_164 (by decide) (fun _ => ?_) (fun k160 => absurd k160 (by decide))
                  refine lv_aload_n hx hb dX13_branches_179 rfl (lv_at hl 3 rfl) ?_
                  refine va_get (D := (dC, dI)) (ci := 16) (fs := mF ad v) (v := .int (v.1 0 98)) (C := RX13) (T := TX13) (N := 124) hx hb ht itX13 hown hK hP 0 rfl rfl 98 (by decide) (ht _ tw_208) (fun _ h9 => h9) rfl dX13_branches_180 ?_
                  refine lv_iconst (v := 4) hx hb dX13_branches_183 (by decide) ?_
                  refine lv_iadd hx hb dX13_branches_184 ?_
                  refine lv_istore (lv' := [(8, .int ((v.1 0 98) + (4 : Int32))), (7, .int 0), (6, .int 0), (5, .int 1), (0, .ref (ad 0)), (1, .int pa), (2, .int pb), (3, .int pc1), (4, .int pd)]) hx hb dX13_branches_185 hl (by decide) rfl (fun ls hl => ?_)
                  refine lv_iload hx hb dX13_branches_187 (lv_at hl 0 rfl) ?_
                  refine lv_iconst (v := 3) hx hb dX13_branches_189 (by decide) ?_
                  refine lv_iand hx hb dX13_branches_190 ?_
                  refine lv_if_eq (tgt := 202) hx hb dX13_branches_191 (by decide) (fun h161 => ?_) (fun h161 => ?_)
                  · have z162 : (((v.1 0 98) + (4 : Int32)) &&& (3 : Int32)).toInt = (0 : Int) := eq_z rfl (show (0 : Int32).toInt = (0 : Int) by decide) h161
                    refine lv_aload_n hx hb dX13_branches_202 rfl (lv_at hl 4 rfl) ?_
                    refine lv_iload hx hb dX13_branches_203 (lv_at hl 0 rfl) ?_
                    refine va_put (D := (dC, dI)) (ci := 16) (fs := mF ad v) (v := .int ((v.1 0 98) + (4 : Int32))) (ty := .int) (C := RX13) (T := TX13) (N := 124) hx hb ht itX13 tyX13 tyX13_ok nmX13 hown hK hP hD hS 0 rfl rfl 98 (by decide) (ht _ tw_208) (fun _ h9 => h9) rfl (by decide +kernel) rfl rfl (Nat.le_of_ble_eq_true rfl) dX13_branches_205 (fun H locs hP hD hS => ?_)
                    have hP := cP_ (mw_98 ad N cI cZ cJ v ((v.1 0 98) + (4 : Int32))) hP
                    have hD := cD_ (mw_98 ad N cI cZ cJ v ((v.1 0 98) + (4 : Int32))) hD
                    exact W.vret hx hb hr (fun t ht9 hW => ⟨⟨(wA v 0 98 ((v.1 0 98) + (4 : Int32))), rfl, (FG.f (FG.rf _) ((v.1 0 98) + (4 : Int32)) (by decide)), by rw [ht9]; exact hP, hD⟩, hS.F ht9⟩) hS.2.2 dX13_branches_208
                  · have z163 : (((v.1 0 98) + (4 : Int32)) &&& (3 : Int32)).toInt ≠ (0 : Int) := ne_z rfl (show (0 : Int32).toInt = (0 : Int) by decide) h161
                    refine lv_aload_n hx hb dX13_branches_194 rfl (lv_at hl 4 rfl) ?_
                    refine lv_iconst (v := 3) hx hb dX13_branches_195 (by decide) ?_
                    refine va_put (D := (dC, dI)) (ci := 16) (fs := mF ad v) (v := .int 3) (ty := .int) (C := RX13) (T := TX13) (N := 124) hx hb ht itX13 tyX13 tyX13_ok nmX13 hown hK hP hD hS 0 rfl rfl 99 (by decide) (ht _ tw_210) (fun _ h9 => h9) rfl (by decide +kernel) rfl rfl (Nat.le_of_ble_eq_true rfl) dX13_branches_196 (fun H locs hP hD hS => ?_)
                    have hP := cP_ (mw_99 ad N cI cZ cJ v 3) hP
                    have hD := cD_ (mw_99 ad N cI cZ cJ v 3) hD
                    refine lv_goto (tgt := 208) hx hb dX13_branches_199 (by decide) ?_
                    exact W.vret hx hb hr (fun t ht9 hW => ⟨⟨(wA v 0 99 3), rfl, (FG.f (FG.rf _) 3 (by decide)), by rw [ht9]; exact hP, hD⟩, hS.F ht9⟩) hS.2.2 dX13_branches_208
                ·
                  by_cases h164 : pb = 6
                  · refine lv_tableIn (off := 99) (tgt := 134) hx hb dX13_branches_35 (by rw [h164]; decide) (by rw [h164]; decide) (by rw [h164]; decide) (by decide) ?_
                    refine lv_iload hx hb dX13_branches_134 (lv_at hl 0 rfl) ?_
                    refine lv_istore (lv' := [(7, .int 0), (6, .int 0), (5, .int 1), (0, .ref (ad 0)), (1, .int pa), (2, .int pb), (3, .int pc1), (4, .int pd)]) hx hb dX13_branches_136 hl (by decide) rfl (fun ls hl => ?_)
                    refine lv_goto (tgt := 162) hx hb dX13_branches_138 (by decide) ?_
                    refine lv_iload hx hb dX13_branches_162 (lv_at hl 0 rfl) ?_
                    refine lv_if_eq (tgt := 179) hx hb dX13_branches_164 (by decide) (fun _ => ?_) (fun k165 => absurd k165 (by decide))
                    refine lv_aload_n hx hb dX13_branches_179 rfl (lv_at hl 3 rfl) ?_
                    refine va_get (D := (dC, dI)) (ci := 16) (fs := mF ad v) (v := .int (v.1 0 98)) (C := RX13) (T := TX13) (N := 124) hx hb ht itX13 hown hK hP 0 rfl rfl 98 (by decide) (ht _ tw_208) (fun _ h9 => h9) rfl dX13_branches_180 ?_
                    refine lv_iconst (v := 4) hx hb dX13_branches_183 (by decide) ?_
                    refine lv_iadd hx hb dX13_branches_184 ?_
                    refine lv_istore (lv' := [(8, .int ((v.1 0 98) + (4 : Int32))), (7, .int 0), (6, .int 0), (5, .int 1), (0, .ref (ad 0)), (1, .int pa), (2, .int pb), (3, .int pc1), (4, .int pd)]) hx hb dX13_branches_185 hl (by decide) rfl (fun ls hl => ?_)
                    refine lv_iload hx hb dX13_branches_187 (lv_at hl 0 rfl) ?_
                    refine lv_iconst (v := 3) hx hb dX13_branches_189 (by decide) ?_
                    refine lv_iand hx hb dX13_branches_190 ?_
                    refine lv_if_eq (tgt := 202) hx hb dX13_branches_191 (by decide) (fun h166 => ?_) (fun h166 => ?_)
                    · have z167 : (((v.1 0 98) + (4 : Int32)) &&& (3 : Int32)).toInt = (0 : Int) := eq_z rfl (show (0 : Int32).toInt = (0 : Int) by decide) h166
                      refine lv_aload_n hx hb dX13_branches_202 rfl (lv_at hl 4 rfl) ?_
                      refine lv_iload hx hb dX13_branches_203 (lv_at hl 0 rfl) ?_
                      refine va_put (D := (dC, dI)) (ci := 16) (fs := mF ad v) (v := .int ((v.1 0 98) + (4 : Int32))) (ty := .int) (C := RX13) (T := TX13) (N := 124) hx hb ht itX13 tyX13 tyX13_ok nmX13 hown hK hP hD hS 0 rfl rfl 98 (by decide) (ht _ tw_208) (fun _ h9 => h9) rfl (by decide +kernel) rfl rfl (Nat.le_of_ble_eq_true rfl) dX13_branches_205 (fun H locs hP hD hS => ?_)
                      have hP := cP_ (mw_98 ad N cI cZ cJ v ((v.1 0 98) + (4 : Int32))) hP
                      have hD := cD_ (mw_98 ad N cI cZ cJ v ((v.1 0 98) + (4 : Int32))) hD
                      exact W.vret hx hb hr (fun t ht9 hW => ⟨⟨(wA v 0 98 ((v.1 0 98) + (4 : Int32))), rfl, (FG.f (FG.rf _) ((v.1 0 98) + (4 : Int32)) (by decide)), by rw [ht9]; exact hP, hD⟩, hS.F ht9⟩) hS.2.2 dX13_branches_208
                    · have z168 : (((v.1 0 98) + (4 : Int32)) &&& (3 : Int32)).toInt ≠ (0 : Int) := ne_z rfl (show (0 : Int32).toInt = (0 : Int) by decide) h166
                      refine lv_aload_n hx hb dX13_branches_194 rfl (lv_at hl 4 rfl) ?_
                      refine lv_iconst (v := 3) hx hb dX13_branches_195 (by decide) ?_
                      refine va_put (D := (dC, dI)) (ci := 16) (fs := mF ad v) (v := .int 3) (ty := .int) (C := RX13) (T := TX13) (N := 124) hx hb ht itX13 tyX13 tyX13_ok nmX13 hown hK hP hD hS 0 rfl rfl 99 (by decide) (ht _ tw_210) (fun _ h9 => h9) rfl (by decide +kernel) rfl rfl (Nat.le_of_ble_eq_true rfl) dX13_branches_196 (fun H locs hP hD hS => ?_)
                      have hP := cP_ (mw_99 ad N cI cZ cJ v 3) hP
                      have hD := cD_ (mw_99 ad N cI cZ cJ v 3) hD
                      refine lv_goto (tgt := 208) hx hb dX13_branches_199 (by decide) ?_
                      exact W.vret hx hb hr (fun t ht9 hW => ⟨⟨(wA v 0 99 3), rfl, (FG.f (FG.rf _) 3 (by decide)), by rw [ht9]; exact hP, hD⟩, hS.F ht9⟩) hS.2.2 dX13_branches_208
                  ·
                    by_cases h169 : pb = 7
                    · refine lv_tableIn (off := 106) (tgt := 141) hx hb dX13_branches_35 (by rw [h169]; decide) (by rw [h169]; decide) (by rw [h169]; decide) (by decide) ?_
                      refine lv_iload hx hb dX13_branches_141 (lv_at hl 0 rfl) ?_
                      refine lv_if_ne (tgt := 150) hx hb dX13_branches_143 (by decide) (fun k170 => absurd k170 (by decide)) (fun _ => ?_)
                      refine lv_iconst (v := 1) hx hb dX13_branches_146 (by decide) ?_
                      refine lv_goto (tgt := 151) hx hb dX13_branches_147 (by decide) ?_
                      refine lv_istore (lv' := [(7, .int 1), (6, .int 0), (5, .int 1), (0, .ref (ad 0)), (1, .int pa), (2, .int pb), (3, .int pc1), (4, .int pd)]) hx hb dX13_branches_151 hl (by decide) rfl (fun ls hl => ?_)
                      refine lv_goto (tgt := 162) hx hb dX13_branches_153 (by decide) ?_
                      refine lv_iload hx hb dX13_branches_162 (lv_at hl 0 rfl) ?_
                      refine lv_if_eq (tgt := 179) hx hb dX13_branches_164 (by decide) (fun k171 => absurd k171 (by decide)) (fun _ => ?_)
                      refine lv_aload_n hx hb dX13_branches_167 rfl (lv_at hl 3 rfl) ?_
                      refine va_get (D := (dC, dI)) (ci := 16) (fs := mF ad v) (v := .int (v.1 0 98)) (C := RX13) (T := TX13) (N := 124) hx hb ht itX13 hown hK hP 0 rfl rfl 98 (by decide) (ht _ tw_208) (fun _ h9 => h9) rfl dX13_branches_168 ?_
                      refine lv_iload_n hx hb dX13_branches_171 rfl (lv_at hl 4 rfl) ?_
                      refine cu_s (mW_nd _ _ _ _ _ _) (rn_S (n := 1) (As := [.int pa]) (rest := [.int (v.1 0 98)]) hx hb hml hown ht hKK hFx hP hD hS hA (c_m_imB l dC dI cI cB cZ cJ cR tb s.heap.size pa ) tw_212 tw_213 (by decide +kernel) rfl rfl ⟨Nat.le_of_ble_eq_true rfl, Nat.le_of_ble_eq_true rfl⟩ [] rfl rfl rfl hl.1 rfl (Nat.le_of_ble_eq_true rfl) dX13_branches_172 ⟨Nat.le_of_ble_eq_true rfl, Nat.le_of_ble_eq_true rfl⟩) hP hD hS hA (fun r174 H locs hw172 hP hD hS => ?_)
                      refine W.widen (k := 0) (n := 0) (Nat.le_refl _) (Nat.le_refl _) ?_
                      refine lv_iadd hx hb dX13_branches_175 ?_
                      refine lv_goto (tgt := 185) hx hb dX13_branches_176 (by decide) ?_
                      refine lv_istore (lv' := [(8, .int ((v.1 0 98) + r174)), (7, .int 1), (6, .int 0), (5, .int 1), (0, .ref (ad 0)), (1, .int pa), (2, .int pb), (3, .int pc1), (4, .int pd)]) hx hb dX13_branches_185 hl (by decide) rfl (fun ls hl => ?_)
                      refine lv_iload hx hb dX13_branches_187 (lv_at hl 0 rfl) ?_
                      refine lv_iconst (v := 3) hx hb dX13_branches_189 (by decide) ?_
                      refine lv_iand hx hb dX13_branches_190 ?_
                      refine lv_if_eq (tgt := 202) hx hb dX13_branches_191 (by decide) (fun h175 => ?_) (fun h175 => ?_)
                      · have z176 : (((v.1 0 98) + r174) &&& (3 : Int32)).toInt = (0 : Int) := eq_z rfl (show (0 : Int32).toInt = (0 : Int) by decide) h175
                        refine lv_aload_n hx hb dX13_branches_202 rfl (lv_at hl 4 rfl) ?_
                        refine lv_iload hx hb dX13_branches_203 (lv_at hl 0 rfl) ?_
                        refine va_put (D := (dC, dI)) (ci := 16) (fs := mF ad v) (v := .int ((v.1 0 98) + r174)) (ty := .int) (C := RX13) (T := TX13) (N := 124) hx hb ht itX13 tyX13 tyX13_ok nmX13 hown hK hP hD hS 0 rfl rfl 98 (by decide) (ht _ tw_208) (fun _ h9 => h9) rfl (by decide +kernel) rfl rfl (Nat.le_of_ble_eq_true rfl) dX13_branches_205 (fun H locs hP hD hS => ?_)
                        have hP := cP_ (mw_98 ad N cI cZ cJ v ((v.1 0 98) + r174)) hP
                        have hD := cD_ (mw_98 ad N cI cZ cJ v ((v.1 0 98) + r174)) hD
                        exact W.vret hx hb hr (fun t ht9 hW => ⟨⟨(wA v 0 98 ((v.1 0 98) + r174)), rfl, (FG.f (FG.rf _) ((v.1 0 98) + r174) (by decide)), by rw [ht9]; exact hP, hD⟩, hS.F ht9⟩) hS.2.2 dX13_branches_208
                      · have z177 : (((v.1 0 98) + r174) &&& (3 : Int32)).toInt ≠ (0 : Int) := ne_z rfl (show (0 : Int32).toInt = (0 : Int) by decide) h175
                        refine lv_aload_n hx hb dX13_branches_194 rfl (lv_at hl 4 rfl) ?_
                        refine lv_iconst (v := 3) hx hb dX13_branches_195 (by decide) ?_
                        refine va_put (D := (dC, dI)) (ci := 16) (fs := mF ad v) (v := .int 3) (ty := .int) (C := RX13) (T := TX13) (N := 124) hx hb ht itX13 tyX13 tyX13_ok nmX13 hown hK hP hD hS 0 rfl rfl 99 (by decide) (ht _ tw_210) (fun _ h9 => h9) rfl (by decide +kernel) rfl rfl (Nat.le_of_ble_eq_true rfl) dX13_branches_196 (fun H locs hP hD hS => ?_)
                        have hP := cP_ (mw_99 ad N cI cZ cJ v 3) hP
                        have hD := cD_ (mw_99 ad N cI cZ cJ v 3) hD
                        refine lv_goto (tgt := 208) hx hb dX13_branches_199 (by decide) ?_
                        exact W.vret hx hb hr (fun t ht9 hW => ⟨⟨(wA v 0 99 3), rfl, (FG.f (FG.rf _) 3 (by decide)), by rw [ht9]; exact hP, hD⟩, hS.F ht9⟩) hS.2.2 dX13_branches_208
                    ·
                      refine lv_tableOut (tgt := 156) hx hb dX13_branches_35 (by have := lv_neT h129 (a := 0) (by decide); have := lv_neT h137 (a := 1) (by decide); have := lv_neT h148 (a := 2) (by decide); have := lv_neT h149 (a := 3) (by decide); have := lv_neT h150 (a := 4) (by decide); have := lv_neT h158 (a := 5) (by decide); have := lv_neT h164 (a := 6) (by decide); have := lv_neT h169 (a := 7) (by decide); omega) (by decide) ?_
                      refine lv_aload_n hx hb dX13_branches_156 rfl (lv_at hl 2 rfl) ?_
                      refine lv_iconst (v := 2) hx hb dX13_branches_157 (by decide) ?_
                      refine va_put (D := (dC, dI)) (ci := 16) (fs := mF ad v) (v := .int 2) (ty := .int) (C := RX13) (T := TX13) (N := 124) hx hb ht itX13 tyX13 tyX13_ok nmX13 hown hK hP hD hS 0 rfl rfl 99 (by decide) (ht _ tw_210) (fun _ h9 => h9) rfl (by decide +kernel) rfl rfl (Nat.le_of_ble_eq_true rfl) dX13_branches_158 (fun H locs hP hD hS => ?_)
                      have hP := cP_ (mw_99 ad N cI cZ cJ v 2) hP
                      have hD := cD_ (mw_99 ad N cI cZ cJ v 2) hD
                      exact W.vret hx hb hr (fun t ht9 hW => ⟨⟨(wA v 0 99 2), rfl, (FG.f (FG.rf _) 2 (by decide)), by rw [ht9]; exact hP, hD⟩, hS.F ht9⟩) hS.2.2 dX13_branches_161
    · have z178 : (pc1 + ((-2147483648) : Int32)).toInt < (pd + ((-2147483648) : Int32)).toInt := nle_z rfl rfl h127
      refine lv_iconst (v := 1) hx hb dX13_branches_27 (by decide) ?_
      refine lv_goto (tgt := 32) hx hb dX13_branches_28 (by decide) ?_
      refine lv_istore (lv' := [(6, .int 1), (5, .int 1), (0, .ref (ad 0)), (1, .int pa), (2, .int pb), (3, .int pc1), (4, .int pd)]) hx hb dX13_branches_32 hl (by decide) rfl (fun ls hl => ?_)
      refine lv_iload_n hx hb dX13_branches_34 rfl (lv_at hl 4 rfl) ?_
      by_cases h179 : pb = 0
      · refine lv_tableIn (off := 45) (tgt := 80) hx hb dX13_branches_35 (by rw [h179]; decide) (by rw [h179]; decide) (by rw [h179]; decide) (by decide) ?_
        refine lv_iload_n hx hb dX13_branches_80 rfl (lv_at hl 5 rfl) ?_
        refine lv_iload hx hb dX13_branches_81 (lv_at hl 6 rfl) ?_
        refine lv_icmp_ne (tgt := 90) hx hb dX13_branches_83 (by decide) (fun h180 => ?_) (fun h180 => ?_)
        · have z181 : pc1.toInt ≠ pd.toInt := ne_z rfl rfl h180
          refine lv_iconst (v := 0) hx hb dX13_branches_90 (by decide) ?_
          refine lv_istore (lv' := [(7, .int 0), (6, .int 1), (5, .int 1), (0, .ref (ad 0)), (1, .int pa), (2, .int pb), (3, .int pc1), (4, .int pd)]) hx hb dX13_branches_91 hl (by decide) rfl (fun ls hl => ?_)
          refine lv_goto (tgt := 162) hx hb dX13_branches_93 (by decide) ?_
          refine lv_iload hx hb dX13_branches_162 (lv_at hl 0 rfl) ?_
          refine lv_if_eq (tgt := 179) hx hb dX13_branches_164 (by decide) (fun _ => ?_) (fun k182 => absurd k182 (by decide))
          refine lv_aload_n hx hb dX13_branches_179 rfl (lv_at hl 3 rfl) ?_
          refine va_get (D := (dC, dI)) (ci := 16) (fs := mF ad v) (v := .int (v.1 0 98)) (C := RX13) (T := TX13) (N := 124) hx hb ht itX13 hown hK hP 0 rfl rfl 98 (by decide) (ht _ tw_208) (fun _ h9 => h9) rfl dX13_branches_180 ?_
          refine lv_iconst (v := 4) hx hb dX13_branches_183 (by decide) ?_
          refine lv_iadd hx hb dX13_branches_184 ?_
          refine lv_istore (lv' := [(8, .int ((v.1 0 98) + (4 : Int32))), (7, .int 0), (6, .int 1), (5, .int 1), (0, .ref (ad 0)), (1, .int pa), (2, .int pb), (3, .int pc1), (4, .int pd)]) hx hb dX13_branches_185 hl (by decide) rfl (fun ls hl => ?_)
          refine lv_iload hx hb dX13_branches_187 (lv_at hl 0 rfl) ?_
          refine lv_iconst (v := 3) hx hb dX13_branches_189 (by decide) ?_
          refine lv_iand hx hb dX13_branches_190 ?_
          refine lv_if_eq (tgt := 202) hx hb dX13_branches_191 (by decide) (fun h183 => ?_) (fun h183 => ?_)
          · have z184 : (((v.1 0 98) + (4 : Int32)) &&& (3 : Int32)).toInt = (0 : Int) := eq_z rfl (show (0 : Int32).toInt = (0 : Int) by decide) h183
            refine lv_aload_n hx hb dX13_branches_202 rfl (lv_at hl 4 rfl) ?_
            refine lv_iload hx hb dX13_branches_203 (lv_at hl 0 rfl) ?_
            refine va_put (D := (dC, dI)) (ci := 16) (fs := mF ad v) (v := .int ((v.1 0 98) + (4 : Int32))) (ty := .int) (C := RX13) (T := TX13) (N := 124) hx hb ht itX13 tyX13 tyX13_ok nmX13 hown hK hP hD hS 0 rfl rfl 98 (by decide) (ht _ tw_208) (fun _ h9 => h9) rfl (by decide +kernel) rfl rfl (Nat.le_of_ble_eq_true rfl) dX13_branches_205 (fun H locs hP hD hS => ?_)
            have hP := cP_ (mw_98 ad N cI cZ cJ v ((v.1 0 98) + (4 : Int32))) hP
            have hD := cD_ (mw_98 ad N cI cZ cJ v ((v.1 0 98) + (4 : Int32))) hD
            exact W.vret hx hb hr (fun t ht9 hW => ⟨⟨(wA v 0 98 ((v.1 0 98) + (4 : Int32))), rfl, (FG.f (FG.rf _) ((v.1 0 98) + (4 : Int32)) (by decide)), by rw [ht9]; exact hP, hD⟩, hS.F ht9⟩) hS.2.2 dX13_branches_208
          · have z185 : (((v.1 0 98) + (4 : Int32)) &&& (3 : Int32)).toInt ≠ (0 : Int) := ne_z rfl (show (0 : Int32).toInt = (0 : Int) by decide) h183
            refine lv_aload_n hx hb dX13_branches_194 rfl (lv_at hl 4 rfl) ?_
            refine lv_iconst (v := 3) hx hb dX13_branches_195 (by decide) ?_
            refine va_put (D := (dC, dI)) (ci := 16) (fs := mF ad v) (v := .int 3) (ty := .int) (C := RX13) (T := TX13) (N := 124) hx hb ht itX13 tyX13 tyX13_ok nmX13 hown hK hP hD hS 0 rfl rfl 99 (by decide) (ht _ tw_210) (fun _ h9 => h9) rfl (by decide +kernel) rfl rfl (Nat.le_of_ble_eq_true rfl) dX13_branches_196 (fun H locs hP hD hS => ?_)
            have hP := cP_ (mw_99 ad N cI cZ cJ v 3) hP
            have hD := cD_ (mw_99 ad N cI cZ cJ v 3) hD
            refine lv_goto (tgt := 208) hx hb dX13_branches_199 (by decide) ?_
            exact W.vret hx hb hr (fun t ht9 hW => ⟨⟨(wA v 0 99 3), rfl, (FG.f (FG.rf _) 3 (by decide)), by rw [ht9]; exact hP, hD⟩, hS.F ht9⟩) hS.2.2 dX13_branches_208
        · have z186 : pc1.toInt = pd.toInt := eq_z rfl rfl h180
          exact False.elim (om_4eca77726f z126 z186)
      ·
        by_cases h187 : pb = 1
        · refine lv_tableIn (off := 61) (tgt := 96) hx hb dX13_branches_35 (by rw [h187]; decide) (by rw [h187]; decide) (by rw [h187]; decide) (by decide) ?_
          refine lv_iload_n hx hb dX13_branches_96 rfl (lv_at hl 5 rfl) ?_
          refine lv_iload hx hb dX13_branches_97 (lv_at hl 6 rfl) ?_
          refine lv_icmp_eq (tgt := 106) hx hb dX13_branches_99 (by decide) (fun h188 => ?_) (fun h188 => ?_)
          · have z189 : pc1.toInt = pd.toInt := eq_z rfl rfl h188
            exact False.elim (om_4eca77726f z126 z189)
          · have z190 : pc1.toInt ≠ pd.toInt := ne_z rfl rfl h188
            refine lv_iconst (v := 1) hx hb dX13_branches_102 (by decide) ?_
            refine lv_goto (tgt := 107) hx hb dX13_branches_103 (by decide) ?_
            refine lv_istore (lv' := [(7, .int 1), (6, .int 1), (5, .int 1), (0, .ref (ad 0)), (1, .int pa), (2, .int pb), (3, .int pc1), (4, .int pd)]) hx hb dX13_branches_107 hl (by decide) rfl (fun ls hl => ?_)
            refine lv_goto (tgt := 162) hx hb dX13_branches_109 (by decide) ?_
            refine lv_iload hx hb dX13_branches_162 (lv_at hl 0 rfl) ?_
            refine lv_if_eq (tgt := 179) hx hb dX13_branches_164 (by decide) (fun k191 => absurd k191 (by decide)) (fun _ => ?_)
            refine lv_aload_n hx hb dX13_branches_167 rfl (lv_at hl 3 rfl) ?_
            refine va_get (D := (dC, dI)) (ci := 16) (fs := mF ad v) (v := .int (v.1 0 98)) (C := RX13) (T := TX13) (N := 124) hx hb ht itX13 hown hK hP 0 rfl rfl 98 (by decide) (ht _ tw_208) (fun _ h9 => h9) rfl dX13_branches_168 ?_
            refine lv_iload_n hx hb dX13_branches_171 rfl (lv_at hl 4 rfl) ?_
            refine cu_s (mW_nd _ _ _ _ _ _) (rn_S (n := 1) (As := [.int pa]) (rest := [.int (v.1 0 98)]) hx hb hml hown ht hKK hFx hP hD hS hA (c_m_imB l dC dI cI cB cZ cJ cR tb s.heap.size pa ) tw_212 tw_213 (by decide +kernel) rfl rfl ⟨Nat.le_of_ble_eq_true rfl, Nat.le_of_ble_eq_true rfl⟩ [] rfl rfl rfl hl.1 rfl (Nat.le_of_ble_eq_true rfl) dX13_branches_172 ⟨Nat.le_of_ble_eq_true rfl, Nat.le_of_ble_eq_true rfl⟩) hP hD hS hA (fun r194 H locs hw192 hP hD hS => ?_)
            refine W.widen (k := 0) (n := 0) (Nat.le_refl _) (Nat.le_refl _) ?_
            refine lv_iadd hx hb dX13_branches_175 ?_
            refine lv_goto (tgt := 185) hx hb dX13_branches_176 (by decide) ?_
            refine lv_istore (lv' := [(8, .int ((v.1 0 98) + r194)), (7, .int 1), (6, .int 1), (5, .int 1), (0, .ref (ad 0)), (1, .int pa), (2, .int pb), (3, .int pc1), (4, .int pd)]) hx hb dX13_branches_185 hl (by decide) rfl (fun ls hl => ?_)
            refine lv_iload hx hb dX13_branches_187 (lv_at hl 0 rfl) ?_
            refine lv_iconst (v := 3) hx hb dX13_branches_189 (by decide) ?_
            refine lv_iand hx hb dX13_branches_190 ?_
            refine lv_if_eq (tgt := 202) hx hb dX13_branches_191 (by decide) (fun h195 => ?_) (fun h195 => ?_)
            · have z196 : (((v.1 0 98) + r194) &&& (3 : Int32)).toInt = (0 : Int) := eq_z rfl (show (0 : Int32).toInt = (0 : Int) by decide) h195
              refine lv_aload_n hx hb dX13_branches_202 rfl (lv_at hl 4 rfl) ?_
              refine lv_iload hx hb dX13_branches_203 (lv_at hl 0 rfl) ?_
              refine va_put (D := (dC, dI)) (ci := 16) (fs := mF ad v) (v := .int ((v.1 0 98) + r194)) (ty := .int) (C := RX13) (T := TX13) (N := 124) hx hb ht itX13 tyX13 tyX13_ok nmX13 hown hK hP hD hS 0 rfl rfl 98 (by decide) (ht _ tw_208) (fun _ h9 => h9) rfl (by decide +kernel) rfl rfl (Nat.le_of_ble_eq_true rfl) dX13_branches_205 (fun H locs hP hD hS => ?_)
              have hP := cP_ (mw_98 ad N cI cZ cJ v ((v.1 0 98) + r194)) hP
              have hD := cD_ (mw_98 ad N cI cZ cJ v ((v.1 0 98) + r194)) hD
              exact W.vret hx hb hr (fun t ht9 hW => ⟨⟨(wA v 0 98 ((v.1 0 98) + r194)), rfl, (FG.f (FG.rf _) ((v.1 0 98) + r194) (by decide)), by rw [ht9]; exact hP, hD⟩, hS.F ht9⟩) hS.2.2 dX13_branches_208
            · have z197 : (((v.1 0 98) + r194) &&& (3 : Int32)).toInt ≠ (0 : Int) := ne_z rfl (show (0 : Int32).toInt = (0 : Int) by decide) h195
              refine lv_aload_n hx hb dX13_branches_194 rfl (lv_at hl 4 rfl) ?_
              refine lv_iconst (v := 3) hx hb dX13_branches_195 (by decide) ?_
              refine va_put (D := (dC, dI)) (ci := 16) (fs := mF ad v) (v := .int 3) (ty := .int) (C := RX13) (T := TX13) (N := 124) hx hb ht itX13 tyX13 tyX13_ok nmX13 hown hK hP hD hS 0 rfl rfl 99 (by decide) (ht _ tw_210) (fun _ h9 => h9) rfl (by decide +kernel) rfl rfl (Nat.le_of_ble_eq_true rfl) dX13_branches_196 (fun H locs hP hD hS => ?_)
              have hP := cP_ (mw_99 ad N cI cZ cJ v 3) hP
              have hD := cD_ (mw_99 ad N cI cZ cJ v 3) hD
              refine lv_goto (tgt := 208) hx hb dX13_branches_199 (by decide) ?_
              exact W.vret hx hb hr (fun t ht9 hW => ⟨⟨(wA v 0 99 3), rfl, (FG.f (FG.rf _) 3 (by decide)), by rw [ht9]; exact hP, hD⟩, hS.F ht9⟩) hS.2.2 dX13_branches_208
        ·
          by_cases h198 : pb = 2
          · refine lv_tableIn (off := 121) (tgt := 156) hx hb dX13_branches_35 (by rw [h198]; decide) (by rw [h198]; decide) (by rw [h198]; decide) (by decide) ?_
            refine lv_aload_n hx hb dX13_branches_156 rfl (lv_at hl 2 rfl) ?_
            refine lv_iconst (v := 2) hx hb dX13_branches_157 (by decide) ?_
            refine va_put (D := (dC, dI)) (ci := 16) (fs := mF ad v) (v := .int 2) (ty := .int) (C := RX13) (T := TX13) (N := 124) hx hb ht itX13 tyX13 tyX13_ok nmX13 hown hK hP hD hS 0 rfl rfl 99 (by decide) (ht _ tw_210) (fun _ h9 => h9) rfl (by decide +kernel) rfl rfl (Nat.le_of_ble_eq_true rfl) dX13_branches_158 (fun H locs hP hD hS => ?_)
            have hP := cP_ (mw_99 ad N cI cZ cJ v 2) hP
            have hD := cD_ (mw_99 ad N cI cZ cJ v 2) hD
            exact W.vret hx hb hr (fun t ht9 hW => ⟨⟨(wA v 0 99 2), rfl, (FG.f (FG.rf _) 2 (by decide)), by rw [ht9]; exact hP, hD⟩, hS.F ht9⟩) hS.2.2 dX13_branches_161
          ·
            by_cases h199 : pb = 3
            · refine lv_tableIn (off := 121) (tgt := 156) hx hb dX13_branches_35 (by rw [h199]; decide) (by rw [h199]; decide) (by rw [h199]; decide) (by decide) ?_
              refine lv_aload_n hx hb dX13_branches_156 rfl (lv_at hl 2 rfl) ?_
              refine lv_iconst (v := 2) hx hb dX13_branches_157 (by decide) ?_
              refine va_put (D := (dC, dI)) (ci := 16) (fs := mF ad v) (v := .int 2) (ty := .int) (C := RX13) (T := TX13) (N := 124) hx hb ht itX13 tyX13 tyX13_ok nmX13 hown hK hP hD hS 0 rfl rfl 99 (by decide) (ht _ tw_210) (fun _ h9 => h9) rfl (by decide +kernel) rfl rfl (Nat.le_of_ble_eq_true rfl) dX13_branches_158 (fun H locs hP hD hS => ?_)
              have hP := cP_ (mw_99 ad N cI cZ cJ v 2) hP
              have hD := cD_ (mw_99 ad N cI cZ cJ v 2) hD
              exact W.vret hx hb hr (fun t ht9 hW => ⟨⟨(wA v 0 99 2), rfl, (FG.f (FG.rf _) 2 (by decide)), by rw [ht9]; exact hP, hD⟩, hS.F ht9⟩) hS.2.2 dX13_branches_161
            ·
              by_cases h200 : pb = 4
              · refine lv_tableIn (off := 77) (tgt := 112) hx hb dX13_branches_35 (by rw [h200]; decide) (by rw [h200]; decide) (by rw [h200]; decide) (by decide) ?_
                refine lv_iload hx hb dX13_branches_112 (lv_at hl 1 rfl) ?_
                refine lv_istore (lv' := [(7, .int 1), (6, .int 1), (5, .int 1), (0, .ref (ad 0)), (1, .int pa), (2, .int pb), (3, .int pc1), (4, .int pd)]) hx hb dX13_branches_114 hl (by decide) rfl (fun ls hl => ?_)
                refine lv_goto (tgt := 162) hx hb dX13_branches_116 (by decide) ?_
                refine lv_iload hx hb dX13_branches_162 (lv_at hl 0 rfl) ?_
                refine lv_if_eq (tgt := 179) hx hb dX13_branches_164 (by decide) (fun k201 => absurd k201 (by decide)) (fun _ => ?_)
                refine lv_aload_n hx hb dX13_branches_167 rfl (lv_at hl 3 rfl) ?_
                refine va_get (D := (dC, dI)) (ci := 16) (fs := mF ad v) (v := .int (v.1 0 98)) (C := RX13) (T := TX13) (N := 124) hx hb ht itX13 hown hK hP 0 rfl rfl 98 (by decide) (ht _ tw_208) (fun _ h9 => h9) rfl dX13_branches_168 ?_
                refine lv_iload_n hx hb dX13_branches_171 rfl (lv_at hl 4 rfl) ?_
                refine cu_s (mW_nd _ _ _ _ _ _) (rn_S (n := 1) (As := [.int pa]) (rest := [.int (v.1 0 98)]) hx hb hml hown ht hKK hFx hP hD hS hA (c_m_imB l dC dI cI cB cZ cJ cR tb s.heap.size pa ) tw_212 tw_213 (by decide +kernel) rfl rfl ⟨Nat.le_of_ble_eq_true rfl, Nat.le_of_ble_eq_true rfl⟩ [] rfl rfl rfl hl.1 rfl (Nat.le_of_ble_eq_true rfl) dX13_branches_172 ⟨Nat.le_of_ble_eq_true rfl, Nat.le_of_ble_eq_true rfl⟩) hP hD hS hA (fun r204 H locs hw202 hP hD hS => ?_)
                refine W.widen (k := 0) (n := 0) (Nat.le_refl _) (Nat.le_refl _) ?_
                refine lv_iadd hx hb dX13_branches_175 ?_
                refine lv_goto (tgt := 185) hx hb dX13_branches_176 (by decide) ?_
                refine lv_istore (lv' := [(8, .int ((v.1 0 98) + r204)), (7, .int 1), (6, .int 1), (5, .int 1), (0, .ref (ad 0)), (1, .int pa), (2, .int pb), (3, .int pc1), (4, .int pd)]) hx hb dX13_branches_185 hl (by decide) rfl (fun ls hl => ?_)
                refine lv_iload hx hb dX13_branches_187 (lv_at hl 0 rfl) ?_
                refine lv_iconst (v := 3) hx hb dX13_branches_189 (by decide) ?_
                refine lv_iand hx hb dX13_branches_190 ?_
                refine lv_if_eq (tgt := 202) hx hb dX13_branches_191 (by decide) (fun h205 => ?_) (fun h205 => ?_)
                · have z206 : (((v.1 0 98) + r204) &&& (3 : Int32)).toInt = (0 : Int) := eq_z rfl (show (0 : Int32).toInt = (0 : Int) by decide) h205
                  refine lv_aload_n hx hb dX13_branches_202 rfl (lv_at hl 4 rfl) ?_
                  refine lv_iload hx hb dX13_branches_203 (lv_at hl 0 rfl) ?_
                  refine va_put (D := (dC, dI)) (ci := 16) (fs := mF ad v) (v := .int ((v.1 0 98) + r204)) (ty := .int) (C := RX13) (T := TX13) (N := 124) hx hb ht itX13 tyX13 tyX13_ok nmX13 hown hK hP hD hS 0 rfl rfl 98 (by decide) (ht _ tw_208) (fun _ h9 => h9) rfl (by decide +kernel) rfl rfl (Nat.le_of_ble_eq_true rfl) dX13_branches_205 (fun H locs hP hD hS => ?_)
                  have hP := cP_ (mw_98 ad N cI cZ cJ v ((v.1 0 98) + r204)) hP
                  have hD := cD_ (mw_98 ad N cI cZ cJ v ((v.1 0 98) + r204)) hD
                  exact W.vret hx hb hr (fun t ht9 hW => ⟨⟨(wA v 0 98 ((v.1 0 98) + r204)), rfl, (FG.f (FG.rf _) ((v.1 0 98) + r204) (by decide)), by rw [ht9]; exact hP, hD⟩, hS.F ht9⟩) hS.2.2 dX13_branches_208
                · have z207 : (((v.1 0 98) + r204) &&& (3 : Int32)).toInt ≠ (0 : Int) := ne_z rfl (show (0 : Int32).toInt = (0 : Int) by decide) h205
                  refine lv_aload_n hx hb dX13_branches_194 rfl (lv_at hl 4 rfl) ?_
                  refine lv_iconst (v := 3) hx hb dX13_branches_195 (by decide) ?_
                  refine va_put (D := (dC, dI)) (ci := 16) (fs := mF ad v) (v := .int 3) (ty := .int) (C := RX13) (T := TX13) (N := 124) hx hb ht itX13 tyX13 tyX13_ok nmX13 hown hK hP hD hS 0 rfl rfl 99 (by decide) (ht _ tw_210) (fun _ h9 => h9) rfl (by decide +kernel) rfl rfl (Nat.le_of_ble_eq_true rfl) dX13_branches_196 (fun H locs hP hD hS => ?_)
                  have hP := cP_ (mw_99 ad N cI cZ cJ v 3) hP
                  have hD := cD_ (mw_99 ad N cI cZ cJ v 3) hD
                  refine lv_goto (tgt := 208) hx hb dX13_branches_199 (by decide) ?_
                  exact W.vret hx hb hr (fun t ht9 hW => ⟨⟨(wA v 0 99 3), rfl, (FG.f (FG.rf _) 3 (by decide)), by rw [ht9]; exact hP, hD⟩, hS.F ht9⟩) hS.2.2 dX13_branches_208
              ·
                by_cases h208 : pb = 5
                · refine lv_tableIn (off := 84) (tgt := 119) hx hb dX13_branches_35 (by rw [h208]; decide) (by rw [h208]; decide) (by rw [h208]; decide) (by decide) ?_
                  refine lv_iload hx hb dX13_branches_119 (lv_at hl 1 rfl) ?_
                  refine lv_if_ne (tgt := 128) hx hb dX13_branches_121 (by decide) (fun _ => ?_) (fun k209 => absurd k209 (by decide))
                  refine lv_iconst (v := 0) hx hb dX13_branches_128 (by decide) ?_
                  refine lv_istore (lv' := [(7, .int 0), (6, .int 1), (5, .int 1), (0, .ref (ad 0)), (1, .int pa), (2, .int pb), (3, .int pc1), (4, .int pd)]) hx hb dX13_branches_129 hl (by decide) rfl (fun ls hl => ?_)
                  refine lv_goto (tgt := 162) hx hb dX13_branches_131 (by decide) ?_
                  refine lv_iload hx hb dX13_branches_162 (lv_at hl 0 rfl) ?_
                  refine lv_if_eq (tgt := 179) hx hb dX13_branches_164 (by decide) (fun _ => ?_) (fun k210 => absurd k210 (by decide))
                  refine lv_aload_n hx hb dX13_branches_179 rfl (lv_at hl 3 rfl) ?_
                  refine va_get (D := (dC, dI)) (ci := 16) (fs := mF ad v) (v := .int (v.1 0 98)) (C := RX13) (T := TX13) (N := 124) hx hb ht itX13 hown hK hP 0 rfl rfl 98 (by decide) (ht _ tw_208) (fun _ h9 => h9) rfl dX13_branches_180 ?_
                  refine lv_iconst (v := 4) hx hb dX13_branches_183 (by decide) ?_
                  refine lv_iadd hx hb dX13_branches_184 ?_
                  refine lv_istore (lv' := [(8, .int ((v.1 0 98) + (4 : Int32))), (7, .int 0), (6, .int 1), (5, .int 1), (0, .ref (ad 0)), (1, .int pa), (2, .int pb), (3, .int pc1), (4, .int pd)]) hx hb dX13_branches_185 hl (by decide) rfl (fun ls hl => ?_)
                  refine lv_iload hx hb dX13_branches_187 (lv_at hl 0 rfl) ?_
                  refine lv_iconst (v := 3) hx hb dX13_branches_189 (by decide) ?_
                  refine lv_iand hx hb dX13_branches_190 ?_
                  refine lv_if_eq (tgt := 202) hx hb dX13_branches_191 (by decide) (fun h211 => ?_) (fun h211 => ?_)
                  · have z212 : (((v.1 0 98) + (4 : Int32)) &&& (3 : Int32)).toInt = (0 : Int) := eq_z rfl (show (0 : Int32).toInt = (0 : Int) by decide) h211
                    refine lv_aload_n hx hb dX13_branches_202 rfl (lv_at hl 4 rfl) ?_
                    refine lv_iload hx hb dX13_branches_203 (lv_at hl 0 rfl) ?_
                    refine va_put (D := (dC, dI)) (ci := 16) (fs := mF ad v) (v := .int ((v.1 0 98) + (4 : Int32))) (ty := .int) (C := RX13) (T := TX13) (N := 124) hx hb ht itX13 tyX13 tyX13_ok nmX13 hown hK hP hD hS 0 rfl rfl 98 (by decide) (ht _ tw_208) (fun _ h9 => h9) rfl (by decide +kernel) rfl rfl (Nat.le_of_ble_eq_true rfl) dX13_branches_205 (fun H locs hP hD hS => ?_)
                    have hP := cP_ (mw_98 ad N cI cZ cJ v ((v.1 0 98) + (4 : Int32))) hP
                    have hD := cD_ (mw_98 ad N cI cZ cJ v ((v.1 0 98) + (4 : Int32))) hD
                    exact W.vret hx hb hr (fun t ht9 hW => ⟨⟨(wA v 0 98 ((v.1 0 98) + (4 : Int32))), rfl, (FG.f (FG.rf _) ((v.1 0 98) + (4 : Int32)) (by decide)), by rw [ht9]; exact hP, hD⟩, hS.F ht9⟩) hS.2.2 dX13_branches_208
                  · have z213 : (((v.1 0 98) + (4 : Int32)) &&& (3 : Int32)).toInt ≠ (0 : Int) := ne_z rfl (show (0 : Int32).toInt = (0 : Int) by decide) h211
                    refine lv_aload_n hx hb dX13_branches_194 rfl (lv_at hl 4 rfl) ?_
                    refine lv_iconst (v := 3) hx hb dX13_branches_195 (by decide) ?_
                    refine va_put (D := (dC, dI)) (ci := 16) (fs := mF ad v) (v := .int 3) (ty := .int) (C := RX13) (T := TX13) (N := 124) hx hb ht itX13 tyX13 tyX13_ok nmX13 hown hK hP hD hS 0 rfl rfl 99 (by decide) (ht _ tw_210) (fun _ h9 => h9) rfl (by decide +kernel) rfl rfl (Nat.le_of_ble_eq_true rfl) dX13_branches_196 (fun H locs hP hD hS => ?_)
                    have hP := cP_ (mw_99 ad N cI cZ cJ v 3) hP
                    have hD := cD_ (mw_99 ad N cI cZ cJ v 3) hD
                    refine lv_goto (tgt := 208) hx hb dX13_branches_199 (by decide) ?_
                    exact W.vret hx hb hr (fun t ht9 hW => ⟨⟨(wA v 0 99 3), rfl, (FG.f (FG.rf _) 3 (by decide)), by rw [ht9]; exact hP, hD⟩, hS.F ht9⟩) hS.2.2 dX13_branches_208
                ·
                  by_cases h214 : pb = 6
                  · refine lv_tableIn (off := 99) (tgt := 134) hx hb dX13_branches_35 (by rw [h214]; decide) (by rw [h214]; decide) (by rw [h214]; decide) (by decide) ?_
                    refine lv_iload hx hb dX13_branches_134 (lv_at hl 0 rfl) ?_
                    refine lv_istore (lv' := [(7, .int 1), (6, .int 1), (5, .int 1), (0, .ref (ad 0)), (1, .int pa), (2, .int pb), (3, .int pc1), (4, .int pd)]) hx hb dX13_branches_136 hl (by decide) rfl (fun ls hl => ?_)
                    refine lv_goto (tgt := 162) hx hb dX13_branches_138 (by decide) ?_
                    refine lv_iload hx hb dX13_branches_162 (lv_at hl 0 rfl) ?_
                    refine lv_if_eq (tgt := 179) hx hb dX13_branches_164 (by decide) (fun k215 => absurd k215 (by decide)) (fun _ => ?_)
                    refine lv_aload_n hx hb dX13_branches_167 rfl (lv_at hl 3 rfl) ?_
                    refine va_get (D := (dC, dI)) (ci := 16) (fs := mF ad v) (v := .int (v.1 0 98)) (C := RX13) (T := TX13) (N := 124) hx hb ht itX13 hown hK hP 0 rfl rfl 98 (by decide) (ht _ tw_208) (fun _ h9 => h9) rfl dX13_branches_168 ?_
                    refine lv_iload_n hx hb dX13_branches_171 rfl (lv_at hl 4 rfl) ?_
                    refine cu_s (mW_nd _ _ _ _ _ _) (rn_S (n := 1) (As := [.int pa]) (rest := [.int (v.1 0 98)]) hx hb hml hown ht hKK hFx hP hD hS hA (c_m_imB l dC dI cI cB cZ cJ cR tb s.heap.size pa ) tw_212 tw_213 (by decide +kernel) rfl rfl ⟨Nat.le_of_ble_eq_true rfl, Nat.le_of_ble_eq_true rfl⟩ [] rfl rfl rfl hl.1 rfl (Nat.le_of_ble_eq_true rfl) dX13_branches_172 ⟨Nat.le_of_ble_eq_true rfl, Nat.le_of_ble_eq_true rfl⟩) hP hD hS hA (fun r218 H locs hw216 hP hD hS => ?_)
                    refine W.widen (k := 0) (n := 0) (Nat.le_refl _) (Nat.le_refl _) ?_
                    refine lv_iadd hx hb dX13_branches_175 ?_
                    refine lv_goto (tgt := 185) hx hb dX13_branches_176 (by decide) ?_
                    refine lv_istore (lv' := [(8, .int ((v.1 0 98) + r218)), (7, .int 1), (6, .int 1), (5, .int 1), (0, .ref (ad 0)), (1, .int pa), (2, .int pb), (3, .int pc1), (4, .int pd)]) hx hb dX13_branches_185 hl (by decide) rfl (fun ls hl => ?_)
                    refine lv_iload hx hb dX13_branches_187 (lv_at hl 0 rfl) ?_
                    refine lv_iconst (v := 3) hx hb dX13_branches_189 (by decide) ?_
                    refine lv_iand hx hb dX13_branches_190 ?_
                    refine lv_if_eq (tgt := 202) hx hb dX13_branches_191 (by decide) (fun h219 => ?_) (fun h219 => ?_)
                    · have z220 : (((v.1 0 98) + r218) &&& (3 : Int32)).toInt = (0 : Int) := eq_z rfl (show (0 : Int32).toInt = (0 : Int) by decide) h219
                      refine lv_aload_n hx hb dX13_branches_202 rfl (lv_at hl 4 rfl) ?_
                      refine lv_iload hx hb dX13_branches_203 (lv_at hl 0 rfl) ?_
                      refine va_put (D := (dC, dI)) (ci := 16) (fs := mF ad v) (v := .int ((v.1 0 98) + r218)) (ty := .int) (C := RX13) (T := TX13) (N := 124) hx hb ht itX13 tyX13 tyX13_ok nmX13 hown hK hP hD hS 0 rfl rfl 98 (by decide) (ht _ tw_208) (fun _ h9 => h9) rfl (by decide +kernel) rfl rfl (Nat.le_of_ble_eq_true rfl) dX13_branches_205 (fun H locs hP hD hS => ?_)
                      have hP := cP_ (mw_98 ad N cI cZ cJ v ((v.1 0 98) + r218)) hP
                      have hD := cD_ (mw_98 ad N cI cZ cJ v ((v.1 0 98) + r218)) hD
                      exact W.vret hx hb hr (fun t ht9 hW => ⟨⟨(wA v 0 98 ((v.1 0 98) + r218)), rfl, (FG.f (FG.rf _) ((v.1 0 98) + r218) (by decide)), by rw [ht9]; exact hP, hD⟩, hS.F ht9⟩) hS.2.2 dX13_branches_208
                    · have z221 : (((v.1 0 98) + r218) &&& (3 : Int32)).toInt ≠ (0 : Int) := ne_z rfl (show (0 : Int32).toInt = (0 : Int) by decide) h219
                      refine lv_aload_n hx hb dX13_branches_194 rfl (lv_at hl 4 rfl) ?_
                      refine lv_iconst (v := 3) hx hb dX13_branches_195 (by decide) ?_
                      refine va_put (D := (dC, dI)) (ci := 16) (fs := mF ad v) (v := .int 3) (ty := .int) (C := RX13) (T := TX13) (N := 124) hx hb ht itX13 tyX13 tyX13_ok nmX13 hown hK hP hD hS 0 rfl rfl 99 (by decide) (ht _ tw_210) (fun _ h9 => h9) rfl (by decide +kernel) rfl rfl (Nat.le_of_ble_eq_true rfl) dX13_branches_196 (fun H locs hP hD hS => ?_)
                      have hP := cP_ (mw_99 ad N cI cZ cJ v 3) hP
                      have hD := cD_ (mw_99 ad N cI cZ cJ v 3) hD
                      refine lv_goto (tgt := 208) hx hb dX13_branches_199 (by decide) ?_
                      exact W.vret hx hb hr (fun t ht9 hW => ⟨⟨(wA v 0 99 3), rfl, (FG.f (FG.rf _) 3 (by decide)), by rw [ht9]; exact hP, hD⟩, hS.F ht9⟩) hS.2.2 dX13_branches_208
                  ·
                    by_cases h222 : pb = 7
                    · refine lv_tableIn (off := 106) (tgt := 141) hx hb dX13_branches_35 (by rw [h222]; decide) (by rw [h222]; decide) (by rw [h222]; decide) (by decide) ?_
                      refine lv_iload hx hb dX13_branches_141 (lv_at hl 0 rfl) ?_
                      refine lv_if_ne (tgt := 150) hx hb dX13_branches_143 (by decide) (fun _ => ?_) (fun k223 => absurd k223 (by decide))
                      refine lv_iconst (v := 0) hx hb dX13_branches_150 (by decide) ?_
                      refine lv_istore (lv' := [(7, .int 0), (6, .int 1), (5, .int 1), (0, .ref (ad 0)), (1, .int pa), (2, .int pb), (3, .int pc1), (4, .int pd)]) hx hb dX13_branches_151 hl (by decide) rfl (fun ls hl => ?_)
                      refine lv_goto (tgt := 162) hx hb dX13_branches_153 (by decide) ?_
                      refine lv_iload hx hb dX13_branches_162 (lv_at hl 0 rfl) ?_
                      refine lv_if_eq (tgt := 179) hx hb dX13_branches_164 (by decide) (fun _ => ?_) (fun k224 => absurd k224 (by decide))
                      refine lv_aload_n hx hb dX13_branches_179 rfl (lv_at hl 3 rfl) ?_
                      refine va_get (D := (dC, dI)) (ci := 16) (fs := mF ad v) (v := .int (v.1 0 98)) (C := RX13) (T := TX13) (N := 124) hx hb ht itX13 hown hK hP 0 rfl rfl 98 (by decide) (ht _ tw_208) (fun _ h9 => h9) rfl dX13_branches_180 ?_
                      refine lv_iconst (v := 4) hx hb dX13_branches_183 (by decide) ?_
                      refine lv_iadd hx hb dX13_branches_184 ?_
                      refine lv_istore (lv' := [(8, .int ((v.1 0 98) + (4 : Int32))), (7, .int 0), (6, .int 1), (5, .int 1), (0, .ref (ad 0)), (1, .int pa), (2, .int pb), (3, .int pc1), (4, .int pd)]) hx hb dX13_branches_185 hl (by decide) rfl (fun ls hl => ?_)
                      refine lv_iload hx hb dX13_branches_187 (lv_at hl 0 rfl) ?_
                      refine lv_iconst (v := 3) hx hb dX13_branches_189 (by decide) ?_
                      refine lv_iand hx hb dX13_branches_190 ?_
                      refine lv_if_eq (tgt := 202) hx hb dX13_branches_191 (by decide) (fun h225 => ?_) (fun h225 => ?_)
                      · have z226 : (((v.1 0 98) + (4 : Int32)) &&& (3 : Int32)).toInt = (0 : Int) := eq_z rfl (show (0 : Int32).toInt = (0 : Int) by decide) h225
                        refine lv_aload_n hx hb dX13_branches_202 rfl (lv_at hl 4 rfl) ?_
                        refine lv_iload hx hb dX13_branches_203 (lv_at hl 0 rfl) ?_
                        refine va_put (D := (dC, dI)) (ci := 16) (fs := mF ad v) (v := .int ((v.1 0 98) + (4 : Int32))) (ty := .int) (C := RX13) (T := TX13) (N := 124) hx hb ht itX13 tyX13 tyX13_ok nmX13 hown hK hP hD hS 0 rfl rfl 98 (by decide) (ht _ tw_208) (fun _ h9 => h9) rfl (by decide +kernel) rfl rfl (Nat.le_of_ble_eq_true rfl) dX13_branches_205 (fun H locs hP hD hS => ?_)
                        have hP := cP_ (mw_98 ad N cI cZ cJ v ((v.1 0 98) + (4 : Int32))) hP
                        have hD := cD_ (mw_98 ad N cI cZ cJ v ((v.1 0 98) + (4 : Int32))) hD
                        exact W.vret hx hb hr (fun t ht9 hW => ⟨⟨(wA v 0 98 ((v.1 0 98) + (4 : Int32))), rfl, (FG.f (FG.rf _) ((v.1 0 98) + (4 : Int32)) (by decide)), by rw [ht9]; exact hP, hD⟩, hS.F ht9⟩) hS.2.2 dX13_branches_208
                      · have z227 : (((v.1 0 98) + (4 : Int32)) &&& (3 : Int32)).toInt ≠ (0 : Int) := ne_z rfl (show (0 : Int32).toInt = (0 : Int) by decide) h225
                        refine lv_aload_n hx hb dX13_branches_194 rfl (lv_at hl 4 rfl) ?_
                        refine lv_iconst (v := 3) hx hb dX13_branches_195 (by decide) ?_
                        refine va_put (D := (dC, dI)) (ci := 16) (fs := mF ad v) (v := .int 3) (ty := .int) (C := RX13) (T := TX13) (N := 124) hx hb ht itX13 tyX13 tyX13_ok nmX13 hown hK hP hD hS 0 rfl rfl 99 (by decide) (ht _ tw_210) (fun _ h9 => h9) rfl (by decide +kernel) rfl rfl (Nat.le_of_ble_eq_true rfl) dX13_branches_196 (fun H locs hP hD hS => ?_)
                        have hP := cP_ (mw_99 ad N cI cZ cJ v 3) hP
                        have hD := cD_ (mw_99 ad N cI cZ cJ v 3) hD
                        refine lv_goto (tgt := 208) hx hb dX13_branches_199 (by decide) ?_
                        exact W.vret hx hb hr (fun t ht9 hW => ⟨⟨(wA v 0 99 3), rfl, (FG.f (FG.rf _) 3 (by decide)), by rw [ht9]; exact hP, hD⟩, hS.F ht9⟩) hS.2.2 dX13_branches_208
                    ·
                      refine lv_tableOut (tgt := 156) hx hb dX13_branches_35 (by have := lv_neT h179 (a := 0) (by decide); have := lv_neT h187 (a := 1) (by decide); have := lv_neT h198 (a := 2) (by decide); have := lv_neT h199 (a := 3) (by decide); have := lv_neT h200 (a := 4) (by decide); have := lv_neT h208 (a := 5) (by decide); have := lv_neT h214 (a := 6) (by decide); have := lv_neT h222 (a := 7) (by decide); omega) (by decide) ?_
                      refine lv_aload_n hx hb dX13_branches_156 rfl (lv_at hl 2 rfl) ?_
                      refine lv_iconst (v := 2) hx hb dX13_branches_157 (by decide) ?_
                      refine va_put (D := (dC, dI)) (ci := 16) (fs := mF ad v) (v := .int 2) (ty := .int) (C := RX13) (T := TX13) (N := 124) hx hb ht itX13 tyX13 tyX13_ok nmX13 hown hK hP hD hS 0 rfl rfl 99 (by decide) (ht _ tw_210) (fun _ h9 => h9) rfl (by decide +kernel) rfl rfl (Nat.le_of_ble_eq_true rfl) dX13_branches_158 (fun H locs hP hD hS => ?_)
                      have hP := cP_ (mw_99 ad N cI cZ cJ v 2) hP
                      have hD := cD_ (mw_99 ad N cI cZ cJ v 2) hD
                      exact W.vret hx hb hr (fun t ht9 hW => ⟨⟨(wA v 0 99 2), rfl, (FG.f (FG.rf _) 2 (by decide)), by rw [ht9]; exact hP, hD⟩, hS.F ht9⟩) hS.2.2 dX13_branches_161
theorem om_83ec6b9225 {x0 : Int} (h0 : 1 ≤ x0 ∧ x0 ≤ 8) : -2147483648 ≤ (x0) - (1 : Int) := by omega
theorem om_2bd1988f28 {x0 : Int} (h0 : 1 ≤ x0 ∧ x0 ≤ 8) : (x0) - (1 : Int) < 2147483648 := by omega
theorem om_c42fe0fb85 {n0 : Nat} (h0 : (256 : Int) ≤ (n0 : Int) ∧ (n0 : Int) ≤ 4096) : (256 : Int) ≤ (n0 : Int) ∧ (n0 : Int) ≤ 4096 := by omega
theorem om_9a10302abe {x0 : Int} (h0 : 1 ≤ x0 ∧ x0 ≤ 8) : 0 ≤ x0 ∧ x0 ≤ 8 := by omega
theorem om_bd5f6a9ad3 {x0 x1 : Int} (h0 : 1 ≤ x0 ∧ x0 ≤ 8) (h1 : x1 = (x0) - (1 : Int)) : -1 ≤ x1 ∧ x1 < x0 := by omega
theorem om_325f1a4150 {x0 : Int} (h0 : 0 ≤ x0 ∧ x0 < 32) : 0 ≤ x0 ∧ x0 < 32 := by omega
theorem om_65c4c275ae {x0 x1 x2 x4 : Int} {n3 : Nat} (h0 : (0 ≤ x0 ∧ x0 ≤ 1)) (h1 : (x0 = 0 ∨ (0 ≤ x1 ∧ x1 + x2 ≤ 4 * (n3 : Int)))) (h2 : x0 ≠ (0 : Int)) (h3 : -1 ≤ x4 ∧ x4 < x2) : -2147483648 ≤ x1 + x4 := by omega
theorem om_c5bf957c03 {x1 x2 x3 x4 : Int} {n0 : Nat} (h0 : (256 : Int) ≤ (n0 : Int) ∧ (n0 : Int) ≤ 4096) (h1 : (0 ≤ x1 ∧ x1 ≤ 1)) (h2 : (x1 = 0 ∨ (0 ≤ x2 ∧ x2 + x3 ≤ 4 * (n0 : Int)))) (h3 : x1 ≠ (0 : Int)) (h4 : -1 ≤ x4 ∧ x4 < x3) : x2 + x4 < 2147483648 := by omega
theorem om_a122c35c2e {x0 x1 x2 x4 x5 : Int} {n3 : Nat} (h0 : (0 ≤ x0 ∧ x0 ≤ 1)) (h1 : (x0 = 0 ∨ (0 ≤ x1 ∧ x1 + x2 ≤ 4 * (n3 : Int)))) (h2 : x0 ≠ (0 : Int)) (h3 : -1 ≤ x4 ∧ x4 < x2) (h4 : (0 : Int) ≤ x4) (h5 : x5 = x1 + x4) : 0 ≤ x5 ∧ x5 < 4 * (n3 : Int) := by omega
theorem om_a40b7525a3 {x0 x1 : Int} (h0 : 1 ≤ x0 ∧ x0 ≤ 8) (h1 : -1 ≤ x1 ∧ x1 < x0) : x1 + (-1 : Int) < 2147483648 := by omega
set_option maxHeartbeats 4000000 in
set_option maxRecDepth 100000 in
theorem c_m_reads (l : Launch) (dC : Nat → ClassId) (dI : Nat → Nat → Nat) (cI cB cZ cJ cR : ClassId) (tb : Nat → Nat) (sz : Nat) (ad : Nat → Nat) (N : Nat) (v : MS) (pa : Int32) (pb : Int32) (pc1 : Int32) (pd : Int32) (zN : (256 : Int) ≤ (N : Int) ∧ (N : Int) ≤ 4096) (zr : 0 ≤ pb.toInt ∧ pb.toInt < 32) (zf : 0 ≤ pc1.toInt ∧ pc1.toInt < 8) : Met l yX13_reads (Cond.code yX13_reads cX13_reads 8 none :: tw_W) ({ frames := 1, cells := 0, slots := 0, locals := 24 }) (pc_ (dC, dI) (tyS cI cB cZ cJ cR) tb (mW ad N cI cZ cJ v) sz [.ref (ad 0), .int pa, .int pb, .int pc1, .int pd]) (qv_ (dC, dI) (mW ad N cI cZ cJ v) sz (fun (u : MS) => FG [98, 99] [0, 97] v u) (fun (u : MS) => (mW ad N cI cZ cJ u))) 0 0 (va_A (mW ad N cI cZ cJ v) sz) := by
  refine Met.ofW (cc := cX13_reads) (maxL := 8) (ret := none) (by decide) rfl ?_
  intro p e s m args below meth c s₁ B hml hv
  obtain ⟨rfl, hsz, hP, hKK, hD0, hFx⟩ := hv
  have hK := hKK.1
  have hx := B.exec
  have hb := B.bytes
  have hr := B.returns
  have ht : ∀ w ∈ tw_W, w.before _ s = true := fun w h => atoms_spec (ws := Cond.code yX13_reads cX13_reads 8 none :: tw_W) B.pre w (List.mem_cons_of_mem _ h)
  have hown : s.vm.findClass RX13 = some m.cls := findClass_of_methodNamed B.named
  have hlocks := B.notSynchronized
  subst hsz
  unfold qv_
  have hD := hD0.self (sz := s.heap.size)
  generalize hAe : va_A (mW ad N cI cZ cJ v) s.heap.size = A at hD hFx ⊢
  have hA : ∀ q : Nat, s.heap.size ≤ q → A q := fun q h => by rw [← hAe]; exact Or.inr h
  have hS : va_S A s.heap s.heap [] := va_S.rf
  have hl := lv_entry ([.ref (ad 0), .int pa, .int pb, .int pc1, .int pd]) (n := 8) (Nat.le_of_ble_eq_true rfl)
  rw [lg_entry_eq]
  generalize (lg_sl ([.ref (ad 0), .int pa, .int pb, .int pc1, .int pd]) ++ List.replicate (8 - (lg_sl ([.ref (ad 0), .int pa, .int pb, .int pc1, .int pd])).length) Slot.unset).toArray = ls at hl ⊢
  have hl : lv_has ls 8 [(0, .ref (ad 0)), (1, .int pa), (2, .int pb), (3, .int pc1), (4, .int pd)] := hl
  refine lv_iconst (v := 1) hx hb dX13_reads_0 (by decide) ?_
  refine lv_iload_n hx hb dX13_reads_1 rfl (lv_at hl 3 rfl) ?_
  refine lv_iconst (v := 3) hx hb dX13_reads_2 (by decide) ?_
  refine lv_iand hx hb dX13_reads_3 ?_
  refine lv_ishl hx hb dX13_reads_4 ?_
  refine lv_istore (lv' := [(5, .int ((1 : Int32) <<< ((pc1 &&& (3 : Int32)) &&& 31))), (0, .ref (ad 0)), (1, .int pa), (2, .int pb), (3, .int pc1), (4, .int pd)]) hx hb dX13_reads_5 hl (by decide) rfl (fun ls hl => ?_)
  refine lv_iload_n hx hb dX13_reads_7 rfl (lv_at hl 4 rfl) ?_
  refine lv_iconst (v := 3) hx hb dX13_reads_8 (by decide) ?_
  refine lv_icmp_eq (tgt := 17) hx hb dX13_reads_9 (by decide) (fun h1 => ?_) (fun h1 => ?_)
  · have z2 : pc1.toInt = (3 : Int) := eq_z rfl (show (3 : Int32).toInt = (3 : Int) by decide) h1
    refine lv_aload_n hx hb dX13_reads_17 rfl (lv_at hl 1 rfl) ?_
    refine lv_iconst (v := 2) hx hb dX13_reads_18 (by decide) ?_
    refine va_put (D := (dC, dI)) (ci := 16) (fs := mF ad v) (v := .int 2) (ty := .int) (C := RX13) (T := TX13) (N := 124) hx hb ht itX13 tyX13 tyX13_ok nmX13 hown hK hP hD hS 0 rfl rfl 99 (by decide) (ht _ tw_210) (fun _ h9 => h9) rfl (by decide +kernel) rfl rfl (Nat.le_of_ble_eq_true rfl) dX13_reads_19 (fun H locs hP hD hS => ?_)
    have hP := cP_ (mw_99 ad N cI cZ cJ v 2) hP
    have hD := cD_ (mw_99 ad N cI cZ cJ v 2) hD
    exact W.vret hx hb hr (fun t ht9 hW => ⟨⟨(wA v 0 99 2), rfl, (FG.f (FG.rf _) 2 (by decide)), by rw [ht9]; exact hP, hD⟩, hS.F ht9⟩) hS.2.2 dX13_reads_22
  · have z3 : pc1.toInt ≠ (3 : Int) := ne_z rfl (show (3 : Int32).toInt = (3 : Int) by decide) h1
    refine lv_iload_n hx hb dX13_reads_12 rfl (lv_at hl 4 rfl) ?_
    refine lv_iconst (v := 5) hx hb dX13_reads_13 (by decide) ?_
    refine lv_icmp_le (tgt := 23) hx hb dX13_reads_14 (by decide) (fun h4 => ?_) (fun h4 => ?_)
    · have z5 : pc1.toInt ≤ (5 : Int) := le_z rfl (show (5 : Int32).toInt = (5 : Int) by decide) h4
      refine lv_iload hx hb dX13_reads_23 (lv_at hl 5 rfl) ?_
      refine lv_iload hx hb dX13_reads_25 (lv_at hl 0 rfl) ?_
      refine lv_iconst (v := 1) hx hb dX13_reads_27 (by decide) ?_
      refine lv_isub hx hb dX13_reads_28 ?_
      have q6 : 1 ≤ ((1 : Int32) <<< ((pc1 &&& (3 : Int32)) &&& 31)).toInt ∧ ((1 : Int32) <<< ((pc1 &&& (3 : Int32)) &&& 31)).toInt ≤ 8 := many_f pc1
      have z7 : (((1 : Int32) <<< ((pc1 &&& (3 : Int32)) &&& 31)) - (1 : Int32)).toInt = (((1 : Int32) <<< ((pc1 &&& (3 : Int32)) &&& 31)).toInt) - (1 : Int) := sub_z rfl (show (1 : Int32).toInt = (1 : Int) by decide) (om_83ec6b9225 q6) (om_2bd1988f28 q6)
      refine lv_iand hx hb dX13_reads_29 ?_
      refine lv_if_ne (tgt := 44) hx hb dX13_reads_30 (by decide) (fun h8 => ?_) (fun h8 => ?_)
      · have z9 : (pd &&& (((1 : Int32) <<< ((pc1 &&& (3 : Int32)) &&& 31)) - (1 : Int32))).toInt ≠ (0 : Int) := ne_z rfl (show (0 : Int32).toInt = (0 : Int) by decide) h8
        refine lv_aload_n hx hb dX13_reads_44 rfl (lv_at hl 1 rfl) ?_
        refine lv_iconst (v := 3) hx hb dX13_reads_45 (by decide) ?_
        refine va_put (D := (dC, dI)) (ci := 16) (fs := mF ad v) (v := .int 3) (ty := .int) (C := RX13) (T := TX13) (N := 124) hx hb ht itX13 tyX13 tyX13_ok nmX13 hown hK hP hD hS 0 rfl rfl 99 (by decide) (ht _ tw_210) (fun _ h9 => h9) rfl (by decide +kernel) rfl rfl (Nat.le_of_ble_eq_true rfl) dX13_reads_46 (fun H locs hP hD hS => ?_)
        have hP := cP_ (mw_99 ad N cI cZ cJ v 3) hP
        have hD := cD_ (mw_99 ad N cI cZ cJ v 3) hD
        exact W.vret hx hb hr (fun t ht9 hW => ⟨⟨(wA v 0 99 3), rfl, (FG.f (FG.rf _) 3 (by decide)), by rw [ht9]; exact hP, hD⟩, hS.F ht9⟩) hS.2.2 dX13_reads_49
      · have z10 : (pd &&& (((1 : Int32) <<< ((pc1 &&& (3 : Int32)) &&& 31)) - (1 : Int32))).toInt = (0 : Int) := eq_z rfl (show (0 : Int32).toInt = (0 : Int) by decide) h8
        refine lv_aload_n hx hb dX13_reads_33 rfl (lv_at hl 1 rfl) ?_
        refine lv_iload hx hb dX13_reads_34 (lv_at hl 5 rfl) ?_
        refine lv_iload hx hb dX13_reads_36 (lv_at hl 0 rfl) ?_
        refine cu_i (rn_V (n := 2) (As := [.int pd, .int ((1 : Int32) <<< ((pc1 &&& (3 : Int32)) &&& 31))]) (rest := []) hx hb hml hown ht hKK hFx hP hD hS hA (c_m_isIn l dC dI cI cB cZ cJ cR tb s.heap.size ad N v pd ((1 : Int32) <<< ((pc1 &&& (3 : Int32)) &&& 31)) (show (256 : Int) ≤ (N : Int) ∧ (N : Int) ≤ 4096 from (om_c42fe0fb85 zN)) (show 0 ≤ ((1 : Int32) <<< ((pc1 &&& (3 : Int32)) &&& 31)).toInt ∧ ((1 : Int32) <<< ((pc1 &&& (3 : Int32)) &&& 31)).toInt ≤ 8 from (om_9a10302abe q6))) tw_214 tw_215 (by decide +kernel) rfl rfl ⟨Nat.le_of_ble_eq_true rfl, Nat.le_of_ble_eq_true rfl⟩ (List.range (mW ad N cI cZ cJ v).length) (rg_map _) (mW_nd _ _ _ _ _ _) rfl rfl rfl rfl hl.1 rfl (Nat.le_of_ble_eq_true rfl) dX13_reads_38 ⟨Nat.le_of_ble_eq_true rfl, Nat.le_of_ble_eq_true rfl⟩) hP hD hS hA (fun r13 u12 H locs hw11 hP hD hS => ?_)
        obtain ⟨rfl, b11, e11, g11, gn11⟩ := hw11
        refine W.widen (k := 0) (n := 0) (Nat.le_refl _) (Nat.le_refl _) ?_
        refine lv_if_ne (tgt := 50) hx hb dX13_reads_41 (by decide) (fun h14 => ?_) (fun h14 => ?_)
        · have z15 : r13.toInt ≠ (0 : Int) := ne_z rfl (show (0 : Int32).toInt = (0 : Int) by decide) h14
          refine lv_iconst (v := 0) hx hb dX13_reads_50 (by decide) ?_
          refine lv_istore (lv' := [(6, .int 0), (5, .int ((1 : Int32) <<< ((pc1 &&& (3 : Int32)) &&& 31))), (0, .ref (ad 0)), (1, .int pa), (2, .int pb), (3, .int pc1), (4, .int pd)]) hx hb dX13_reads_51 hl (by decide) rfl (fun ls hl => ?_)
          refine lv_iload hx hb dX13_reads_53 (lv_at hl 1 rfl) ?_
          refine lv_iconst (v := 1) hx hb dX13_reads_55 (by decide) ?_
          refine lv_isub hx hb dX13_reads_56 ?_
          have z16 : (((1 : Int32) <<< ((pc1 &&& (3 : Int32)) &&& 31)) - (1 : Int32)).toInt = (((1 : Int32) <<< ((pc1 &&& (3 : Int32)) &&& 31)).toInt) - (1 : Int) := sub_z rfl (show (1 : Int32).toInt = (1 : Int) by decide) (om_83ec6b9225 q6) (om_2bd1988f28 q6)
          refine lv_istore (lv' := [(7, .int (((1 : Int32) <<< ((pc1 &&& (3 : Int32)) &&& 31)) - (1 : Int32))), (6, .int 0), (5, .int ((1 : Int32) <<< ((pc1 &&& (3 : Int32)) &&& 31))), (0, .ref (ad 0)), (1, .int pa), (2, .int pb), (3, .int pc1), (4, .int pd)]) hx hb dX13_reads_57 hl (by decide) rfl (fun ls hl => ?_)
          refine lpm_ (X := Int32 × Int32) (P := (fun (x9 : Int32 × Int32) (H : Heap) (locs : List Loc) (ls : Array Slot) => (-1 ≤ x9.1.toInt ∧ x9.1.toInt < ((1 : Int32) <<< ((pc1 &&& (3 : Int32)) &&& 31)).toInt) ∧ va_P (dC, dI) vwCl (mW ad N cI cZ cJ v) H ∧ va_D A (mW ad N cI cZ cJ v) ∧ va_S A s.heap H locs ∧ lv_has ls 8 [(7, .int x9.1), (6, .int x9.2), (5, .int ((1 : Int32) <<< ((pc1 &&& (3 : Int32)) &&& 31))), (0, .ref (ad 0)), (1, .int pa), (2, .int pb), (3, .int pc1), (4, .int pd)])) (fun x9 => (x9.1.toInt + 1).toNat) 59 (fun x9 H locs ls hh ih59 => ?_) ((((1 : Int32) <<< ((pc1 &&& (3 : Int32)) &&& 31)) - (1 : Int32)), 0) _ _ _ ⟨(show -1 ≤ (((1 : Int32) <<< ((pc1 &&& (3 : Int32)) &&& 31)) - (1 : Int32)).toInt ∧ (((1 : Int32) <<< ((pc1 &&& (3 : Int32)) &&& 31)) - (1 : Int32)).toInt < ((1 : Int32) <<< ((pc1 &&& (3 : Int32)) &&& 31)).toInt from (om_bd5f6a9ad3 q6 z7)), hP, hD, hS, lv_sub hl [0, 1, 2, 3, 4, 5, 6, 7] rfl⟩
          obtain ⟨ka, va⟩ := x9
          obtain ⟨f1L59, hP, hD, hS, hl⟩ := hh
          have f1L59 : -1 ≤ ka.toInt ∧ ka.toInt < ((1 : Int32) <<< ((pc1 &&& (3 : Int32)) &&& 31)).toInt := f1L59
          have hl : lv_has ls 8 [(7, .int ka), (6, .int va), (5, .int ((1 : Int32) <<< ((pc1 &&& (3 : Int32)) &&& 31))), (0, .ref (ad 0)), (1, .int pa), (2, .int pb), (3, .int pc1), (4, .int pd)] := hl
          refine lv_iload hx hb dX13_reads_59 (lv_at hl 0 rfl) ?_
          refine lv_if_lt (tgt := 87) hx hb dX13_reads_61 (by decide) (fun h17 => ?_) (fun h17 => ?_)
          · have z18 : ka.toInt < (0 : Int) := lt_z rfl (show (0 : Int32).toInt = (0 : Int) by decide) h17
            refine lv_aload_n hx hb dX13_reads_87 rfl (lv_at hl 3 rfl) ?_
            refine lv_iload_n hx hb dX13_reads_88 rfl (lv_at hl 5 rfl) ?_
            refine lv_iload_n hx hb dX13_reads_89 rfl (lv_at hl 6 rfl) ?_
            refine lv_if_ne (tgt := 99) hx hb dX13_reads_90 (by decide) (fun h19 => ?_) (fun h19 => ?_)
            · have z20 : pc1.toInt ≠ (0 : Int) := ne_z rfl (show (0 : Int32).toInt = (0 : Int) by decide) h19
              refine lv_iload_n hx hb dX13_reads_99 rfl (lv_at hl 6 rfl) ?_
              refine lv_iconst (v := 1) hx hb dX13_reads_100 (by decide) ?_
              refine lv_icmp_ne (tgt := 110) hx hb dX13_reads_101 (by decide) (fun h21 => ?_) (fun h21 => ?_)
              · have z22 : pc1.toInt ≠ (1 : Int) := ne_z rfl (show (1 : Int32).toInt = (1 : Int) by decide) h21
                refine lv_iload hx hb dX13_reads_110 (lv_at hl 1 rfl) ?_
                refine cu_v (rn_V (n := 2) (As := [.int pb, .int va]) (rest := []) hx hb hml hown ht hKK hFx hP hD hS hA (c_m_goes l dC dI cI cB cZ cJ cR tb H.size ad N v pb va (show 0 ≤ pb.toInt ∧ pb.toInt < 32 from (om_325f1a4150 zr))) tw_216 tw_217 (by decide +kernel) rfl rfl ⟨Nat.le_of_ble_eq_true rfl, Nat.le_of_ble_eq_true rfl⟩ (List.range (mW ad N cI cZ cJ v).length) (rg_map _) (mW_nd _ _ _ _ _ _) rfl rfl rfl rfl hl.1 rfl (Nat.le_of_ble_eq_true rfl) dX13_reads_112 ⟨Nat.le_of_ble_eq_true rfl, Nat.le_of_ble_eq_true rfl⟩) hP hD hS hA (fun u24 H locs hw23 hP hD hS => ?_)
                have fr23 := hw23
                refine W.widen (k := 0) (n := 0) (Nat.le_refl _) (Nat.le_refl _) ?_
                exact W.vret hx hb hr (fun t ht9 hW => ⟨⟨u24, rfl, (FG.tr (FG.rf _) (FG.up fr23 (by decide) (by decide))), by rw [ht9]; exact hP, hD⟩, hS.F ht9⟩) hS.2.2 dX13_reads_115
              · have z26 : pc1.toInt = (1 : Int) := eq_z rfl (show (1 : Int32).toInt = (1 : Int) by decide) h21
                refine lv_iload hx hb dX13_reads_104 (lv_at hl 1 rfl) ?_
                refine lv_i2s hx hb dX13_reads_106 rfl ?_
                refine lv_goto (tgt := 112) hx hb dX13_reads_107 (by decide) ?_
                refine cu_v (rn_V (n := 2) (As := [.int pb, .int (va.toInt16.toInt32)]) (rest := []) hx hb hml hown ht hKK hFx hP hD hS hA (c_m_goes l dC dI cI cB cZ cJ cR tb H.size ad N v pb (va.toInt16.toInt32) (show 0 ≤ pb.toInt ∧ pb.toInt < 32 from (om_325f1a4150 zr))) tw_216 tw_217 (by decide +kernel) rfl rfl ⟨Nat.le_of_ble_eq_true rfl, Nat.le_of_ble_eq_true rfl⟩ (List.range (mW ad N cI cZ cJ v).length) (rg_map _) (mW_nd _ _ _ _ _ _) rfl rfl rfl rfl hl.1 rfl (Nat.le_of_ble_eq_true rfl) dX13_reads_112 ⟨Nat.le_of_ble_eq_true rfl, Nat.le_of_ble_eq_true rfl⟩) hP hD hS hA (fun u28 H locs hw27 hP hD hS => ?_)
                have fr27 := hw27
                refine W.widen (k := 0) (n := 0) (Nat.le_refl _) (Nat.le_refl _) ?_
                exact W.vret hx hb hr (fun t ht9 hW => ⟨⟨u28, rfl, (FG.tr (FG.rf _) (FG.up fr27 (by decide) (by decide))), by rw [ht9]; exact hP, hD⟩, hS.F ht9⟩) hS.2.2 dX13_reads_115
            · have z30 : pc1.toInt = (0 : Int) := eq_z rfl (show (0 : Int32).toInt = (0 : Int) by decide) h19
              refine lv_iload hx hb dX13_reads_93 (lv_at hl 1 rfl) ?_
              refine lv_i2b hx hb dX13_reads_95 rfl ?_
              refine lv_goto (tgt := 112) hx hb dX13_reads_96 (by decide) ?_
              refine cu_v (rn_V (n := 2) (As := [.int pb, .int (va.toInt8.toInt32)]) (rest := []) hx hb hml hown ht hKK hFx hP hD hS hA (c_m_goes l dC dI cI cB cZ cJ cR tb H.size ad N v pb (va.toInt8.toInt32) (show 0 ≤ pb.toInt ∧ pb.toInt < 32 from (om_325f1a4150 zr))) tw_216 tw_217 (by decide +kernel) rfl rfl ⟨Nat.le_of_ble_eq_true rfl, Nat.le_of_ble_eq_true rfl⟩ (List.range (mW ad N cI cZ cJ v).length) (rg_map _) (mW_nd _ _ _ _ _ _) rfl rfl rfl rfl hl.1 rfl (Nat.le_of_ble_eq_true rfl) dX13_reads_112 ⟨Nat.le_of_ble_eq_true rfl, Nat.le_of_ble_eq_true rfl⟩) hP hD hS hA (fun u32 H locs hw31 hP hD hS => ?_)
              have fr31 := hw31
              refine W.widen (k := 0) (n := 0) (Nat.le_refl _) (Nat.le_refl _) ?_
              exact W.vret hx hb hr (fun t ht9 hW => ⟨⟨u32, rfl, (FG.tr (FG.rf _) (FG.up fr31 (by decide) (by decide))), by rw [ht9]; exact hP, hD⟩, hS.F ht9⟩) hS.2.2 dX13_reads_115
          · have z34 : (0 : Int) ≤ ka.toInt := nlt_z rfl (show (0 : Int32).toInt = (0 : Int) by decide) h17
            refine lv_iload hx hb dX13_reads_64 (lv_at hl 1 rfl) ?_
            refine lv_bipush (v := 8) hx hb dX13_reads_66 (by decide) ?_
            refine lv_ishl hx hb dX13_reads_68 ?_
            refine lv_aload_n hx hb dX13_reads_69 rfl (lv_at hl 3 rfl) ?_
            refine lv_iload hx hb dX13_reads_70 (lv_at hl 7 rfl) ?_
            refine lv_iload hx hb dX13_reads_72 (lv_at hl 0 rfl) ?_
            refine lv_iadd hx hb dX13_reads_74 ?_
            have z35 : (pd + ka).toInt = pd.toInt + ka.toInt := add_z rfl rfl (om_65c4c275ae e11 g11 z15 f1L59) (om_c5bf957c03 zN e11 g11 z15 f1L59)
            refine cu_i (rn_V (n := 1) (As := [.int (pd + ka)]) (rest := [.int (va <<< ((8 : Int32) &&& 31))]) hx hb hml hown ht hKK hFx hP hD hS hA (c_m_byteAt l dC dI cI cB cZ cJ cR tb H.size ad N v (pd + ka) (show (256 : Int) ≤ (N : Int) ∧ (N : Int) ≤ 4096 from (om_c42fe0fb85 zN)) (show 0 ≤ (pd + ka).toInt ∧ (pd + ka).toInt < 4 * (N : Int) from (om_a122c35c2e e11 g11 z15 f1L59 z34 z35))) tw_218 tw_219 (by decide +kernel) rfl rfl ⟨Nat.le_of_ble_eq_true rfl, Nat.le_of_ble_eq_true rfl⟩ (List.range (mW ad N cI cZ cJ v).length) (rg_map _) (mW_nd _ _ _ _ _ _) rfl rfl rfl rfl hl.1 rfl (Nat.le_of_ble_eq_true rfl) dX13_reads_75 ⟨Nat.le_of_ble_eq_true rfl, Nat.le_of_ble_eq_true rfl⟩) hP hD hS hA (fun r38 u37 H locs hw36 hP hD hS => ?_)
            obtain rfl := hw36
            refine W.widen (k := 0) (n := 0) (Nat.le_refl _) (Nat.le_refl _) ?_
            refine lv_ior hx hb dX13_reads_78 ?_
            refine lv_istore (lv' := [(6, .int ((va <<< ((8 : Int32) &&& 31)) ||| r38)), (7, .int ka), (5, .int ((1 : Int32) <<< ((pc1 &&& (3 : Int32)) &&& 31))), (0, .ref (ad 0)), (1, .int pa), (2, .int pb), (3, .int pc1), (4, .int pd)]) hx hb dX13_reads_79 hl (by decide) rfl (fun ls hl => ?_)
            refine lv_iinc (v := (ka + (-1 : Int32))) (lv' := [(7, .int (ka + (-1 : Int32))), (6, .int ((va <<< ((8 : Int32) &&& 31)) ||| r38)), (5, .int ((1 : Int32) <<< ((pc1 &&& (3 : Int32)) &&& 31))), (0, .ref (ad 0)), (1, .int pa), (2, .int pb), (3, .int pc1), (4, .int pd)]) hx hb dX13_reads_81 hl (k := 1) rfl (rfl) (by decide) rfl (fun ls hl => ?_)
            have z39 : (ka + (-1 : Int32)).toInt = ka.toInt + (-1 : Int) := add_z rfl (show ((-1) : Int32).toInt = (-1 : Int) by decide) (om_aad7ab9b89 f1L59) (om_a40b7525a3 q6 f1L59)
            refine lv_goto (tgt := 59) hx hb dX13_reads_84 (by decide) ?_
            exact ih59 ((ka + (-1 : Int32)), ((va <<< ((8 : Int32) &&& 31)) ||| r38)) _ _ _ (show ((ka + (-1 : Int32)).toInt + 1).toNat < (ka.toInt + 1).toNat from tn_z (om_3e134d9ec9 z39) (om_ff03e7c988 z34)) ⟨(show -1 ≤ (ka + (-1 : Int32)).toInt ∧ (ka + (-1 : Int32)).toInt < ((1 : Int32) <<< ((pc1 &&& (3 : Int32)) &&& 31)).toInt from (om_0c05f7229d f1L59 z34 z39)), hP, hD, hS, lv_sub hl [0, 1, 2, 3, 4, 5, 6, 7] rfl⟩
        · have z40 : r13.toInt = (0 : Int) := eq_z rfl (show (0 : Int32).toInt = (0 : Int) by decide) h14
          refine lv_aload_n hx hb dX13_reads_44 rfl (lv_at hl 1 rfl) ?_
          refine lv_iconst (v := 3) hx hb dX13_reads_45 (by decide) ?_
          refine va_put (D := (dC, dI)) (ci := 16) (fs := mF ad v) (v := .int 3) (ty := .int) (C := RX13) (T := TX13) (N := 124) hx hb ht itX13 tyX13 tyX13_ok nmX13 hown hK hP hD hS 0 rfl rfl 99 (by decide) (ht _ tw_210) (fun _ h9 => h9) rfl (by decide +kernel) rfl rfl (Nat.le_of_ble_eq_true rfl) dX13_reads_46 (fun H locs hP hD hS => ?_)
          have hP := cP_ (mw_99 ad N cI cZ cJ v 3) hP
          have hD := cD_ (mw_99 ad N cI cZ cJ v 3) hD
          exact W.vret hx hb hr (fun t ht9 hW => ⟨⟨(wA v 0 99 3), rfl, (FG.f (FG.rf _) 3 (by decide)), by rw [ht9]; exact hP, hD⟩, hS.F ht9⟩) hS.2.2 dX13_reads_49
    · have z41 : (5 : Int) < pc1.toInt := nle_z rfl (show (5 : Int32).toInt = (5 : Int) by decide) h4
      refine lv_aload_n hx hb dX13_reads_17 rfl (lv_at hl 1 rfl) ?_
      refine lv_iconst (v := 2) hx hb dX13_reads_18 (by decide) ?_
      refine va_put (D := (dC, dI)) (ci := 16) (fs := mF ad v) (v := .int 2) (ty := .int) (C := RX13) (T := TX13) (N := 124) hx hb ht itX13 tyX13 tyX13_ok nmX13 hown hK hP hD hS 0 rfl rfl 99 (by decide) (ht _ tw_210) (fun _ h9 => h9) rfl (by decide +kernel) rfl rfl (Nat.le_of_ble_eq_true rfl) dX13_reads_19 (fun H locs hP hD hS => ?_)
      have hP := cP_ (mw_99 ad N cI cZ cJ v 2) hP
      have hD := cD_ (mw_99 ad N cI cZ cJ v 2) hD
      exact W.vret hx hb hr (fun t ht9 hW => ⟨⟨(wA v 0 99 2), rfl, (FG.f (FG.rf _) 2 (by decide)), by rw [ht9]; exact hP, hD⟩, hS.F ht9⟩) hS.2.2 dX13_reads_22
theorem om_cae0aed8b1 {x0 : Int} (h0 : 1 ≤ x0 ∧ x0 ≤ 8) : 0 ≤ (0 : Int) ∧ (0 : Int) ≤ x0 := by omega
theorem om_91e2bda697 {x0 x1 x2 x4 : Int} {n3 : Nat} (h0 : (0 ≤ x0 ∧ x0 ≤ 1)) (h1 : (x0 = 0 ∨ (0 ≤ x1 ∧ x1 + x2 ≤ 4 * (n3 : Int)))) (h2 : x0 ≠ (0 : Int)) (h3 : 0 ≤ x4 ∧ x4 ≤ x2) : -2147483648 ≤ x1 + x4 := by omega
theorem om_b1542b1f0e {x1 x2 x3 x4 : Int} {n0 : Nat} (h0 : (256 : Int) ≤ (n0 : Int) ∧ (n0 : Int) ≤ 4096) (h1 : (0 ≤ x1 ∧ x1 ≤ 1)) (h2 : (x1 = 0 ∨ (0 ≤ x2 ∧ x2 + x3 ≤ 4 * (n0 : Int)))) (h3 : x1 ≠ (0 : Int)) (h4 : 0 ≤ x4 ∧ x4 ≤ x3) : x2 + x4 < 2147483648 := by omega
theorem om_8d3bd89531 {x0 x1 : Int} (h0 : 0 ≤ x0 ∧ x0 ≤ x1) : -2147483648 ≤ (8 : Int) * x0 := by omega
theorem om_76cd331edd {x0 x1 : Int} (h0 : 1 ≤ x0 ∧ x0 ≤ 8) (h1 : 0 ≤ x1 ∧ x1 ≤ x0) : (8 : Int) * x1 < 2147483648 := by omega
theorem om_254ee4ca8e {x0 x1 x2 x4 x5 : Int} {n3 : Nat} (h0 : (0 ≤ x0 ∧ x0 ≤ 1)) (h1 : (x0 = 0 ∨ (0 ≤ x1 ∧ x1 + x2 ≤ 4 * (n3 : Int)))) (h2 : x0 ≠ (0 : Int)) (h3 : 0 ≤ x4 ∧ x4 ≤ x2) (h4 : x4 < x2) (h5 : x5 = x1 + x4) : 0 ≤ x5 ∧ x5 < 4 * (n3 : Int) := by omega
theorem om_0cc9cd1209 {x0 x1 : Int} (h0 : 1 ≤ x0 ∧ x0 ≤ 8) (h1 : 0 ≤ x1 ∧ x1 ≤ x0) : x1 + (1 : Int) < 2147483648 := by omega
theorem om_ca7f7afb18 {x0 x1 x2 : Int} (h0 : 0 ≤ x0 ∧ x0 ≤ x1) (h1 : x0 < x1) (h2 : x2 = x0 + (1 : Int)) : 0 ≤ x2 ∧ x2 ≤ x1 := by omega
theorem om_b748f63e0b {x0 x1 : Int} (h0 : 1 ≤ x0 ∧ x0 ≤ 8) (h1 : x1 < x0) : 0 < 8 - x1 := by omega
set_option maxHeartbeats 4000000 in
set_option maxRecDepth 100000 in
theorem c_m_writes (l : Launch) (dC : Nat → ClassId) (dI : Nat → Nat → Nat) (cI cB cZ cJ cR : ClassId) (tb : Nat → Nat) (sz : Nat) (ad : Nat → Nat) (N : Nat) (v : MS) (pa : Int32) (pb : Int32) (pc1 : Int32) (zN : (256 : Int) ≤ (N : Int) ∧ (N : Int) ≤ 4096) (zf : 0 ≤ pa.toInt ∧ pa.toInt < 8) : Met l yX13_writes (Cond.code yX13_writes cX13_writes 6 none :: tw_W) ({ frames := 1, cells := 0, slots := 0, locals := 24 }) (pc_ (dC, dI) (tyS cI cB cZ cJ cR) tb (mW ad N cI cZ cJ v) sz [.ref (ad 0), .int pa, .int pb, .int pc1]) (qv_ (dC, dI) (mW ad N cI cZ cJ v) sz (fun (u : MS) => FG [98, 99] [0, 96] v u) (fun (u : MS) => (mW ad N cI cZ cJ u))) 0 0 (va_A (mW ad N cI cZ cJ v) sz) := by
  refine Met.ofW (cc := cX13_writes) (maxL := 6) (ret := none) (by decide) rfl ?_
  intro p e s m args below meth c s₁ B hml hv
  obtain ⟨rfl, hsz, hP, hKK, hD0, hFx⟩ := hv
  have hK := hKK.1
  have hx := B.exec
  have hb := B.bytes
  have hr := B.returns
  have ht : ∀ w ∈ tw_W, w.before _ s = true := fun w h => atoms_spec (ws := Cond.code yX13_writes cX13_writes 6 none :: tw_W) B.pre w (List.mem_cons_of_mem _ h)
  have hown : s.vm.findClass RX13 = some m.cls := findClass_of_methodNamed B.named
  have hlocks := B.notSynchronized
  subst hsz
  unfold qv_
  have hD := hD0.self (sz := s.heap.size)
  generalize hAe : va_A (mW ad N cI cZ cJ v) s.heap.size = A at hD hFx ⊢
  have hA : ∀ q : Nat, s.heap.size ≤ q → A q := fun q h => by rw [← hAe]; exact Or.inr h
  have hS : va_S A s.heap s.heap [] := va_S.rf
  have hl := lv_entry ([.ref (ad 0), .int pa, .int pb, .int pc1]) (n := 6) (Nat.le_of_ble_eq_true rfl)
  rw [lg_entry_eq]
  generalize (lg_sl ([.ref (ad 0), .int pa, .int pb, .int pc1]) ++ List.replicate (6 - (lg_sl ([.ref (ad 0), .int pa, .int pb, .int pc1])).length) Slot.unset).toArray = ls at hl ⊢
  have hl : lv_has ls 6 [(0, .ref (ad 0)), (1, .int pa), (2, .int pb), (3, .int pc1)] := hl
  refine lv_iconst (v := 1) hx hb dX13_writes_0 (by decide) ?_
  refine lv_iload_n hx hb dX13_writes_1 rfl (lv_at hl 1 rfl) ?_
  refine lv_iconst (v := 3) hx hb dX13_writes_2 (by decide) ?_
  refine lv_iand hx hb dX13_writes_3 ?_
  refine lv_ishl hx hb dX13_writes_4 ?_
  refine lv_istore (lv' := [(4, .int ((1 : Int32) <<< ((pa &&& (3 : Int32)) &&& 31))), (0, .ref (ad 0)), (1, .int pa), (2, .int pb), (3, .int pc1)]) hx hb dX13_writes_5 hl (by decide) rfl (fun ls hl => ?_)
  refine lv_iload_n hx hb dX13_writes_7 rfl (lv_at hl 2 rfl) ?_
  refine lv_iconst (v := 2) hx hb dX13_writes_8 (by decide) ?_
  refine lv_icmp_le (tgt := 18) hx hb dX13_writes_9 (by decide) (fun h1 => ?_) (fun h1 => ?_)
  · have z2 : pa.toInt ≤ (2 : Int) := le_z rfl (show (2 : Int32).toInt = (2 : Int) by decide) h1
    refine lv_iload_n hx hb dX13_writes_18 rfl (lv_at hl 3 rfl) ?_
    refine lv_iload hx hb dX13_writes_19 (lv_at hl 0 rfl) ?_
    refine lv_iconst (v := 1) hx hb dX13_writes_21 (by decide) ?_
    refine lv_isub hx hb dX13_writes_22 ?_
    have q3 : 1 ≤ ((1 : Int32) <<< ((pa &&& (3 : Int32)) &&& 31)).toInt ∧ ((1 : Int32) <<< ((pa &&& (3 : Int32)) &&& 31)).toInt ≤ 8 := many_f pa
    have z4 : (((1 : Int32) <<< ((pa &&& (3 : Int32)) &&& 31)) - (1 : Int32)).toInt = (((1 : Int32) <<< ((pa &&& (3 : Int32)) &&& 31)).toInt) - (1 : Int) := sub_z rfl (show (1 : Int32).toInt = (1 : Int) by decide) (om_83ec6b9225 q3) (om_2bd1988f28 q3)
    refine lv_iand hx hb dX13_writes_23 ?_
    refine lv_if_ne (tgt := 37) hx hb dX13_writes_24 (by decide) (fun h5 => ?_) (fun h5 => ?_)
    · have z6 : (pb &&& (((1 : Int32) <<< ((pa &&& (3 : Int32)) &&& 31)) - (1 : Int32))).toInt ≠ (0 : Int) := ne_z rfl (show (0 : Int32).toInt = (0 : Int) by decide) h5
      refine lv_aload_n hx hb dX13_writes_37 rfl (lv_at hl 1 rfl) ?_
      refine lv_iconst (v := 3) hx hb dX13_writes_38 (by decide) ?_
      refine va_put (D := (dC, dI)) (ci := 16) (fs := mF ad v) (v := .int 3) (ty := .int) (C := RX13) (T := TX13) (N := 124) hx hb ht itX13 tyX13 tyX13_ok nmX13 hown hK hP hD hS 0 rfl rfl 99 (by decide) (ht _ tw_210) (fun _ h9 => h9) rfl (by decide +kernel) rfl rfl (Nat.le_of_ble_eq_true rfl) dX13_writes_39 (fun H locs hP hD hS => ?_)
      have hP := cP_ (mw_99 ad N cI cZ cJ v 3) hP
      have hD := cD_ (mw_99 ad N cI cZ cJ v 3) hD
      exact W.vret hx hb hr (fun t ht9 hW => ⟨⟨(wA v 0 99 3), rfl, (FG.f (FG.rf _) 3 (by decide)), by rw [ht9]; exact hP, hD⟩, hS.F ht9⟩) hS.2.2 dX13_writes_42
    · have z7 : (pb &&& (((1 : Int32) <<< ((pa &&& (3 : Int32)) &&& 31)) - (1 : Int32))).toInt = (0 : Int) := eq_z rfl (show (0 : Int32).toInt = (0 : Int) by decide) h5
      refine lv_aload_n hx hb dX13_writes_27 rfl (lv_at hl 1 rfl) ?_
      refine lv_iload_n hx hb dX13_writes_28 rfl (lv_at hl 3 rfl) ?_
      refine lv_iload hx hb dX13_writes_29 (lv_at hl 0 rfl) ?_
      refine cu_i (rn_V (n := 2) (As := [.int pb, .int ((1 : Int32) <<< ((pa &&& (3 : Int32)) &&& 31))]) (rest := []) hx hb hml hown ht hKK hFx hP hD hS hA (c_m_isIn l dC dI cI cB cZ cJ cR tb s.heap.size ad N v pb ((1 : Int32) <<< ((pa &&& (3 : Int32)) &&& 31)) (show (256 : Int) ≤ (N : Int) ∧ (N : Int) ≤ 4096 from (om_c42fe0fb85 zN)) (show 0 ≤ ((1 : Int32) <<< ((pa &&& (3 : Int32)) &&& 31)).toInt ∧ ((1 : Int32) <<< ((pa &&& (3 : Int32)) &&& 31)).toInt ≤ 8 from (om_9a10302abe q3))) tw_214 tw_215 (by decide +kernel) rfl rfl ⟨Nat.le_of_ble_eq_true rfl, Nat.le_of_ble_eq_true rfl⟩ (List.range (mW ad N cI cZ cJ v).length) (rg_map _) (mW_nd _ _ _ _ _ _) rfl rfl rfl rfl hl.1 rfl (Nat.le_of_ble_eq_true rfl) dX13_writes_31 ⟨Nat.le_of_ble_eq_true rfl, Nat.le_of_ble_eq_true rfl⟩) hP hD hS hA (fun r11 u10 H locs hw8 hP hD hS => ?_)
      obtain ⟨rfl, b8, e8, g8, gn8⟩ := hw8
      refine W.widen (k := 0) (n := 0) (Nat.le_refl _) (Nat.le_refl _) ?_
      refine lv_if_ne (tgt := 43) hx hb dX13_writes_34 (by decide) (fun h12 => ?_) (fun h12 => ?_)
      · have z13 : r11.toInt ≠ (0 : Int) := ne_z rfl (show (0 : Int32).toInt = (0 : Int) by decide) h12
        refine lv_iconst (v := 0) hx hb dX13_writes_43 (by decide) ?_
        refine lv_istore (lv' := [(5, .int 0), (4, .int ((1 : Int32) <<< ((pa &&& (3 : Int32)) &&& 31))), (0, .ref (ad 0)), (1, .int pa), (2, .int pb), (3, .int pc1)]) hx hb dX13_writes_44 hl (by decide) rfl (fun ls hl => ?_)
        refine lpm_ (X := Int32 × MS) (P := (fun (x9 : Int32 × MS) (H : Heap) (locs : List Loc) (ls : Array Slot) => (FG [] [96] v x9.2) ∧ (0 ≤ x9.1.toInt ∧ x9.1.toInt ≤ ((1 : Int32) <<< ((pa &&& (3 : Int32)) &&& 31)).toInt) ∧ va_P (dC, dI) vwCl (mW ad N cI cZ cJ x9.2) H ∧ va_D A (mW ad N cI cZ cJ x9.2) ∧ va_S A s.heap H locs ∧ lv_has ls 6 [(5, .int x9.1), (4, .int ((1 : Int32) <<< ((pa &&& (3 : Int32)) &&& 31))), (0, .ref (ad 0)), (1, .int pa), (2, .int pb), (3, .int pc1)])) (fun x9 => (8 - x9.1.toInt).toNat) 46 (fun x9 H locs ls hh ih46 => ?_) (0, v) _ _ _ ⟨(show FG [] [96] v v from (FG.rf _)), (show 0 ≤ (0 : Int) ∧ (0 : Int) ≤ ((1 : Int32) <<< ((pa &&& (3 : Int32)) &&& 31)).toInt from (om_cae0aed8b1 q3)), hP, hD, hS, lv_sub hl [0, 1, 2, 3, 4, 5] rfl⟩
        obtain ⟨kb, w46⟩ := x9
        obtain ⟨fwL46, e1L46, hP, hD, hS, hl⟩ := hh
        have fwL46 : FG [] [96] v w46 := fwL46
        have e1L46 : 0 ≤ kb.toInt ∧ kb.toInt ≤ ((1 : Int32) <<< ((pa &&& (3 : Int32)) &&& 31)).toInt := e1L46
        have hP : va_P (dC, dI) vwCl (mW ad N cI cZ cJ w46) H := hP
        have hD : va_D A (mW ad N cI cZ cJ w46) := hD
        have hl : lv_has ls 6 [(5, .int kb), (4, .int ((1 : Int32) <<< ((pa &&& (3 : Int32)) &&& 31))), (0, .ref (ad 0)), (1, .int pa), (2, .int pb), (3, .int pc1)] := hl
        refine lv_iload hx hb dX13_writes_46 (lv_at hl 0 rfl) ?_
        refine lv_iload hx hb dX13_writes_48 (lv_at hl 1 rfl) ?_
        refine lv_icmp_ge (tgt := 74) hx hb dX13_writes_50 (by decide) (fun h14 => ?_) (fun h14 => ?_)
        · have z15 : ((1 : Int32) <<< ((pa &&& (3 : Int32)) &&& 31)).toInt ≤ kb.toInt := le_z rfl rfl h14
          refine lv_aload_n hx hb dX13_writes_74 rfl (lv_at hl 2 rfl) ?_
          refine lv_dup hx hb dX13_writes_75 rfl ?_
          refine va_get (D := (dC, dI)) (ci := 16) (fs := mF ad w46) (v := .int (w46.1 0 98)) (C := RX13) (T := TX13) (N := 124) hx hb ht itX13 hown hK hP 0 rfl rfl 98 (by decide) (ht _ tw_208) (fun _ h9 => h9) rfl dX13_writes_76 ?_
          refine lv_iconst (v := 4) hx hb dX13_writes_79 (by decide) ?_
          refine lv_iadd hx hb dX13_writes_80 ?_
          refine va_put (D := (dC, dI)) (ci := 16) (fs := mF ad w46) (v := .int ((w46.1 0 98) + (4 : Int32))) (ty := .int) (C := RX13) (T := TX13) (N := 124) hx hb ht itX13 tyX13 tyX13_ok nmX13 hown hK hP hD hS 0 rfl rfl 98 (by decide) (ht _ tw_208) (fun _ h9 => h9) rfl (by decide +kernel) rfl rfl (Nat.le_of_ble_eq_true rfl) dX13_writes_81 (fun H locs hP hD hS => ?_)
          have hP := cP_ (mw_98 ad N cI cZ cJ w46 ((w46.1 0 98) + (4 : Int32))) hP
          have hD := cD_ (mw_98 ad N cI cZ cJ w46 ((w46.1 0 98) + (4 : Int32))) hD
          exact W.vret hx hb hr (fun t ht9 hW => ⟨⟨(wA w46 0 98 ((w46.1 0 98) + (4 : Int32))), rfl, (FG.f (FG.tr (FG.rf _) (FG.up fwL46 (by decide) (by decide))) ((w46.1 0 98) + (4 : Int32)) (by decide)), by rw [ht9]; exact hP, hD⟩, hS.F ht9⟩) hS.2.2 dX13_writes_84
        · have z16 : kb.toInt < ((1 : Int32) <<< ((pa &&& (3 : Int32)) &&& 31)).toInt := nle_z rfl rfl h14
          refine lv_aload_n hx hb dX13_writes_53 rfl (lv_at hl 2 rfl) ?_
          refine lv_iload_n hx hb dX13_writes_54 rfl (lv_at hl 4 rfl) ?_
          refine lv_iload hx hb dX13_writes_55 (lv_at hl 0 rfl) ?_
          refine lv_iadd hx hb dX13_writes_57 ?_
          have z17 : (pb + kb).toInt = pb.toInt + kb.toInt := add_z rfl rfl (om_91e2bda697 e8 g8 z13 e1L46) (om_b1542b1f0e zN e8 g8 z13 e1L46)
          refine lv_iload_n hx hb dX13_writes_58 rfl (lv_at hl 5 rfl) ?_
          refine lv_bipush (v := 8) hx hb dX13_writes_59 (by decide) ?_
          refine lv_iload hx hb dX13_writes_61 (lv_at hl 0 rfl) ?_
          refine lv_imul hx hb dX13_writes_63 ?_
          have z18 : ((8 : Int32) * kb).toInt = (8 : Int) * kb.toInt := mul_z (show (8 : Int32).toInt = (8 : Int) by decide) rfl (om_8d3bd89531 e1L46) (om_76cd331edd q3 e1L46)
          refine lv_ishr hx hb dX13_writes_64 ?_
          refine cu_v (rn_V (n := 2) (As := [.int (pb + kb), .int (pc1 >>> (((8 : Int32) * kb) &&& 31))]) (rest := []) hx hb hml hown ht hKK hFx hP hD hS hA (c_m_setByte l dC dI cI cB cZ cJ cR tb H.size ad N w46 (pb + kb) (pc1 >>> (((8 : Int32) * kb) &&& 31)) (show (256 : Int) ≤ (N : Int) ∧ (N : Int) ≤ 4096 from (om_c42fe0fb85 zN)) (show 0 ≤ (pb + kb).toInt ∧ (pb + kb).toInt < 4 * (N : Int) from (om_254ee4ca8e e8 g8 z13 e1L46 z16 z17))) tw_220 tw_221 (by decide +kernel) rfl rfl ⟨Nat.le_of_ble_eq_true rfl, Nat.le_of_ble_eq_true rfl⟩ (List.range (mW ad N cI cZ cJ w46).length) (rg_map _) (mW_nd _ _ _ _ _ _) rfl rfl rfl rfl hl.1 rfl (Nat.le_of_ble_eq_true rfl) dX13_writes_65 ⟨Nat.le_of_ble_eq_true rfl, Nat.le_of_ble_eq_true rfl⟩) hP hD hS hA (fun u20 H locs hw19 hP hD hS => ?_)
          have fr19 := hw19
          refine W.widen (k := 0) (n := 0) (Nat.le_refl _) (Nat.le_refl _) ?_
          refine lv_iinc (v := (kb + (1 : Int32))) (lv' := [(5, .int (kb + (1 : Int32))), (4, .int ((1 : Int32) <<< ((pa &&& (3 : Int32)) &&& 31))), (0, .ref (ad 0)), (1, .int pa), (2, .int pb), (3, .int pc1)]) hx hb dX13_writes_68 hl (k := 0) rfl (rfl) (by decide) rfl (fun ls hl => ?_)
          have z22 : (kb + (1 : Int32)).toInt = kb.toInt + (1 : Int) := add_z rfl (show (1 : Int32).toInt = (1 : Int) by decide) (om_a8944c555e e1L46) (om_0cc9cd1209 q3 e1L46)
          refine lv_goto (tgt := 46) hx hb dX13_writes_71 (by decide) ?_
          exact ih46 ((kb + (1 : Int32)), u20) _ _ _ (show (8 - (kb + (1 : Int32)).toInt).toNat < (8 - kb.toInt).toNat from tn_z (om_ef5100f5cc z22) (om_b748f63e0b q3 z16)) ⟨(show FG [] [96] v u20 from (FG.tr (FG.tr (FG.rf _) (FG.up fwL46 (by decide) (by decide))) (FG.up fr19 (by decide) (by decide)))), (show 0 ≤ (kb + (1 : Int32)).toInt ∧ (kb + (1 : Int32)).toInt ≤ ((1 : Int32) <<< ((pa &&& (3 : Int32)) &&& 31)).toInt from (om_ca7f7afb18 e1L46 z16 z22)), hP, hD, hS, lv_sub hl [0, 1, 2, 3, 4, 5] rfl⟩
      · have z23 : r11.toInt = (0 : Int) := eq_z rfl (show (0 : Int32).toInt = (0 : Int) by decide) h12
        refine lv_aload_n hx hb dX13_writes_37 rfl (lv_at hl 1 rfl) ?_
        refine lv_iconst (v := 3) hx hb dX13_writes_38 (by decide) ?_
        refine va_put (D := (dC, dI)) (ci := 16) (fs := mF ad v) (v := .int 3) (ty := .int) (C := RX13) (T := TX13) (N := 124) hx hb ht itX13 tyX13 tyX13_ok nmX13 hown hK hP hD hS 0 rfl rfl 99 (by decide) (ht _ tw_210) (fun _ h9 => h9) rfl (by decide +kernel) rfl rfl (Nat.le_of_ble_eq_true rfl) dX13_writes_39 (fun H locs hP hD hS => ?_)
        have hP := cP_ (mw_99 ad N cI cZ cJ v 3) hP
        have hD := cD_ (mw_99 ad N cI cZ cJ v 3) hD
        exact W.vret hx hb hr (fun t ht9 hW => ⟨⟨(wA v 0 99 3), rfl, (FG.f (FG.rf _) 3 (by decide)), by rw [ht9]; exact hP, hD⟩, hS.F ht9⟩) hS.2.2 dX13_writes_42
  · have z24 : (2 : Int) < pa.toInt := nle_z rfl (show (2 : Int32).toInt = (2 : Int) by decide) h1
    refine lv_aload_n hx hb dX13_writes_12 rfl (lv_at hl 1 rfl) ?_
    refine lv_iconst (v := 2) hx hb dX13_writes_13 (by decide) ?_
    refine va_put (D := (dC, dI)) (ci := 16) (fs := mF ad v) (v := .int 2) (ty := .int) (C := RX13) (T := TX13) (N := 124) hx hb ht itX13 tyX13 tyX13_ok nmX13 hown hK hP hD hS 0 rfl rfl 99 (by decide) (ht _ tw_210) (fun _ h9 => h9) rfl (by decide +kernel) rfl rfl (Nat.le_of_ble_eq_true rfl) dX13_writes_14 (fun H locs hP hD hS => ?_)
    have hP := cP_ (mw_99 ad N cI cZ cJ v 2) hP
    have hD := cD_ (mw_99 ad N cI cZ cJ v 2) hD
    exact W.vret hx hb hr (fun t ht9 hW => ⟨⟨(wA v 0 99 2), rfl, (FG.f (FG.rf _) 2 (by decide)), by rw [ht9]; exact hP, hD⟩, hS.F ht9⟩) hS.2.2 dX13_writes_17
set_option maxHeartbeats 4000000 in
set_option maxRecDepth 100000 in
theorem c_m_less (l : Launch) (dC : Nat → ClassId) (dI : Nat → Nat → Nat) (cI cB cZ cJ cR : ClassId) (tb : Nat → Nat) (sz : Nat) (pa : Int32)  : Met l yX13_less (Cond.code yX13_less cX13_less 1 (some .int) :: tw_W) ({ frames := 0, cells := 0, slots := 0, locals := 0 }) (pc_ (dC, dI) (tyS cI cB cZ cJ cR) tb [] sz [.int pa]) (qi_ (dC, dI) [] sz (fun (r : Int32) (u : Unit) => (Q_m_less pa r)) (fun (u : Unit) => [])) 0 0 (va_A [] sz) := by
  refine Met.ofW (cc := cX13_less) (maxL := 1) (ret := (some .int)) (by decide) rfl ?_
  intro p e s m args below meth c s₁ B hml hv
  obtain ⟨rfl, hsz, hP, hKK, hD0, hFx⟩ := hv
  have hK := hKK.1
  have hx := B.exec
  have hb := B.bytes
  have hr := B.returns
  have ht : ∀ w ∈ tw_W, w.before _ s = true := fun w h => atoms_spec (ws := Cond.code yX13_less cX13_less 1 (some .int) :: tw_W) B.pre w (List.mem_cons_of_mem _ h)
  have hown : s.vm.findClass RX13 = some m.cls := findClass_of_methodNamed B.named
  have hlocks := B.notSynchronized
  subst hsz
  unfold qi_
  have hD := hD0.self (sz := s.heap.size)
  generalize hAe : va_A [] s.heap.size = A at hD hFx ⊢
  have hA : ∀ q : Nat, s.heap.size ≤ q → A q := fun q h => by rw [← hAe]; exact Or.inr h
  have hS : va_S A s.heap s.heap [] := va_S.rf
  have hl := lv_entry ([.int pa]) (n := 1) (Nat.le_of_ble_eq_true rfl)
  rw [lg_entry_eq]
  generalize (lg_sl ([.int pa]) ++ List.replicate (1 - (lg_sl ([.int pa])).length) Slot.unset).toArray = ls at hl ⊢
  have hl : lv_has ls 1 [(0, .int pa)] := hl
  refine lv_iload_n hx hb dX13_less_0 rfl (lv_at hl 0 rfl) ?_
  refine lv_if_eq (tgt := 8) hx hb dX13_less_1 (by decide) (fun h1 => ?_) (fun h1 => ?_)
  · have z2 : pa.toInt = (0 : Int) := eq_z rfl (show (0 : Int32).toInt = (0 : Int) by decide) h1
    refine lv_iconst (v := 0) hx hb dX13_less_8 (by decide) ?_
    exact W.iret (v := 0) hx hb hr (fun t ht9 hW => ⟨⟨0, (), rfl, (Or.inl ⟨z2, rfl⟩), by rw [ht9]; exact hP, hD⟩, hS.F ht9⟩) hS.2.2 dX13_less_9
  · have z3 : pa.toInt ≠ (0 : Int) := ne_z rfl (show (0 : Int32).toInt = (0 : Int) by decide) h1
    refine lv_iconst (v := 1) hx hb dX13_less_4 (by decide) ?_
    refine lv_goto (tgt := 9) hx hb dX13_less_5 (by decide) ?_
    exact W.iret (v := 1) hx hb hr (fun t ht9 hW => ⟨⟨1, (), rfl, (Or.inr (⟨z3, rfl⟩)), by rw [ht9]; exact hP, hD⟩, hS.F ht9⟩) hS.2.2 dX13_less_9
