theorem dX2_named_0 : decode cX2_named 0 = .ok (.aload_n 0, 1) := by decide +kernel
theorem dX2_named_1 : decode cX2_named 1 = .ok (.getfield 18, 3) := by decide +kernel
theorem dX2_named_4 : decode cX2_named 4 = .ok (.invokevirtual 119, 3) := by decide +kernel
theorem tw_543 : (.code yX9_kindBehind cX9_kindBehind 1 (some .int) : Cond) ∈ tw_W := tw_in (t8_3 (List.mem_of_getElem? (i := 228) rfl)) rfl
theorem tw_544 : ∀ w ∈ ([.methodLink RX2 119 yX9_kindBehind, .instanceMethod yX9_kindBehind, .selects RX9 yX9_kindBehind yX9_kindBehind, .initialized RX9] : List Cond), w ∈ tw_W := al_c (tw_in (t8_4 (List.mem_of_getElem? (i := 106) rfl)) rfl) (al_c (tw_in (t8_3 (List.mem_of_getElem? (i := 226) rfl)) rfl) (al_c (tw_in (t8_3 (List.mem_of_getElem? (i := 227) rfl)) rfl) (al_c (tw_in (t8_1 (List.mem_of_getElem? (i := 10) rfl)) rfl) al_n)))
theorem dX2_named_7 : decode cX2_named 7 = .ok (.istore_n 2, 1) := by decide +kernel
theorem dX2_named_8 : decode cX2_named 8 = .ok (.aload_n 0, 1) := by decide +kernel
theorem dX2_named_9 : decode cX2_named 9 = .ok (.getfield 22, 3) := by decide +kernel
theorem dX2_named_12 : decode cX2_named 12 = .ok (.aload_n 0, 1) := by decide +kernel
theorem dX2_named_13 : decode cX2_named 13 = .ok (.getfield 18, 3) := by decide +kernel
theorem dX2_named_16 : decode cX2_named 16 = .ok (.invokevirtual 107, 3) := by decide +kernel
theorem dX2_named_19 : decode cX2_named 19 = .ok (.invokevirtual 122, 3) := by decide +kernel
theorem tw_545 : ∀ w ∈ ([.methodLink RX2 122 yX1_slotNamed, .instanceMethod yX1_slotNamed, .selects RX1 yX1_slotNamed yX1_slotNamed, .initialized RX1] : List Cond), w ∈ tw_W := al_c (tw_in (t8_4 (List.mem_of_getElem? (i := 107) rfl)) rfl) (al_c (tw_in (t8_4 (List.mem_of_getElem? (i := 26) rfl)) rfl) (al_c (tw_in (t8_4 (List.mem_of_getElem? (i := 27) rfl)) rfl) (al_c (tw_in (t8_1 (List.mem_of_getElem? (i := 11) rfl)) rfl) al_n)))
theorem dX2_named_22 : decode cX2_named 22 = .ok (.istore_n 3, 1) := by decide +kernel
theorem dX2_named_23 : decode cX2_named 23 = .ok (.iload_n 3, 1) := by decide +kernel
theorem dX2_named_24 : decode cX2_named 24 = .ok (.iconst (-1), 1) := by decide +kernel
theorem dX2_named_25 : decode cX2_named 25 = .ok (.if_icmp .ne 23, 3) := by decide +kernel
theorem dX2_named_48 : decode cX2_named 48 = .ok (.iconst (-1), 1) := by decide +kernel
theorem dX2_named_49 : decode cX2_named 49 = .ok (.istore 4, 2) := by decide +kernel
theorem dX2_named_51 : decode cX2_named 51 = .ok (.iload_n 3, 1) := by decide +kernel
theorem dX2_named_52 : decode cX2_named 52 = .ok (.iconst (-1), 1) := by decide +kernel
theorem dX2_named_53 : decode cX2_named 53 = .ok (.if_icmp .ne 9, 3) := by decide +kernel
theorem dX2_named_62 : decode cX2_named 62 = .ok (.iconst 1, 1) := by decide +kernel
theorem dX2_named_63 : decode cX2_named 63 = .ok (.goto 4, 3) := by decide +kernel
theorem dX2_named_67 : decode cX2_named 67 = .ok (.istore 5, 2) := by decide +kernel
theorem dX2_named_69 : decode cX2_named 69 = .ok (.iload_n 2, 1) := by decide +kernel
theorem dX2_named_70 : decode cX2_named 70 = .ok (.bipush 30, 2) := by decide +kernel
theorem dX2_named_72 : decode cX2_named 72 = .ok (.if_icmp .ne 29, 3) := by decide +kernel
theorem dX2_named_101 : decode cX2_named 101 = .ok (.aload_n 0, 1) := by decide +kernel
theorem dX2_named_102 : decode cX2_named 102 = .ok (.getfield 22, 3) := by decide +kernel
theorem dX2_named_105 : decode cX2_named 105 = .ok (.getfield 125, 3) := by decide +kernel
theorem dX2_named_108 : decode cX2_named 108 = .ok (.iload 4, 2) := by decide +kernel
theorem dX2_named_110 : decode cX2_named 110 = .ok (.iconst 2, 1) := by decide +kernel
theorem dX2_named_111 : decode cX2_named 111 = .ok (.invokevirtual 135, 3) := by decide +kernel
theorem tw_546 : ∀ w ∈ ([.methodLink RX2 135 yX7_globalFact, .instanceMethod yX7_globalFact, .selects RX7 yX7_globalFact yX7_globalFact, .initialized RX7] : List Cond), w ∈ tw_W := al_c (tw_in (t8_4 (List.mem_of_getElem? (i := 131) rfl)) rfl) (al_c (tw_in (t8_3 (List.mem_of_getElem? (i := 220) rfl)) rfl) (al_c (tw_in (t8_3 (List.mem_of_getElem? (i := 221) rfl)) rfl) (al_c (tw_in (t8_1 (List.mem_of_getElem? (i := 8) rfl)) rfl) al_n)))
theorem dX2_named_114 : decode cX2_named 114 = .ok (.iconst 1, 1) := by decide +kernel
theorem dX2_named_115 : decode cX2_named 115 = .ok (.if_icmp .ne 7, 3) := by decide +kernel
theorem dX2_named_122 : decode cX2_named 122 = .ok (.iconst 0, 1) := by decide +kernel
theorem dX2_named_123 : decode cX2_named 123 = .ok (.istore 6, 2) := by decide +kernel
theorem dX2_named_125 : decode cX2_named 125 = .ok (.iload 5, 2) := by decide +kernel
theorem dX2_named_127 : decode cX2_named 127 = .ok (.ifCond .eq 19, 3) := by decide +kernel
theorem dX2_named_130 : decode cX2_named 130 = .ok (.iload 6, 2) := by decide +kernel
theorem dX2_named_132 : decode cX2_named 132 = .ok (.iload_n 2, 1) := by decide +kernel
theorem dX2_named_133 : decode cX2_named 133 = .ok (.bipush 34, 2) := by decide +kernel
theorem dX2_named_135 : decode cX2_named 135 = .ok (.if_icmp .ne 7, 3) := by decide +kernel
theorem dX2_named_142 : decode cX2_named 142 = .ok (.iconst 0, 1) := by decide +kernel
theorem dX2_named_143 : decode cX2_named 143 = .ok (.if_icmp .eq 18, 3) := by decide +kernel
theorem dX2_named_161 : decode cX2_named 161 = .ok (.aload_n 0, 1) := by decide +kernel
theorem dX2_named_162 : decode cX2_named 162 = .ok (.getfield 18, 3) := by decide +kernel
theorem dX2_named_165 : decode cX2_named 165 = .ok (.invokevirtual 52, 3) := by decide +kernel
theorem dX2_named_168 : decode cX2_named 168 = .ok (.iload 6, 2) := by decide +kernel
theorem dX2_named_170 : decode cX2_named 170 = .ok (.ifCond .eq 9, 3) := by decide +kernel
theorem dX2_named_179 : decode cX2_named 179 = .ok (.iload_n 1, 1) := by decide +kernel
theorem dX2_named_180 : decode cX2_named 180 = .ok (.ifCond .eq 27, 3) := by decide +kernel
theorem dX2_named_207 : decode cX2_named 207 = .ok (.iload 6, 2) := by decide +kernel
theorem dX2_named_209 : decode cX2_named 209 = .ok (.ifCond .eq 18, 3) := by decide +kernel
theorem dX2_named_227 : decode cX2_named 227 = .ok (.aload_n 0, 1) := by decide +kernel
theorem dX2_named_228 : decode cX2_named 228 = .ok (.iload_n 3, 1) := by decide +kernel
theorem dX2_named_229 : decode cX2_named 229 = .ok (.iload 4, 2) := by decide +kernel
theorem dX2_named_231 : decode cX2_named 231 = .ok (.invokevirtual 149, 3) := by decide +kernel
theorem dX2_named_234 : decode cX2_named 234 = .ok (.iconst 0, 1) := by decide +kernel
theorem dX2_named_235 : decode cX2_named 235 = .ok (.ireturn, 1) := by decide +kernel
theorem dX2_named_183 : decode cX2_named 183 = .ok (.aload_n 0, 1) := by decide +kernel
theorem dX2_named_184 : decode cX2_named 184 = .ok (.getfield 18, 3) := by decide +kernel
theorem dX2_named_187 : decode cX2_named 187 = .ok (.invokevirtual 34, 3) := by decide +kernel
theorem dX2_named_190 : decode cX2_named 190 = .ok (.invokestatic 142, 3) := by decide +kernel
theorem tw_547 : (.code yX9_isSet cX9_isSet 1 (some .boolean) : Cond) ∈ tw_W := tw_in (t8_4 (List.mem_of_getElem? (i := 138) rfl)) rfl
theorem tw_548 : ∀ w ∈ ([.methodLink RX2 142 yX9_isSet, .static yX9_isSet, .initialized yX9_isSet.cls] : List Cond), w ∈ tw_W := al_c (tw_in (t8_4 (List.mem_of_getElem? (i := 136) rfl)) rfl) (al_c (tw_in (t8_4 (List.mem_of_getElem? (i := 137) rfl)) rfl) (al_c (tw_in (t8_1 (List.mem_of_getElem? (i := 10) rfl)) rfl) al_n))
theorem dX2_named_193 : decode cX2_named 193 = .ok (.ifCond .eq 14, 3) := by decide +kernel
theorem dX2_named_196 : decode cX2_named 196 = .ok (.aload_n 0, 1) := by decide +kernel
theorem dX2_named_197 : decode cX2_named 197 = .ok (.iload_n 3, 1) := by decide +kernel
theorem dX2_named_198 : decode cX2_named 198 = .ok (.iload 4, 2) := by decide +kernel
theorem dX2_named_200 : decode cX2_named 200 = .ok (.iload 6, 2) := by decide +kernel
theorem dX2_named_202 : decode cX2_named 202 = .ok (.invokevirtual 145, 3) := by decide +kernel
theorem tw_549 : (.code yX2_change cX2_change 7 none : Cond) ∈ tw_W := tw_in (t8_4 (List.mem_of_getElem? (i := 142) rfl)) rfl
theorem tw_550 : ∀ w ∈ ([.methodLink RX2 145 yX2_change, .instanceMethod yX2_change, .selects RX2 yX2_change yX2_change, .initialized RX2] : List Cond), w ∈ tw_W := al_c (tw_in (t8_4 (List.mem_of_getElem? (i := 139) rfl)) rfl) (al_c (tw_in (t8_4 (List.mem_of_getElem? (i := 141) rfl)) rfl) (al_c (tw_in (t7_2 (q := (yX2_change, 5)) (List.mem_of_getElem? (i := 12) rfl)) rfl) (al_c (tw_in (t8_1 (List.mem_of_getElem? (i := 12) rfl)) rfl) al_n)))
theorem dX2_named_205 : decode cX2_named 205 = .ok (.iconst 1, 1) := by decide +kernel
theorem dX2_named_206 : decode cX2_named 206 = .ok (.ireturn, 1) := by decide +kernel
theorem dX2_named_138 : decode cX2_named 138 = .ok (.iconst 1, 1) := by decide +kernel
theorem dX2_named_139 : decode cX2_named 139 = .ok (.goto 4, 3) := by decide +kernel
theorem dX2_named_146 : decode cX2_named 146 = .ok (.aload_n 0, 1) := by decide +kernel
theorem dX2_named_147 : decode cX2_named 147 = .ok (.getfield 18, 3) := by decide +kernel
theorem dX2_named_150 : decode cX2_named 150 = .ok (.iconst 3, 1) := by decide +kernel
theorem dX2_named_151 : decode cX2_named 151 = .ok (.aload_n 0, 1) := by decide +kernel
theorem dX2_named_152 : decode cX2_named 152 = .ok (.getfield 18, 3) := by decide +kernel
theorem dX2_named_155 : decode cX2_named 155 = .ok (.invokevirtual 79, 3) := by decide +kernel
theorem dX2_named_158 : decode cX2_named 158 = .ok (.invokevirtual 82, 3) := by decide +kernel
theorem dX2_named_118 : decode cX2_named 118 = .ok (.iconst 1, 1) := by decide +kernel
theorem dX2_named_119 : decode cX2_named 119 = .ok (.goto 4, 3) := by decide +kernel
theorem dX2_named_173 : decode cX2_named 173 = .ok (.aload_n 0, 1) := by decide +kernel
theorem dX2_named_174 : decode cX2_named 174 = .ok (.iload 4, 2) := by decide +kernel
theorem dX2_named_176 : decode cX2_named 176 = .ok (.invokevirtual 139, 3) := by decide +kernel
theorem tw_551 : (.code yX2_index cX2_index 2 none : Cond) ∈ tw_W := tw_in (t8_4 (List.mem_of_getElem? (i := 135) rfl)) rfl
theorem tw_552 : ∀ w ∈ ([.methodLink RX2 139 yX2_index, .instanceMethod yX2_index, .selects RX2 yX2_index yX2_index, .initialized RX2] : List Cond), w ∈ tw_W := al_c (tw_in (t8_4 (List.mem_of_getElem? (i := 132) rfl)) rfl) (al_c (tw_in (t8_4 (List.mem_of_getElem? (i := 134) rfl)) rfl) (al_c (tw_in (t7_2 (q := (yX2_index, 5)) (List.mem_of_getElem? (i := 11) rfl)) rfl) (al_c (tw_in (t8_1 (List.mem_of_getElem? (i := 12) rfl)) rfl) al_n)))
theorem dX2_named_212 : decode cX2_named 212 = .ok (.aload_n 0, 1) := by decide +kernel
theorem dX2_named_213 : decode cX2_named 213 = .ok (.getfield 22, 3) := by decide +kernel
theorem dX2_named_216 : decode cX2_named 216 = .ok (.bipush 8, 2) := by decide +kernel
theorem dX2_named_218 : decode cX2_named 218 = .ok (.iload 4, 2) := by decide +kernel
theorem dX2_named_220 : decode cX2_named 220 = .ok (.iconst 0, 1) := by decide +kernel
theorem dX2_named_221 : decode cX2_named 221 = .ok (.invokevirtual 65, 3) := by decide +kernel
theorem dX2_named_224 : decode cX2_named 224 = .ok (.goto 10, 3) := by decide +kernel
theorem dX2_named_75 : decode cX2_named 75 = .ok (.iload 5, 2) := by decide +kernel
theorem dX2_named_77 : decode cX2_named 77 = .ok (.ifCond .eq 18, 3) := by decide +kernel
theorem dX2_named_80 : decode cX2_named 80 = .ok (.aload_n 0, 1) := by decide +kernel
theorem dX2_named_81 : decode cX2_named 81 = .ok (.getfield 18, 3) := by decide +kernel
theorem dX2_named_84 : decode cX2_named 84 = .ok (.iconst 3, 1) := by decide +kernel
theorem dX2_named_85 : decode cX2_named 85 = .ok (.aload_n 0, 1) := by decide +kernel
theorem dX2_named_86 : decode cX2_named 86 = .ok (.getfield 18, 3) := by decide +kernel
theorem dX2_named_89 : decode cX2_named 89 = .ok (.invokevirtual 79, 3) := by decide +kernel
theorem dX2_named_92 : decode cX2_named 92 = .ok (.invokevirtual 82, 3) := by decide +kernel
theorem dX2_named_28 : decode cX2_named 28 = .ok (.aload_n 0, 1) := by decide +kernel
theorem dX2_named_29 : decode cX2_named 29 = .ok (.getfield 22, 3) := by decide +kernel
theorem dX2_named_32 : decode cX2_named 32 = .ok (.getfield 125, 3) := by decide +kernel
theorem dX2_named_35 : decode cX2_named 35 = .ok (.aload_n 0, 1) := by decide +kernel
theorem dX2_named_36 : decode cX2_named 36 = .ok (.getfield 18, 3) := by decide +kernel
theorem dX2_named_39 : decode cX2_named 39 = .ok (.invokevirtual 107, 3) := by decide +kernel
theorem dX2_named_42 : decode cX2_named 42 = .ok (.invokevirtual 129, 3) := by decide +kernel
theorem tw_553 : (.code yX7_globalNamed cX7_globalNamed 3 (some .int) : Cond) ∈ tw_W := tw_in (t8_3 (List.mem_of_getElem? (i := 218) rfl)) rfl
theorem tw_554 : ∀ w ∈ ([.methodLink RX2 129 yX7_globalNamed, .instanceMethod yX7_globalNamed, .selects RX7 yX7_globalNamed yX7_globalNamed, .initialized RX7] : List Cond), w ∈ tw_W := al_c (tw_in (t8_4 (List.mem_of_getElem? (i := 108) rfl)) rfl) (al_c (tw_in (t8_3 (List.mem_of_getElem? (i := 216) rfl)) rfl) (al_c (tw_in (t8_3 (List.mem_of_getElem? (i := 217) rfl)) rfl) (al_c (tw_in (t8_1 (List.mem_of_getElem? (i := 8) rfl)) rfl) al_n)))
theorem dX2_named_45 : decode cX2_named 45 = .ok (.goto 4, 3) := by decide +kernel
theorem dX2_named_56 : decode cX2_named 56 = .ok (.iload 4, 2) := by decide +kernel
theorem dX2_named_58 : decode cX2_named 58 = .ok (.iconst (-1), 1) := by decide +kernel
theorem dX2_named_59 : decode cX2_named 59 = .ok (.if_icmp .eq 7, 3) := by decide +kernel
theorem dX2_named_66 : decode cX2_named 66 = .ok (.iconst 0, 1) := by decide +kernel
theorem dX2_named_95 : decode cX2_named 95 = .ok (.aload_n 0, 1) := by decide +kernel
theorem dX2_named_96 : decode cX2_named 96 = .ok (.invokevirtual 132, 3) := by decide +kernel
theorem tw_555 : (.code yX2_callFunction cX2_callFunction 5 none : Cond) ∈ tw_W := tw_in (t8_4 (List.mem_of_getElem? (i := 112) rfl)) rfl
theorem tw_556 : ∀ w ∈ ([.methodLink RX2 132 yX2_callFunction, .instanceMethod yX2_callFunction, .selects RX2 yX2_callFunction yX2_callFunction, .initialized RX2] : List Cond), w ∈ tw_W := al_c (tw_in (t8_4 (List.mem_of_getElem? (i := 109) rfl)) rfl) (al_c (tw_in (t8_4 (List.mem_of_getElem? (i := 111) rfl)) rfl) (al_c (tw_in (t7_2 (q := (yX2_callFunction, 5)) (List.mem_of_getElem? (i := 9) rfl)) rfl) (al_c (tw_in (t8_1 (List.mem_of_getElem? (i := 12) rfl)) rfl) al_n)))
theorem dX2_named_99 : decode cX2_named 99 = .ok (.iconst 0, 1) := by decide +kernel
theorem dX2_named_100 : decode cX2_named 100 = .ok (.ireturn, 1) := by decide +kernel
theorem dX2_operand_0 : decode cX2_operand 0 = .ok (.aload_n 0, 1) := by decide +kernel
theorem dX2_operand_1 : decode cX2_operand 1 = .ok (.getfield 18, 3) := by decide +kernel
theorem dX2_operand_4 : decode cX2_operand 4 = .ok (.invokevirtual 34, 3) := by decide +kernel
theorem dX2_operand_7 : decode cX2_operand 7 = .ok (.lookupswitch 235 #[(2, 229), (3, 105), (4, 130), (5, 105), (20, 147), (30, 199), (40, 89), (41, 97), (54, 81)], 81) := by decide +kernel
theorem dX2_operand_236 : decode cX2_operand 236 = .ok (.aload_n 0, 1) := by decide +kernel
theorem dX2_operand_237 : decode cX2_operand 237 = .ok (.iload_n 1, 1) := by decide +kernel
theorem dX2_operand_238 : decode cX2_operand 238 = .ok (.invokevirtual 113, 3) := by decide +kernel
theorem tw_557 : (.code yX2_named cX2_named 7 (some .boolean) : Cond) ∈ tw_W := tw_in (t8_4 (List.mem_of_getElem? (i := 105) rfl)) rfl
theorem tw_558 : ∀ w ∈ ([.methodLink RX2 113 yX2_named, .instanceMethod yX2_named, .selects RX2 yX2_named yX2_named, .initialized RX2] : List Cond), w ∈ tw_W := al_c (tw_in (t8_4 (List.mem_of_getElem? (i := 102) rfl)) rfl) (al_c (tw_in (t8_4 (List.mem_of_getElem? (i := 104) rfl)) rfl) (al_c (tw_in (t7_2 (q := (yX2_named, 5)) (List.mem_of_getElem? (i := 8) rfl)) rfl) (al_c (tw_in (t8_1 (List.mem_of_getElem? (i := 12) rfl)) rfl) al_n)))
theorem dX2_operand_241 : decode cX2_operand 241 = .ok (.ireturn, 1) := by decide +kernel
theorem dX2_operand_112 : decode cX2_operand 112 = .ok (.aload_n 0, 1) := by decide +kernel
theorem dX2_operand_113 : decode cX2_operand 113 = .ok (.getfield 22, 3) := by decide +kernel
theorem dX2_operand_116 : decode cX2_operand 116 = .ok (.iconst 2, 1) := by decide +kernel
theorem dX2_operand_117 : decode cX2_operand 117 = .ok (.aload_n 0, 1) := by decide +kernel
theorem dX2_operand_118 : decode cX2_operand 118 = .ok (.getfield 18, 3) := by decide +kernel
theorem dX2_operand_121 : decode cX2_operand 121 = .ok (.invokevirtual 107, 3) := by decide +kernel
theorem dX2_operand_124 : decode cX2_operand 124 = .ok (.iconst 0, 1) := by decide +kernel
theorem dX2_operand_125 : decode cX2_operand 125 = .ok (.invokevirtual 65, 3) := by decide +kernel
theorem dX2_operand_128 : decode cX2_operand 128 = .ok (.aload_n 0, 1) := by decide +kernel
theorem dX2_operand_129 : decode cX2_operand 129 = .ok (.getfield 18, 3) := by decide +kernel
theorem dX2_operand_132 : decode cX2_operand 132 = .ok (.invokevirtual 52, 3) := by decide +kernel
theorem dX2_operand_135 : decode cX2_operand 135 = .ok (.iconst 0, 1) := by decide +kernel
theorem dX2_operand_136 : decode cX2_operand 136 = .ok (.ireturn, 1) := by decide +kernel
theorem dX2_operand_137 : decode cX2_operand 137 = .ok (.aload_n 0, 1) := by decide +kernel
theorem dX2_operand_138 : decode cX2_operand 138 = .ok (.getfield 18, 3) := by decide +kernel
theorem dX2_operand_141 : decode cX2_operand 141 = .ok (.iconst 5, 1) := by decide +kernel
theorem dX2_operand_142 : decode cX2_operand 142 = .ok (.aload_n 0, 1) := by decide +kernel
theorem dX2_operand_143 : decode cX2_operand 143 = .ok (.getfield 18, 3) := by decide +kernel
theorem dX2_operand_146 : decode cX2_operand 146 = .ok (.invokevirtual 79, 3) := by decide +kernel
theorem dX2_operand_149 : decode cX2_operand 149 = .ok (.invokevirtual 82, 3) := by decide +kernel
theorem dX2_operand_154 : decode cX2_operand 154 = .ok (.aload_n 0, 1) := by decide +kernel
theorem dX2_operand_155 : decode cX2_operand 155 = .ok (.getfield 18, 3) := by decide +kernel
theorem dX2_operand_158 : decode cX2_operand 158 = .ok (.invokevirtual 52, 3) := by decide +kernel
theorem dX2_operand_161 : decode cX2_operand 161 = .ok (.aload_n 0, 1) := by decide +kernel
theorem dX2_operand_162 : decode cX2_operand 162 = .ok (.getfield 18, 3) := by decide +kernel
theorem dX2_operand_165 : decode cX2_operand 165 = .ok (.bipush 30, 2) := by decide +kernel
theorem dX2_operand_167 : decode cX2_operand 167 = .ok (.invokevirtual 110, 3) := by decide +kernel
theorem tw_559 : (.code yX9_need cX9_need 2 none : Cond) ∈ tw_W := tw_in (t8_3 (List.mem_of_getElem? (i := 202) rfl)) rfl
theorem tw_560 : ∀ w ∈ ([.methodLink RX2 110 yX9_need, .instanceMethod yX9_need, .selects RX9 yX9_need yX9_need, .initialized RX9] : List Cond), w ∈ tw_W := al_c (tw_in (t8_4 (List.mem_of_getElem? (i := 99) rfl)) rfl) (al_c (tw_in (t8_3 (List.mem_of_getElem? (i := 200) rfl)) rfl) (al_c (tw_in (t8_3 (List.mem_of_getElem? (i := 201) rfl)) rfl) (al_c (tw_in (t8_1 (List.mem_of_getElem? (i := 10) rfl)) rfl) al_n)))
theorem dX2_operand_170 : decode cX2_operand 170 = .ok (.aload_n 0, 1) := by decide +kernel
theorem dX2_operand_171 : decode cX2_operand 171 = .ok (.getfield 18, 3) := by decide +kernel
theorem dX2_operand_174 : decode cX2_operand 174 = .ok (.invokevirtual 91, 3) := by decide +kernel
theorem dX2_operand_177 : decode cX2_operand 177 = .ok (.aload_n 0, 1) := by decide +kernel
theorem dX2_operand_178 : decode cX2_operand 178 = .ok (.getfield 18, 3) := by decide +kernel
theorem dX2_operand_181 : decode cX2_operand 181 = .ok (.bipush 31, 2) := by decide +kernel
theorem dX2_operand_183 : decode cX2_operand 183 = .ok (.invokevirtual 98, 3) := by decide +kernel
theorem dX2_operand_186 : decode cX2_operand 186 = .ok (.aload_n 0, 1) := by decide +kernel
theorem dX2_operand_187 : decode cX2_operand 187 = .ok (.getfield 18, 3) := by decide +kernel
theorem dX2_operand_190 : decode cX2_operand 190 = .ok (.invokevirtual 101, 3) := by decide +kernel
theorem dX2_operand_193 : decode cX2_operand 193 = .ok (.aload_n 0, 1) := by decide +kernel
theorem dX2_operand_194 : decode cX2_operand 194 = .ok (.getfield 22, 3) := by decide +kernel
theorem dX2_operand_197 : decode cX2_operand 197 = .ok (.bipush 23, 2) := by decide +kernel
theorem dX2_operand_199 : decode cX2_operand 199 = .ok (.iconst 0, 1) := by decide +kernel
theorem dX2_operand_200 : decode cX2_operand 200 = .ok (.iconst 0, 1) := by decide +kernel
theorem dX2_operand_201 : decode cX2_operand 201 = .ok (.invokevirtual 65, 3) := by decide +kernel
theorem dX2_operand_204 : decode cX2_operand 204 = .ok (.iconst 0, 1) := by decide +kernel
theorem dX2_operand_205 : decode cX2_operand 205 = .ok (.ireturn, 1) := by decide +kernel
theorem dX2_operand_206 : decode cX2_operand 206 = .ok (.aload_n 0, 1) := by decide +kernel
theorem dX2_operand_207 : decode cX2_operand 207 = .ok (.getfield 18, 3) := by decide +kernel
theorem dX2_operand_210 : decode cX2_operand 210 = .ok (.invokevirtual 91, 3) := by decide +kernel
theorem dX2_operand_213 : decode cX2_operand 213 = .ok (.aload_n 0, 1) := by decide +kernel
theorem dX2_operand_214 : decode cX2_operand 214 = .ok (.iconst 1, 1) := by decide +kernel
theorem dX2_operand_215 : decode cX2_operand 215 = .ok (.invokevirtual 94, 3) := by decide +kernel
theorem dX2_operand_218 : decode cX2_operand 218 = .ok (.aload_n 0, 1) := by decide +kernel
theorem dX2_operand_219 : decode cX2_operand 219 = .ok (.getfield 18, 3) := by decide +kernel
theorem dX2_operand_222 : decode cX2_operand 222 = .ok (.bipush 31, 2) := by decide +kernel
theorem dX2_operand_224 : decode cX2_operand 224 = .ok (.invokevirtual 98, 3) := by decide +kernel
theorem dX2_operand_227 : decode cX2_operand 227 = .ok (.aload_n 0, 1) := by decide +kernel
theorem dX2_operand_228 : decode cX2_operand 228 = .ok (.getfield 18, 3) := by decide +kernel
theorem dX2_operand_231 : decode cX2_operand 231 = .ok (.invokevirtual 101, 3) := by decide +kernel
theorem dX2_operand_234 : decode cX2_operand 234 = .ok (.iconst 0, 1) := by decide +kernel
theorem dX2_operand_235 : decode cX2_operand 235 = .ok (.ireturn, 1) := by decide +kernel
theorem dX2_operand_96 : decode cX2_operand 96 = .ok (.aload_n 0, 1) := by decide +kernel
theorem dX2_operand_97 : decode cX2_operand 97 = .ok (.bipush 13, 2) := by decide +kernel
theorem dX2_operand_99 : decode cX2_operand 99 = .ok (.invokevirtual 104, 3) := by decide +kernel
theorem tw_561 : (.code yX2_unary cX2_unary 2 none : Cond) ∈ tw_W := tw_in (t8_4 (List.mem_of_getElem? (i := 91) rfl)) rfl
theorem tw_562 : ∀ w ∈ ([.methodLink RX2 104 yX2_unary, .instanceMethod yX2_unary, .selects RX2 yX2_unary yX2_unary, .initialized RX2] : List Cond), w ∈ tw_W := al_c (tw_in (t8_4 (List.mem_of_getElem? (i := 88) rfl)) rfl) (al_c (tw_in (t8_4 (List.mem_of_getElem? (i := 90) rfl)) rfl) (al_c (tw_in (t7_2 (q := (yX2_unary, 5)) (List.mem_of_getElem? (i := 7) rfl)) rfl) (al_c (tw_in (t8_1 (List.mem_of_getElem? (i := 12) rfl)) rfl) al_n)))
theorem dX2_operand_102 : decode cX2_operand 102 = .ok (.iconst 0, 1) := by decide +kernel
theorem dX2_operand_103 : decode cX2_operand 103 = .ok (.ireturn, 1) := by decide +kernel
theorem dX2_operand_104 : decode cX2_operand 104 = .ok (.aload_n 0, 1) := by decide +kernel
theorem dX2_operand_105 : decode cX2_operand 105 = .ok (.bipush 14, 2) := by decide +kernel
theorem dX2_operand_107 : decode cX2_operand 107 = .ok (.invokevirtual 104, 3) := by decide +kernel
theorem dX2_operand_110 : decode cX2_operand 110 = .ok (.iconst 0, 1) := by decide +kernel
theorem dX2_operand_111 : decode cX2_operand 111 = .ok (.ireturn, 1) := by decide +kernel
theorem dX2_operand_88 : decode cX2_operand 88 = .ok (.aload_n 0, 1) := by decide +kernel
theorem dX2_operand_89 : decode cX2_operand 89 = .ok (.bipush 12, 2) := by decide +kernel
theorem dX2_operand_91 : decode cX2_operand 91 = .ok (.invokevirtual 104, 3) := by decide +kernel
theorem dX2_operand_94 : decode cX2_operand 94 = .ok (.iconst 0, 1) := by decide +kernel
theorem dX2_operand_95 : decode cX2_operand 95 = .ok (.ireturn, 1) := by decide +kernel
theorem dX2_operand_242 : decode cX2_operand 242 = .ok (.aload_n 0, 1) := by decide +kernel
theorem dX2_operand_243 : decode cX2_operand 243 = .ok (.getfield 18, 3) := by decide +kernel
theorem dX2_operand_246 : decode cX2_operand 246 = .ok (.invokevirtual 116, 3) := by decide +kernel
theorem tw_563 : (.code yX9_refuseMisfit cX9_refuseMisfit 1 none : Cond) ∈ tw_W := tw_in (t8_4 (List.mem_of_getElem? (i := 154) rfl)) rfl
theorem tw_564 : ∀ w ∈ ([.methodLink RX2 116 yX9_refuseMisfit, .instanceMethod yX9_refuseMisfit, .selects RX9 yX9_refuseMisfit yX9_refuseMisfit, .initialized RX9] : List Cond), w ∈ tw_W := al_c (tw_in (t8_4 (List.mem_of_getElem? (i := 151) rfl)) rfl) (al_c (tw_in (t8_4 (List.mem_of_getElem? (i := 152) rfl)) rfl) (al_c (tw_in (t8_4 (List.mem_of_getElem? (i := 153) rfl)) rfl) (al_c (tw_in (t8_1 (List.mem_of_getElem? (i := 10) rfl)) rfl) al_n)))
theorem dX2_expression_0 : decode cX2_expression 0 = .ok (.aload_n 0, 1) := by decide +kernel
theorem dX2_expression_1 : decode cX2_expression 1 = .ok (.getfield 26, 3) := by decide +kernel
theorem dX2_expression_4 : decode cX2_expression 4 = .ok (.istore_n 2, 1) := by decide +kernel
theorem dX2_expression_5 : decode cX2_expression 5 = .ok (.aload_n 0, 1) := by decide +kernel
theorem dX2_expression_6 : decode cX2_expression 6 = .ok (.iload_n 1, 1) := by decide +kernel
theorem dX2_expression_7 : decode cX2_expression 7 = .ok (.invokevirtual 30, 3) := by decide +kernel
theorem dX2_expression_10 : decode cX2_expression 10 = .ok (.ifCond .eq 4, 3) := by decide +kernel
theorem dX2_expression_14 : decode cX2_expression 14 = .ok (.iconst 0, 1) := by decide +kernel
theorem dX2_expression_15 : decode cX2_expression 15 = .ok (.istore_n 3, 1) := by decide +kernel
theorem dX2_expression_16 : decode cX2_expression 16 = .ok (.iload_n 3, 1) := by decide +kernel
theorem dX2_expression_17 : decode cX2_expression 17 = .ok (.sipush 1500, 3) := by decide +kernel
theorem dX2_expression_20 : decode cX2_expression 20 = .ok (.if_icmp .ge 60, 3) := by decide +kernel
theorem dX2_expression_80 : decode cX2_expression 80 = .ok (.aload_n 0, 1) := by decide +kernel
theorem dX2_expression_81 : decode cX2_expression 81 = .ok (.iload_n 2, 1) := by decide +kernel
theorem dX2_expression_82 : decode cX2_expression 82 = .ok (.iconst 0, 1) := by decide +kernel
theorem dX2_expression_83 : decode cX2_expression 83 = .ok (.invokevirtual 44, 3) := by decide +kernel
theorem tw_565 : (.code yX2_finishSigns cX2_finishSigns 4 none : Cond) ∈ tw_W := tw_in (t8_4 (List.mem_of_getElem? (i := 163) rfl)) rfl
theorem tw_566 : ∀ w ∈ ([.methodLink RX2 44 yX2_finishSigns, .instanceMethod yX2_finishSigns, .selects RX2 yX2_finishSigns yX2_finishSigns, .initialized RX2] : List Cond), w ∈ tw_W := al_c (tw_in (t8_4 (List.mem_of_getElem? (i := 160) rfl)) rfl) (al_c (tw_in (t8_4 (List.mem_of_getElem? (i := 162) rfl)) rfl) (al_c (tw_in (t7_2 (q := (yX2_finishSigns, 5)) (List.mem_of_getElem? (i := 15) rfl)) rfl) (al_c (tw_in (t8_1 (List.mem_of_getElem? (i := 12) rfl)) rfl) al_n)))
theorem dX2_expression_86 : decode cX2_expression 86 = .ok (.aload_n 0, 1) := by decide +kernel
theorem dX2_expression_87 : decode cX2_expression 87 = .ok (.getfield 18, 3) := by decide +kernel
theorem dX2_expression_90 : decode cX2_expression 90 = .ok (.invokevirtual 34, 3) := by decide +kernel
theorem dX2_expression_93 : decode cX2_expression 93 = .ok (.bipush 38, 2) := by decide +kernel
theorem dX2_expression_95 : decode cX2_expression 95 = .ok (.if_icmp .ne 7, 3) := by decide +kernel
theorem dX2_expression_102 : decode cX2_expression 102 = .ok (.return_, 1) := by decide +kernel
theorem dX2_expression_98 : decode cX2_expression 98 = .ok (.aload_n 0, 1) := by decide +kernel
theorem dX2_expression_99 : decode cX2_expression 99 = .ok (.invokevirtual 55, 3) := by decide +kernel
theorem tw_567 : (.code yX2_choice cX2_choice 3 none : Cond) ∈ tw_W := tw_in (t8_4 (List.mem_of_getElem? (i := 180) rfl)) rfl
theorem tw_568 : ∀ w ∈ ([.methodLink RX2 55 yX2_choice, .instanceMethod yX2_choice, .selects RX2 yX2_choice yX2_choice, .initialized RX2] : List Cond), w ∈ tw_W := al_c (tw_in (t8_4 (List.mem_of_getElem? (i := 177) rfl)) rfl) (al_c (tw_in (t8_4 (List.mem_of_getElem? (i := 179) rfl)) rfl) (al_c (tw_in (t7_3 (q := (yX2_choice, 5)) (List.mem_of_getElem? (i := 2) rfl)) rfl) (al_c (tw_in (t8_1 (List.mem_of_getElem? (i := 12) rfl)) rfl) al_n)))
theorem dX2_expression_23 : decode cX2_expression 23 = .ok (.aload_n 0, 1) := by decide +kernel
theorem dX2_expression_24 : decode cX2_expression 24 = .ok (.getfield 18, 3) := by decide +kernel
theorem dX2_expression_27 : decode cX2_expression 27 = .ok (.invokevirtual 34, 3) := by decide +kernel
theorem dX2_expression_30 : decode cX2_expression 30 = .ok (.invokestatic 40, 3) := by decide +kernel
theorem dX2_expression_33 : decode cX2_expression 33 = .ok (.ifCond .le 47, 3) := by decide +kernel
theorem dX2_expression_36 : decode cX2_expression 36 = .ok (.aload_n 0, 1) := by decide +kernel
theorem dX2_expression_37 : decode cX2_expression 37 = .ok (.getfield 18, 3) := by decide +kernel
theorem dX2_expression_40 : decode cX2_expression 40 = .ok (.invokevirtual 34, 3) := by decide +kernel
theorem dX2_expression_43 : decode cX2_expression 43 = .ok (.istore 4, 2) := by decide +kernel
theorem dX2_expression_45 : decode cX2_expression 45 = .ok (.aload_n 0, 1) := by decide +kernel
theorem dX2_expression_46 : decode cX2_expression 46 = .ok (.iload_n 2, 1) := by decide +kernel
theorem dX2_expression_47 : decode cX2_expression 47 = .ok (.iload 4, 2) := by decide +kernel
theorem dX2_expression_49 : decode cX2_expression 49 = .ok (.invokestatic 40, 3) := by decide +kernel
theorem dX2_expression_52 : decode cX2_expression 52 = .ok (.invokevirtual 44, 3) := by decide +kernel
theorem dX2_expression_55 : decode cX2_expression 55 = .ok (.aload_n 0, 1) := by decide +kernel
theorem dX2_expression_56 : decode cX2_expression 56 = .ok (.iload 4, 2) := by decide +kernel
theorem dX2_expression_58 : decode cX2_expression 58 = .ok (.invokevirtual 48, 3) := by decide +kernel
theorem tw_569 : (.code yX2_beginSign cX2_beginSign 3 none : Cond) ∈ tw_W := tw_in (t8_4 (List.mem_of_getElem? (i := 171) rfl)) rfl
theorem tw_570 : ∀ w ∈ ([.methodLink RX2 48 yX2_beginSign, .instanceMethod yX2_beginSign, .selects RX2 yX2_beginSign yX2_beginSign, .initialized RX2] : List Cond), w ∈ tw_W := al_c (tw_in (t8_4 (List.mem_of_getElem? (i := 168) rfl)) rfl) (al_c (tw_in (t8_4 (List.mem_of_getElem? (i := 170) rfl)) rfl) (al_c (tw_in (t7_3 (q := (yX2_beginSign, 5)) (List.mem_of_getElem? (i := 0) rfl)) rfl) (al_c (tw_in (t8_1 (List.mem_of_getElem? (i := 12) rfl)) rfl) al_n)))
theorem dX2_expression_61 : decode cX2_expression 61 = .ok (.aload_n 0, 1) := by decide +kernel
theorem dX2_expression_62 : decode cX2_expression 62 = .ok (.getfield 18, 3) := by decide +kernel
theorem dX2_expression_65 : decode cX2_expression 65 = .ok (.invokevirtual 52, 3) := by decide +kernel
theorem dX2_expression_68 : decode cX2_expression 68 = .ok (.aload_n 0, 1) := by decide +kernel
theorem dX2_expression_69 : decode cX2_expression 69 = .ok (.iconst 0, 1) := by decide +kernel
theorem dX2_expression_70 : decode cX2_expression 70 = .ok (.invokevirtual 30, 3) := by decide +kernel
theorem dX2_expression_73 : decode cX2_expression 73 = .ok (.pop, 1) := by decide +kernel
theorem dX2_expression_74 : decode cX2_expression 74 = .ok (.iinc 3 1, 3) := by decide +kernel
theorem dX2_expression_77 : decode cX2_expression 77 = .ok (.goto (-61), 3) := by decide +kernel
theorem dX2_expression_13 : decode cX2_expression 13 = .ok (.return_, 1) := by decide +kernel
theorem om_fce2c17b78 {n0 : Nat} : 0 + 1 ≤ 8 * n0 + 15 := by omega
theorem om_bca265e904 {n0 : Nat} : 8 + (1 + 11) + 0 ≤ 28 * (8 * n0 + 15) := by omega
theorem om_60a3ad0423 {n0 : Nat} : 1 + 1 ≤ 8 * n0 + 15 := by omega
theorem om_c7002dd5fa {n0 : Nat} : 8 + (3 + 11) + 14 ≤ 28 * (8 * n0 + 15) := by omega
theorem om_0eaa3b1b86 {n0 : Nat} : 8 + (3 + 11) + 0 ≤ 28 * (8 * n0 + 15) := by omega
theorem om_ec1f92c19e {n0 : Nat} : 7 + 1 ≤ 8 * n0 + 15 := by omega
theorem om_9d5a13a74b {n0 : Nat} : 8 + (1 + 11) + 104 ≤ 28 * (8 * n0 + 15) := by omega
theorem om_82dcfb3396 {n0 : Nat} : 8 + (3 + 11) + 24 ≤ 28 * (8 * n0 + 15) := by omega
theorem om_c0c6541b93 {n0 : Nat} : (8 * n0 + 14) + 1 ≤ 8 * n0 + 15 := by omega
theorem om_fb93e872bb {n0 : Nat} : 8 + (7 + 11) + 28 * (8 * n0 + 14) ≤ 28 * (8 * n0 + 15) := by omega
theorem om_59881768ad : (3 : Int) ≠ 0 := by omega
theorem om_838586afae {n0 : Nat} : 6 + 1 ≤ 8 * n0 + 15 := by omega
theorem om_41a9d63453 {n0 : Nat} : 8 + (3 + 11) + 82 ≤ 28 * (8 * n0 + 15) := by omega
theorem om_c8e428155d {n0 : Nat} : 8 + (2 + 11) + 28 * (8 * n0 + 14) ≤ 28 * (8 * n0 + 15) := by omega
theorem om_bbd2f5c798 {n0 : Nat} : 8 + (5 + 11) + 0 ≤ 28 * (8 * n0 + 15) := by omega
theorem om_7af79ecf53 {x0 : Int} (h0 : (-1 ≤ x0)) (h1 : x0 ≠ (-1 : Int)) (h2 : x0 = (-1 : Int)) : False := by omega
theorem om_c23f94bcd4 {n0 : Nat} : 8 + (3 + 11) + 22 ≤ 28 * (8 * n0 + 15) := by omega
theorem om_fb4a63dff4 {x0 : Int} (h0 : (-1 ≤ x0)) (h1 : x0 = (-1 : Int)) (h2 : x0 ≠ (-1 : Int)) : False := by omega
theorem om_4fd16bceab {n0 : Nat} : 8 + (5 + 11) + 28 * (8 * n0 + 14) ≤ 28 * (8 * n0 + 15) := by omega
set_option maxHeartbeats 16000000 in
set_option maxRecDepth 100000 in
theorem c_x_X2_named (l : Launch) (n : Nat) (ihE : ∀ m, n = m + 1 → Cq_expression l m) (dC : Nat → ClassId) (dI : Nat → Nat → Nat) (cI cB cZ cJ cR : ClassId) (tb : Nat → Nat) (sz : Nat) (ad : Nat → Nat) (pr : Int32 → Nat) (N : Nat) (L1 L2 : List Nat) (v : MS) (pa : Int32) (ps : Int32) (z304 : 0 ≤ (v.1 0 304).toInt ∧ (v.1 0 304).toInt ≤ 1503) (z306 : 0 ≤ (v.1 0 306).toInt ∧ (v.1 0 306).toInt ≤ 40) (z312 : 0 ≤ (v.1 0 312).toInt ∧ (v.1 0 312).toInt ≤ 500) (z321 : 0 ≤ (v.1 0 321).toInt ∧ (v.1 0 321).toInt ≤ 501) (z326 : 0 ≤ (v.1 0 326).toInt ∧ (v.1 0 326).toInt ≤ 420) (z373 : 0 ≤ (v.1 0 373).toInt ∧ (v.1 0 373).toInt ≤ 4000) (z381 : 0 ≤ (v.1 0 381).toInt ∧ (v.1 0 381).toInt ≤ 3008) (hL1 : L1.length = 40) (hL2 : L2.length = 60) (rp : RP v) (hps : pr ps = ad 908) (es300 : (v.1 0 300) = ps) (es310 : (v.1 0 310) = ps) (hst : l.stackTraces = false) (zn : 40 ≤ (v.1 0 306).toInt + (n : Int)) : vx_Met l yX2_named (Cond.code yX2_named cX2_named 7 (some .boolean) :: tw_W) ({ frames := 8 * n + 15, cells := 1, slots := 6, locals := 28 * (8 * n + 15) }) (pc_ (dC, dI) (tyS cI cB cZ cJ cR) tb (cW ad pr N cI cR L1 L2 v) sz [.ref (ad 902), .int pa]) (qiz_ (dC, dI) (cW ad pr N cI cR L1 L2 v) sz (fun (r : Int32) (u : MS) => FC [305, 306, 307, 314, 315, 317, 321, 326, 381] [0, 316, 318, 319, 320, 324, 325, 378, 379, 380] v u ∧ (0 ≤ (u.1 0 306).toInt ∧ (u.1 0 306).toInt ≤ 40) ∧ (0 ≤ (u.1 0 321).toInt ∧ (u.1 0 321).toInt ≤ 501) ∧ (0 ≤ (u.1 0 326).toInt ∧ (u.1 0 326).toInt ≤ 420) ∧ (0 ≤ (u.1 0 381).toInt ∧ (u.1 0 381).toInt ≤ 3008) ∧ ((u.1 0 306).toInt = (v.1 0 306).toInt) ∧ (r = 0 ∨ r = 1)) (fun (u : MS) => (cW ad pr N cI cR L1 L2 u))) (qxc (dC, dI) (cW ad pr N cI cR L1 L2 v) sz (fun (u : MS) => (cW ad pr N cI cR L1 L2 u)) (fun (u : MS) => FC xfl xal v u ∧ (u.1 0 308).toInt ≠ 0)) 1 6 (va_A (cW ad pr N cI cR L1 L2 v) sz) := by
  refine vx_ofW (cc := cX2_named) (maxL := 7) (ret := (some .boolean)) (by decide) rfl ?_
  intro p e s m args below meth c s₁ B hml hnt hv
  obtain ⟨rfl, hsz, hP, hKK, hD0, hFx⟩ := hv
  have hK := hKK.1
  have hx := B.exec
  have hb := B.bytes
  have hr := B.returns
  have ht : ∀ w ∈ tw_W, w.before _ s = true := fun w h => atoms_spec (ws := Cond.code yX2_named cX2_named 7 (some .boolean) :: tw_W) B.pre w (List.mem_cons_of_mem _ h)
  have hown : s.vm.findClass RX2 = some m.cls := findClass_of_methodNamed B.named
  have hlocks := B.notSynchronized
  subst hsz
  unfold qiz_ qxc
  have hD := hD0.self (sz := s.heap.size)
  generalize hAe : va_A (cW ad pr N cI cR L1 L2 v) s.heap.size = A at hD hFx ⊢
  have hA : ∀ q : Nat, s.heap.size ≤ q → A q := fun q h => by rw [← hAe]; exact Or.inr h
  have hS : va_S A s.heap s.heap [] := va_S.rf
  have hl := lv_entry ([.ref (ad 902), .int pa]) (n := 7) (Nat.le_of_ble_eq_true rfl)
  rw [lg_entry_eq]
  generalize (lg_sl ([.ref (ad 902), .int pa]) ++ List.replicate (7 - (lg_sl ([.ref (ad 902), .int pa])).length) Slot.unset).toArray = ls at hl ⊢
  have hl : lv_has ls 7 [(0, .ref (ad 902)), (1, .int pa)] := hl
  refine lv_aload_n hx hb dX2_named_0 rfl (lv_at hl 0 rfl) ?_
  refine va_get (D := (dC, dI)) (ci := 6) (fs := oF_X2 ad pr v) (v := .ref (ad 900)) (C := RX2) (T := TX2) (N := 5) hx hb ht itX2 hown hK hP 2 rfl rfl 0 (by decide) (ht _ tw_509) (fun _ h9 => h9) rfl dX2_named_1 ?_
  refine cu_i (rn_Vk (n := 0) (As := []) (rest := []) hx hb hml hown ht hKK hFx hP hD hS hA (c_x_X9_kindBehind l dC dI cI cB cZ cJ cR tb s.heap.size ad pr N L1 L2 v  (show 0 ≤ (v.1 0 304).toInt ∧ (v.1 0 304).toInt ≤ 1503 from (om_c99648273b z304))) tw_543 tw_544 (by decide +kernel) rfl rfl ⟨show 0 + 1 ≤ 8 * n + 15 from om_fce2c17b78, show 8 + (1 + 11) + 0 ≤ 28 * (8 * n + 15) from om_bca265e904⟩ (List.range (cW ad pr N cI cR L1 L2 v).length) (rg_map _) (nd_range _) 0 rfl rfl rfl rfl hl.1 rfl (Nat.le_of_ble_eq_true rfl) dX2_named_4 ⟨Nat.le_of_ble_eq_true rfl, Nat.le_of_ble_eq_true rfl⟩) hP hD hS hA (fun r3 u2 H locs hw1 hP hD hS => ?_)
  obtain rfl := hw1
  refine W.widen (k := 0) (n := 0) (Nat.le_refl _) (Nat.le_refl _) ?_
  refine lv_istore_n (lv' := [(2, .int r3), (0, .ref (ad 902)), (1, .int pa)]) hx hb dX2_named_7 rfl hl (by decide) rfl (fun ls hl => ?_)
  refine lv_aload_n hx hb dX2_named_8 rfl (lv_at hl 1 rfl) ?_
  refine va_get (D := (dC, dI)) (ci := 6) (fs := oF_X2 ad pr v) (v := .ref (ad 901)) (C := RX2) (T := TX2) (N := 5) hx hb ht itX2 hown hK hP 2 rfl rfl 1 (by decide) (ht _ tw_498) (fun _ h9 => h9) rfl dX2_named_9 ?_
  refine lv_aload_n hx hb dX2_named_12 rfl (lv_at hl 1 rfl) ?_
  refine va_get (D := (dC, dI)) (ci := 6) (fs := oF_X2 ad pr v) (v := .ref (ad 900)) (C := RX2) (T := TX2) (N := 5) hx hb ht itX2 hown hK hP 2 rfl rfl 0 (by decide) (ht _ tw_509) (fun _ h9 => h9) rfl dX2_named_13 ?_
  refine cu_i (rn_Vk (n := 0) (As := []) (rest := [.ref (ad 901)]) hx hb hml hown ht hKK hFx hP hD hS hA (c_x_X9_value l dC dI cI cB cZ cJ cR tb H.size ad pr N L1 L2 v  (show 0 ≤ (v.1 0 304).toInt ∧ (v.1 0 304).toInt ≤ 1503 from (om_c99648273b z304))) tw_535 tw_536 (by decide +kernel) rfl rfl ⟨show 0 + 1 ≤ 8 * n + 15 from om_fce2c17b78, show 8 + (1 + 11) + 0 ≤ 28 * (8 * n + 15) from om_bca265e904⟩ (List.range (cW ad pr N cI cR L1 L2 v).length) (rg_map _) (nd_range _) 0 rfl rfl rfl rfl hl.1 rfl (Nat.le_of_ble_eq_true rfl) dX2_named_16 ⟨Nat.le_of_ble_eq_true rfl, Nat.le_of_ble_eq_true rfl⟩) hP hD hS hA (fun r6 u5 H locs hw4 hP hD hS => ?_)
  obtain rfl := hw4
  refine W.widen (k := 0) (n := 0) (Nat.le_refl _) (Nat.le_refl _) ?_
  refine cu_i (rn_Vk (n := 1) (As := [.int r6]) (rest := []) hx hb hml hown ht hKK hFx hP hD hS hA (c_x_X1_slotNamed l dC dI cI cB cZ cJ cR tb H.size ad pr N L1 L2 v r6 (show 0 ≤ (v.1 0 312).toInt ∧ (v.1 0 312).toInt ≤ 500 from (om_9861e69da5 z312))) tw_477 tw_545 (by decide +kernel) rfl rfl ⟨show 1 + 1 ≤ 8 * n + 15 from om_60a3ad0423, show 8 + (3 + 11) + 14 ≤ 28 * (8 * n + 15) from om_c7002dd5fa⟩ (List.range (cW ad pr N cI cR L1 L2 v).length) (rg_map _) (nd_range _) 1 rfl rfl rfl rfl hl.1 rfl (Nat.le_of_ble_eq_true rfl) dX2_named_19 ⟨Nat.le_of_ble_eq_true rfl, Nat.le_of_ble_eq_true rfl⟩) hP hD hS hA (fun r9 u8 H locs hw7 hP hD hS => ?_)
  obtain ⟨rfl, c7⟩ := hw7
  refine W.widen (k := 0) (n := 0) (Nat.le_refl _) (Nat.le_refl _) ?_
  refine lv_istore_n (lv' := [(3, .int r9), (2, .int r3), (0, .ref (ad 902)), (1, .int pa)]) hx hb dX2_named_22 rfl hl (by decide) rfl (fun ls hl => ?_)
  refine lv_iload_n hx hb dX2_named_23 rfl (lv_at hl 0 rfl) ?_
  refine lv_iconst (v := -1) hx hb dX2_named_24 (by decide) ?_
  refine lv_icmp_ne (tgt := 48) hx hb dX2_named_25 (by decide) (fun h10 => ?_) (fun h10 => ?_)
  · have z11 : r9.toInt ≠ (-1 : Int) := ne_z rfl (show ((-1) : Int32).toInt = (-1 : Int) by decide) h10
    refine lv_iconst (v := -1) hx hb dX2_named_48 (by decide) ?_
    refine lv_istore (lv' := [(4, .int (-1)), (3, .int r9), (2, .int r3), (0, .ref (ad 902)), (1, .int pa)]) hx hb dX2_named_49 hl (by decide) rfl (fun ls hl => ?_)
    refine lv_iload_n hx hb dX2_named_51 rfl (lv_at hl 1 rfl) ?_
    refine lv_iconst (v := -1) hx hb dX2_named_52 (by decide) ?_
    refine lv_icmp_ne (tgt := 62) hx hb dX2_named_53 (by decide) (fun h12 => ?_) (fun h12 => ?_)
    · have z13 : r9.toInt ≠ (-1 : Int) := ne_z rfl (show ((-1) : Int32).toInt = (-1 : Int) by decide) h12
      refine lv_iconst (v := 1) hx hb dX2_named_62 (by decide) ?_
      refine lv_goto (tgt := 67) hx hb dX2_named_63 (by decide) ?_
      refine lv_istore (lv' := [(5, .int 1), (4, .int (-1)), (3, .int r9), (2, .int r3), (0, .ref (ad 902)), (1, .int pa)]) hx hb dX2_named_67 hl (by decide) rfl (fun ls hl => ?_)
      refine lv_iload_n hx hb dX2_named_69 rfl (lv_at hl 3 rfl) ?_
      refine lv_bipush (v := 30) hx hb dX2_named_70 (by decide) ?_
      refine lv_icmp_ne (tgt := 101) hx hb dX2_named_72 (by decide) (fun h14 => ?_) (fun h14 => ?_)
      · have z15 : r3.toInt ≠ (30 : Int) := ne_z rfl (show (30 : Int32).toInt = (30 : Int) by decide) h14
        refine lv_aload_n hx hb dX2_named_101 rfl (lv_at hl 4 rfl) ?_
        refine va_get (D := (dC, dI)) (ci := 6) (fs := oF_X2 ad pr v) (v := .ref (ad 901)) (C := RX2) (T := TX2) (N := 5) hx hb ht itX2 hown hK hP 2 rfl rfl 1 (by decide) (ht _ tw_498) (fun _ h9 => h9) rfl dX2_named_102 ?_
        refine va_getN (D := (dC, dI)) (ci := 5) (fs := oF_X1 ad pr v) (v := .ref (pr (v.1 0 310))) (C := RX1) (T := TX1) (N := 12) hx hb ht itX1 hown hK hP 1 rfl rfl 0 (by decide) (hKK.fl2 3 rfl) (fun _ h9 => h9) rfl dX2_named_105 ?_
        refine lv_iload hx hb dX2_named_108 (lv_at hl 1 rfl) ?_
        refine lv_iconst (v := 2) hx hb dX2_named_110 (by decide) ?_
        refine W.eq (g2 := F0 m 111 ls [.int 2, .int (-1), .ref (ad 908)]) (by rw [show pr (v.1 0 310) = (ad 908) from (by rw [show (v.1 0 310) = ps from es310]; exact hps)]) ?_
        refine cu_i (rn_Vk (n := 2) (As := [.int (-1), .int 2]) (rest := []) hx hb hml hown ht hKK hFx hP hD hS hA (c_x_X7_globalFact l dC dI cI cB cZ cJ cR tb H.size ad pr N L1 L2 v (-1 : Int32) (2 : Int32) (show L1.length = 40 from hL1) (show L2.length = 60 from hL2) (show RP v from rp)) tw_402 tw_546 (by decide +kernel) rfl rfl ⟨show 0 + 1 ≤ 8 * n + 15 from om_fce2c17b78, show 8 + (3 + 11) + 0 ≤ 28 * (8 * n + 15) from om_0eaa3b1b86⟩ (List.range (cW ad pr N cI cR L1 L2 v).length) (rg_map _) (nd_range _) 8 rfl rfl rfl rfl hl.1 rfl (Nat.le_of_ble_eq_true rfl) dX2_named_111 ⟨Nat.le_of_ble_eq_true rfl, Nat.le_of_ble_eq_true rfl⟩) hP hD hS hA (fun r18 u17 H locs hw16 hP hD hS => ?_)
        obtain ⟨rfl, c16, d16⟩ := hw16
        have c16 : ((2 : Int) ≠ 0 ∨ r18.toInt ≤ 1000) := c16
        refine W.widen (k := 0) (n := 0) (Nat.le_refl _) (Nat.le_refl _) ?_
        refine lv_iconst (v := 1) hx hb dX2_named_114 (by decide) ?_
        refine lv_icmp_ne (tgt := 122) hx hb dX2_named_115 (by decide) (fun h19 => ?_) (fun h19 => ?_)
        · have z20 : r18.toInt ≠ (1 : Int) := ne_z rfl (show (1 : Int32).toInt = (1 : Int) by decide) h19
          refine lv_iconst (v := 0) hx hb dX2_named_122 (by decide) ?_
          refine lv_istore (lv' := [(6, .int 0), (5, .int 1), (4, .int (-1)), (3, .int r9), (2, .int r3), (0, .ref (ad 902)), (1, .int pa)]) hx hb dX2_named_123 hl (by decide) rfl (fun ls hl => ?_)
          refine lv_iload hx hb dX2_named_125 (lv_at hl 1 rfl) ?_
          refine lv_if_eq (tgt := 146) hx hb dX2_named_127 (by decide) (fun k21 => absurd k21 (by decide)) (fun _ => ?_)
          refine lv_iload hx hb dX2_named_130 (lv_at hl 0 rfl) ?_
          refine lv_iload_n hx hb dX2_named_132 rfl (lv_at hl 4 rfl) ?_
          refine lv_bipush (v := 34) hx hb dX2_named_133 (by decide) ?_
          refine lv_icmp_ne (tgt := 142) hx hb dX2_named_135 (by decide) (fun h22 => ?_) (fun h22 => ?_)
          · have z23 : r3.toInt ≠ (34 : Int) := ne_z rfl (show (34 : Int32).toInt = (34 : Int) by decide) h22
            refine lv_iconst (v := 0) hx hb dX2_named_142 (by decide) ?_
            refine lv_icmp_eq (tgt := 161) hx hb dX2_named_143 (by decide) (fun _ => ?_) (fun k24 => absurd k24 (by decide))
            refine lv_aload_n hx hb dX2_named_161 rfl (lv_at hl 5 rfl) ?_
            refine va_get (D := (dC, dI)) (ci := 6) (fs := oF_X2 ad pr v) (v := .ref (ad 900)) (C := RX2) (T := TX2) (N := 5) hx hb ht itX2 hown hK hP 2 rfl rfl 0 (by decide) (ht _ tw_509) (fun _ h9 => h9) rfl dX2_named_162 ?_
            refine W.sz (fun hz9 => ?_)
            refine czx_v (rx_Vk (n := 0) (As := []) (rest := []) hx hb hml hown ht hKK hFx hP hD hS hA (c_x_X9_take l dC dI cI cB cZ cJ cR tb H.size ad pr N L1 L2 v ps (show 0 ≤ (v.1 0 304).toInt ∧ (v.1 0 304).toInt ≤ 1503 from (om_c99648273b z304)) (show 0 ≤ (v.1 0 373).toInt ∧ (v.1 0 373).toInt ≤ 4000 from (om_c74a68af25 z373)) (show pr ps = ad 908 from hps) (show (v.1 0 300) = ps from es300) (show l.stackTraces = false from hst)) tw_539 tw_540 (by decide +kernel) rfl rfl ⟨show 7 + 1 ≤ 8 * n + 15 from om_ec1f92c19e, show 8 + (1 + 11) + 104 ≤ 28 * (8 * n + 15) from om_9d5a13a74b⟩ (List.range (cW ad pr N cI cR L1 L2 v).length) (rg_map _) (nd_range _) 0 rfl rfl rfl rfl hl.1 rfl (Nat.le_of_ble_eq_true rfl) dX2_named_165 ⟨Nat.le_of_ble_eq_true rfl, Nat.le_of_ble_eq_true rfl⟩) hP hD hS hA (fun u9 ce9 q9 H locs hx9 hP hD hS hc9 hv9 hf9 => ?_) (fun u26 H locs hw25 hP hD hS hz8 => ?_)
            · exact vx_out (fun x h9 => (hnt x h9).elim) hlocks hc9 hv9 hf9 (fun t9 ht9 hv8 => ⟨u9, ⟨FC.tr (FC.rf _) hx9.1, hx9.2⟩, ⟨rfl, by rw [ht9]; exact hP, hD⟩, hS.F ht9⟩) hS.2.2 (Nat.le_refl _) (Nat.le_refl _)
            refine W.shrink (hz8.trans hz9) ?_
            have fr25 := hw25
            refine lv_iload hx hb dX2_named_168 (lv_at hl 0 rfl) ?_
            refine lv_if_eq (tgt := 179) hx hb dX2_named_170 (by decide) (fun _ => ?_) (fun k28 => absurd k28 (by decide))
            refine lv_iload_n hx hb dX2_named_179 rfl (lv_at hl 6 rfl) ?_
            refine lv_if_eq (tgt := 207) hx hb dX2_named_180 (by decide) (fun h29 => ?_) (fun h29 => ?_)
            · have z30 : pa.toInt = (0 : Int) := eq_z rfl (show (0 : Int32).toInt = (0 : Int) by decide) h29
              refine lv_iload hx hb dX2_named_207 (lv_at hl 0 rfl) ?_
              refine lv_if_eq (tgt := 227) hx hb dX2_named_209 (by decide) (fun _ => ?_) (fun k31 => absurd k31 (by decide))
              refine lv_aload_n hx hb dX2_named_227 rfl (lv_at hl 5 rfl) ?_
              refine lv_iload_n hx hb dX2_named_228 rfl (lv_at hl 3 rfl) ?_
              refine lv_iload hx hb dX2_named_229 (lv_at hl 2 rfl) ?_
              have q32 : (u26.1 0 381).toInt = (v.1 0 381).toInt := congrArg Int32.toInt ((fr25.2.1 381 (by decide)).trans (show v.1 0 381 = (v.1 0 381) by rfl))
              refine cu_v (rn_Vk (n := 2) (As := [.int r9, .int (-1)]) (rest := []) hx hb hml hown ht hKK hFx hP hD hS hA (c_x_X2_read l dC dI cI cB cZ cJ cR tb H.size ad pr N L1 L2 u26 r9 (-1 : Int32) ps (show 0 ≤ (u26.1 0 381).toInt ∧ (u26.1 0 381).toInt ≤ 3008 from (om_6e4eb11ad3 z381 q32)) (show pr ps = ad 908 from hps) (show (u26.1 0 310) = ps from (Eq.trans (fr25.2.1 310 (by decide)) es310))) tw_522 tw_523 (by decide +kernel) rfl rfl ⟨show 1 + 1 ≤ 8 * n + 15 from om_60a3ad0423, show 8 + (3 + 11) + 24 ≤ 28 * (8 * n + 15) from om_82dcfb3396⟩ (List.range (cW ad pr N cI cR L1 L2 u26).length) (rg_map _) (nd_range _) 2 rfl rfl rfl rfl hl.1 rfl (Nat.le_of_ble_eq_true rfl) dX2_named_231 ⟨Nat.le_of_ble_eq_true rfl, Nat.le_of_ble_eq_true rfl⟩) hP hD hS hA (fun u34 H locs hw33 hP hD hS => ?_)
              obtain ⟨fr33, i38133⟩ := hw33
              have i38133 : 0 ≤ (u34.1 0 381).toInt ∧ (u34.1 0 381).toInt ≤ 3008 := i38133
              refine W.widen (k := 0) (n := 0) (Nat.le_refl _) (Nat.le_refl _) ?_
              refine lv_iconst (v := 0) hx hb dX2_named_234 (by decide) ?_
              have q36 : (u26.1 0 306).toInt = (v.1 0 306).toInt := congrArg Int32.toInt ((fr25.2.1 306 (by decide)).trans (show v.1 0 306 = (v.1 0 306) by rfl))
              have q37 : (u34.1 0 306).toInt = (u26.1 0 306).toInt := congrArg Int32.toInt ((fr33.2.1 306 (by decide)).trans (show u26.1 0 306 = (u26.1 0 306) by rfl))
              have q38 : (u26.1 0 321).toInt = (v.1 0 321).toInt := congrArg Int32.toInt ((fr25.2.1 321 (by decide)).trans (show v.1 0 321 = (v.1 0 321) by rfl))
              have q39 : (u34.1 0 321).toInt = (u26.1 0 321).toInt := congrArg Int32.toInt ((fr33.2.1 321 (by decide)).trans (show u26.1 0 321 = (u26.1 0 321) by rfl))
              have q40 : (u26.1 0 326).toInt = (v.1 0 326).toInt := congrArg Int32.toInt ((fr25.2.1 326 (by decide)).trans (show v.1 0 326 = (v.1 0 326) by rfl))
              have q41 : (u34.1 0 326).toInt = (u26.1 0 326).toInt := congrArg Int32.toInt ((fr33.2.1 326 (by decide)).trans (show u26.1 0 326 = (u26.1 0 326) by rfl))
              refine W.sz (fun hz => ?_)
              refine vx_ret ?_
              refine W.widen (k := 1) (n := 6) (Nat.le_of_ble_eq_true rfl) (Nat.le_of_ble_eq_true rfl) ?_
              exact W.zret (v := 0) hx hb hr rfl (fun t ht9 hW => ⟨⟨0, u34, rfl, ⟨(FC.tr (FC.tr (FC.rf _) (FC.up fr25 (by decide) (by decide))) (FC.up fr33 (by decide) (by decide))), (show 0 ≤ (u34.1 0 306).toInt ∧ (u34.1 0 306).toInt ≤ 40 from (om_68f540929a z306 q36 q37)), (show 0 ≤ (u34.1 0 321).toInt ∧ (u34.1 0 321).toInt ≤ 501 from (om_4dfa815534 z321 q38 q39)), (show 0 ≤ (u34.1 0 326).toInt ∧ (u34.1 0 326).toInt ≤ 420 from (om_9591dea625 z326 q40 q41)), (show 0 ≤ (u34.1 0 381).toInt ∧ (u34.1 0 381).toInt ≤ 3008 from (om_e78eec72e1 i38133)), (show (u34.1 0 306).toInt = (v.1 0 306).toInt from (om_837b7bd001 q36 q37)), (Or.inl rfl)⟩, ⟨by rw [ht9]; exact hP, hD⟩, by rw [ht9]; exact hz⟩, hS.F ht9⟩) hS.2.2 dX2_named_235
            · have z42 : pa.toInt ≠ (0 : Int) := ne_z rfl (show (0 : Int32).toInt = (0 : Int) by decide) h29
              refine lv_aload_n hx hb dX2_named_183 rfl (lv_at hl 5 rfl) ?_
              refine va_get (D := (dC, dI)) (ci := 6) (fs := oF_X2 ad pr u26) (v := .ref (ad 900)) (C := RX2) (T := TX2) (N := 5) hx hb ht itX2 hown hK hP 2 rfl rfl 0 (by decide) (ht _ tw_509) (fun _ h9 => h9) rfl dX2_named_184 ?_
              have q43 : (u26.1 0 304).toInt = (v.1 0 304).toInt := congrArg Int32.toInt ((fr25.2.1 304 (by decide)).trans (show v.1 0 304 = (v.1 0 304) by rfl))
              refine cu_i (rn_Vk (n := 0) (As := []) (rest := []) hx hb hml hown ht hKK hFx hP hD hS hA (c_x_X9_kind l dC dI cI cB cZ cJ cR tb H.size ad pr N L1 L2 u26  (show 0 ≤ (u26.1 0 304).toInt ∧ (u26.1 0 304).toInt ≤ 1503 from (om_73002589c1 z304 q43))) tw_455 tw_532 (by decide +kernel) rfl rfl ⟨show 0 + 1 ≤ 8 * n + 15 from om_fce2c17b78, show 8 + (1 + 11) + 0 ≤ 28 * (8 * n + 15) from om_bca265e904⟩ (List.range (cW ad pr N cI cR L1 L2 u26).length) (rg_map _) (nd_range _) 0 rfl rfl rfl rfl hl.1 rfl (Nat.le_of_ble_eq_true rfl) dX2_named_187 ⟨Nat.le_of_ble_eq_true rfl, Nat.le_of_ble_eq_true rfl⟩) hP hD hS hA (fun r46 u45 H locs hw44 hP hD hS => ?_)
              obtain rfl := hw44
              refine W.widen (k := 0) (n := 0) (Nat.le_refl _) (Nat.le_refl _) ?_
              refine cu_s (nd_range _) (rn_S (n := 1) (As := [.int r46]) (rest := []) hx hb hml hown ht hKK hFx hP hD hS hA (c_x_X9_isSet l dC dI cI cB cZ cJ cR tb H.size r46 ) tw_547 tw_548 (by decide +kernel) rfl rfl ⟨show 0 + 1 ≤ 8 * n + 15 from om_fce2c17b78, show 8 + (1 + 11) + 0 ≤ 28 * (8 * n + 15) from om_bca265e904⟩ [] rfl rfl rfl hl.1 rfl (Nat.le_of_ble_eq_true rfl) dX2_named_190 ⟨Nat.le_of_ble_eq_true rfl, Nat.le_of_ble_eq_true rfl⟩) hP hD hS hA (fun r49 H locs hw47 hP hD hS => ?_)
              obtain ⟨b47, e47⟩ := hw47
              have b47 : (r49 = 0 ∨ r49 = 1) := b47
              have e47 : (0 ≤ r49.toInt ∧ r49.toInt ≤ 1) := e47
              refine W.widen (k := 0) (n := 0) (Nat.le_refl _) (Nat.le_refl _) ?_
              refine lv_if_eq (tgt := 207) hx hb dX2_named_193 (by decide) (fun h50 => ?_) (fun h50 => ?_)
              · have z51 : r49.toInt = (0 : Int) := eq_z rfl (show (0 : Int32).toInt = (0 : Int) by decide) h50
                refine lv_iload hx hb dX2_named_207 (lv_at hl 0 rfl) ?_
                refine lv_if_eq (tgt := 227) hx hb dX2_named_209 (by decide) (fun _ => ?_) (fun k52 => absurd k52 (by decide))
                refine lv_aload_n hx hb dX2_named_227 rfl (lv_at hl 5 rfl) ?_
                refine lv_iload_n hx hb dX2_named_228 rfl (lv_at hl 3 rfl) ?_
                refine lv_iload hx hb dX2_named_229 (lv_at hl 2 rfl) ?_
                have q53 : (u26.1 0 381).toInt = (v.1 0 381).toInt := congrArg Int32.toInt ((fr25.2.1 381 (by decide)).trans (show v.1 0 381 = (v.1 0 381) by rfl))
                refine cu_v (rn_Vk (n := 2) (As := [.int r9, .int (-1)]) (rest := []) hx hb hml hown ht hKK hFx hP hD hS hA (c_x_X2_read l dC dI cI cB cZ cJ cR tb H.size ad pr N L1 L2 u26 r9 (-1 : Int32) ps (show 0 ≤ (u26.1 0 381).toInt ∧ (u26.1 0 381).toInt ≤ 3008 from (om_6e4eb11ad3 z381 q53)) (show pr ps = ad 908 from hps) (show (u26.1 0 310) = ps from (Eq.trans (fr25.2.1 310 (by decide)) es310))) tw_522 tw_523 (by decide +kernel) rfl rfl ⟨show 1 + 1 ≤ 8 * n + 15 from om_60a3ad0423, show 8 + (3 + 11) + 24 ≤ 28 * (8 * n + 15) from om_82dcfb3396⟩ (List.range (cW ad pr N cI cR L1 L2 u26).length) (rg_map _) (nd_range _) 2 rfl rfl rfl rfl hl.1 rfl (Nat.le_of_ble_eq_true rfl) dX2_named_231 ⟨Nat.le_of_ble_eq_true rfl, Nat.le_of_ble_eq_true rfl⟩) hP hD hS hA (fun u55 H locs hw54 hP hD hS => ?_)
                obtain ⟨fr54, i38154⟩ := hw54
                have i38154 : 0 ≤ (u55.1 0 381).toInt ∧ (u55.1 0 381).toInt ≤ 3008 := i38154
                refine W.widen (k := 0) (n := 0) (Nat.le_refl _) (Nat.le_refl _) ?_
                refine lv_iconst (v := 0) hx hb dX2_named_234 (by decide) ?_
                have q57 : (u26.1 0 306).toInt = (v.1 0 306).toInt := congrArg Int32.toInt ((fr25.2.1 306 (by decide)).trans (show v.1 0 306 = (v.1 0 306) by rfl))
                have q58 : (u55.1 0 306).toInt = (u26.1 0 306).toInt := congrArg Int32.toInt ((fr54.2.1 306 (by decide)).trans (show u26.1 0 306 = (u26.1 0 306) by rfl))
                have q59 : (u26.1 0 321).toInt = (v.1 0 321).toInt := congrArg Int32.toInt ((fr25.2.1 321 (by decide)).trans (show v.1 0 321 = (v.1 0 321) by rfl))
                have q60 : (u55.1 0 321).toInt = (u26.1 0 321).toInt := congrArg Int32.toInt ((fr54.2.1 321 (by decide)).trans (show u26.1 0 321 = (u26.1 0 321) by rfl))
                have q61 : (u26.1 0 326).toInt = (v.1 0 326).toInt := congrArg Int32.toInt ((fr25.2.1 326 (by decide)).trans (show v.1 0 326 = (v.1 0 326) by rfl))
                have q62 : (u55.1 0 326).toInt = (u26.1 0 326).toInt := congrArg Int32.toInt ((fr54.2.1 326 (by decide)).trans (show u26.1 0 326 = (u26.1 0 326) by rfl))
                refine W.sz (fun hz => ?_)
                refine vx_ret ?_
                refine W.widen (k := 1) (n := 6) (Nat.le_of_ble_eq_true rfl) (Nat.le_of_ble_eq_true rfl) ?_
                exact W.zret (v := 0) hx hb hr rfl (fun t ht9 hW => ⟨⟨0, u55, rfl, ⟨(FC.tr (FC.tr (FC.rf _) (FC.up fr25 (by decide) (by decide))) (FC.up fr54 (by decide) (by decide))), (show 0 ≤ (u55.1 0 306).toInt ∧ (u55.1 0 306).toInt ≤ 40 from (om_68f540929a z306 q57 q58)), (show 0 ≤ (u55.1 0 321).toInt ∧ (u55.1 0 321).toInt ≤ 501 from (om_4dfa815534 z321 q59 q60)), (show 0 ≤ (u55.1 0 326).toInt ∧ (u55.1 0 326).toInt ≤ 420 from (om_9591dea625 z326 q61 q62)), (show 0 ≤ (u55.1 0 381).toInt ∧ (u55.1 0 381).toInt ≤ 3008 from (om_e78eec72e1 i38154)), (show (u55.1 0 306).toInt = (v.1 0 306).toInt from (om_837b7bd001 q57 q58)), (Or.inl rfl)⟩, ⟨by rw [ht9]; exact hP, hD⟩, by rw [ht9]; exact hz⟩, hS.F ht9⟩) hS.2.2 dX2_named_235
              · have z63 : r49.toInt ≠ (0 : Int) := ne_z rfl (show (0 : Int32).toInt = (0 : Int) by decide) h50
                refine lv_aload_n hx hb dX2_named_196 rfl (lv_at hl 5 rfl) ?_
                refine lv_iload_n hx hb dX2_named_197 rfl (lv_at hl 3 rfl) ?_
                refine lv_iload hx hb dX2_named_198 (lv_at hl 2 rfl) ?_
                refine lv_iload hx hb dX2_named_200 (lv_at hl 0 rfl) ?_
                have q64 : (u26.1 0 306).toInt = (v.1 0 306).toInt := congrArg Int32.toInt ((fr25.2.1 306 (by decide)).trans (show v.1 0 306 = (v.1 0 306) by rfl))
                have q65 : (u26.1 0 312).toInt = (v.1 0 312).toInt := congrArg Int32.toInt ((fr25.2.1 312 (by decide)).trans (show v.1 0 312 = (v.1 0 312) by rfl))
                have q66 : (u26.1 0 321).toInt = (v.1 0 321).toInt := congrArg Int32.toInt ((fr25.2.1 321 (by decide)).trans (show v.1 0 321 = (v.1 0 321) by rfl))
                have q67 : (u26.1 0 326).toInt = (v.1 0 326).toInt := congrArg Int32.toInt ((fr25.2.1 326 (by decide)).trans (show v.1 0 326 = (v.1 0 326) by rfl))
                have q68 : (u26.1 0 373).toInt = (v.1 0 373).toInt := congrArg Int32.toInt ((fr25.2.1 373 (by decide)).trans (show v.1 0 373 = (v.1 0 373) by rfl))
                have q69 : (u26.1 0 381).toInt = (v.1 0 381).toInt := congrArg Int32.toInt ((fr25.2.1 381 (by decide)).trans (show v.1 0 381 = (v.1 0 381) by rfl))
                refine W.sz (fun hz9 => ?_)
                refine czx_v (rx_Vk (n := 3) (As := [.int r9, .int (-1), .int 0]) (rest := []) hx hb hml hown ht hKK hFx hP hD hS hA (c_x_X2_change l n ihE dC dI cI cB cZ cJ cR tb H.size ad pr N L1 L2 u26 r9 (-1 : Int32) (0 : Int32) ps (show 0 ≤ (u26.1 0 304).toInt ∧ (u26.1 0 304).toInt ≤ 1503 from (om_73002589c1 z304 q43)) (show 0 ≤ (u26.1 0 306).toInt ∧ (u26.1 0 306).toInt ≤ 40 from (om_99e115f631 z306 q64)) (show 0 ≤ (u26.1 0 312).toInt ∧ (u26.1 0 312).toInt ≤ 500 from (om_f8376ff89c z312 q65)) (show 0 ≤ (u26.1 0 321).toInt ∧ (u26.1 0 321).toInt ≤ 501 from (om_ff27494c0e z321 q66)) (show 0 ≤ (u26.1 0 326).toInt ∧ (u26.1 0 326).toInt ≤ 420 from (om_8ed0dedb19 z326 q67)) (show 0 ≤ (u26.1 0 373).toInt ∧ (u26.1 0 373).toInt ≤ 4000 from (om_9084c127ed z373 q68)) (show 0 ≤ (u26.1 0 381).toInt ∧ (u26.1 0 381).toInt ≤ 3008 from (om_6e4eb11ad3 z381 q69)) (show L1.length = 40 from hL1) (show L2.length = 60 from hL2) (show RP u26 from ((show FC [305, 306, 307, 314, 315, 317, 321, 326, 381] [0, 316, 318, 319, 320, 324, 325, 378, 379, 380] v u26 from (FC.tr (FC.rf _) (FC.up fr25 (by decide) (by decide)))).1 rp)) (show pr ps = ad 908 from hps) (show (u26.1 0 300) = ps from (Eq.trans (fr25.2.1 300 (by decide)) es300)) (show (u26.1 0 310) = ps from (Eq.trans (fr25.2.1 310 (by decide)) es310)) (show l.stackTraces = false from hst) (show 40 ≤ (u26.1 0 306).toInt + (n : Int) from (om_2d3a9cf1da zn q64))) tw_549 tw_550 (by decide +kernel) rfl rfl ⟨show (8 * n + 14) + 1 ≤ 8 * n + 15 from om_c0c6541b93, show 8 + (7 + 11) + 28 * (8 * n + 14) ≤ 28 * (8 * n + 15) from om_fb93e872bb⟩ (List.range (cW ad pr N cI cR L1 L2 u26).length) (rg_map _) (nd_range _) 2 rfl rfl rfl rfl hl.1 rfl (Nat.le_of_ble_eq_true rfl) dX2_named_202 ⟨Nat.le_of_ble_eq_true rfl, Nat.le_of_ble_eq_true rfl⟩) hP hD hS hA (fun u9 ce9 q9 H locs hx9 hP hD hS hc9 hv9 hf9 => ?_) (fun u71 H locs hw70 hP hD hS hz8 => ?_)
                · exact vx_out (fun x h9 => (hnt x h9).elim) hlocks hc9 hv9 hf9 (fun t9 ht9 hv8 => ⟨u9, ⟨FC.tr (FC.tr (FC.rf _) (FC.up fr25 (by decide) (by decide))) hx9.1, hx9.2⟩, ⟨rfl, by rw [ht9]; exact hP, hD⟩, hS.F ht9⟩) hS.2.2 (Nat.le_refl _) (Nat.le_refl _)
                refine W.shrink (hz8.trans hz9) ?_
                obtain ⟨fr70, i30670, i32170, i32670, i38170, po70⟩ := hw70
                have i30670 : 0 ≤ (u71.1 0 306).toInt ∧ (u71.1 0 306).toInt ≤ 40 := i30670
                have i32170 : 0 ≤ (u71.1 0 321).toInt ∧ (u71.1 0 321).toInt ≤ 501 := i32170
                have i32670 : 0 ≤ (u71.1 0 326).toInt ∧ (u71.1 0 326).toInt ≤ 420 := i32670
                have i38170 : 0 ≤ (u71.1 0 381).toInt ∧ (u71.1 0 381).toInt ≤ 3008 := i38170
                have po70 : (u71.1 0 306).toInt = (u26.1 0 306).toInt := po70
                refine lv_iconst (v := 1) hx hb dX2_named_205 (by decide) ?_
                refine W.sz (fun hz => ?_)
                refine vx_ret ?_
                refine W.widen (k := 1) (n := 6) (Nat.le_of_ble_eq_true rfl) (Nat.le_of_ble_eq_true rfl) ?_
                exact W.zret (v := 1) hx hb hr rfl (fun t ht9 hW => ⟨⟨1, u71, rfl, ⟨(FC.tr (FC.tr (FC.rf _) (FC.up fr25 (by decide) (by decide))) (FC.up fr70 (by decide) (by decide))), (show 0 ≤ (u71.1 0 306).toInt ∧ (u71.1 0 306).toInt ≤ 40 from (om_7eaf33e007 i30670)), (show 0 ≤ (u71.1 0 321).toInt ∧ (u71.1 0 321).toInt ≤ 501 from (om_e1d35f5faf i32170)), (show 0 ≤ (u71.1 0 326).toInt ∧ (u71.1 0 326).toInt ≤ 420 from (om_839d7ed7dd i32670)), (show 0 ≤ (u71.1 0 381).toInt ∧ (u71.1 0 381).toInt ≤ 3008 from (om_e78eec72e1 i38170)), (show (u71.1 0 306).toInt = (v.1 0 306).toInt from (om_837b7bd001 q64 po70)), (Or.inr rfl)⟩, ⟨by rw [ht9]; exact hP, hD⟩, by rw [ht9]; exact hz⟩, hS.F ht9⟩) hS.2.2 dX2_named_206
          · have z73 : r3.toInt = (34 : Int) := eq_z rfl (show (34 : Int32).toInt = (34 : Int) by decide) h22
            refine lv_iconst (v := 1) hx hb dX2_named_138 (by decide) ?_
            refine lv_goto (tgt := 143) hx hb dX2_named_139 (by decide) ?_
            refine lv_icmp_eq (tgt := 161) hx hb dX2_named_143 (by decide) (fun k74 => absurd k74 (by decide)) (fun _ => ?_)
            refine lv_aload_n hx hb dX2_named_146 rfl (lv_at hl 5 rfl) ?_
            refine va_get (D := (dC, dI)) (ci := 6) (fs := oF_X2 ad pr v) (v := .ref (ad 900)) (C := RX2) (T := TX2) (N := 5) hx hb ht itX2 hown hK hP 2 rfl rfl 0 (by decide) (ht _ tw_509) (fun _ h9 => h9) rfl dX2_named_147 ?_
            refine lv_iconst (v := 3) hx hb dX2_named_150 (by decide) ?_
            refine lv_aload_n hx hb dX2_named_151 rfl (lv_at hl 5 rfl) ?_
            refine va_get (D := (dC, dI)) (ci := 6) (fs := oF_X2 ad pr v) (v := .ref (ad 900)) (C := RX2) (T := TX2) (N := 5) hx hb ht itX2 hown hK hP 2 rfl rfl 0 (by decide) (ht _ tw_509) (fun _ h9 => h9) rfl dX2_named_152 ?_
            refine cu_i (rn_Vk (n := 0) (As := []) (rest := [.int 3, .ref (ad 900)]) hx hb hml hown ht hKK hFx hP hD hS hA (c_x_X9_place l dC dI cI cB cZ cJ cR tb H.size ad pr N L1 L2 v ps (show 0 ≤ (v.1 0 304).toInt ∧ (v.1 0 304).toInt ≤ 1503 from (om_c99648273b z304)) (show 0 ≤ (v.1 0 373).toInt ∧ (v.1 0 373).toInt ≤ 4000 from (om_c74a68af25 z373)) (show pr ps = ad 908 from hps) (show (v.1 0 300) = ps from es300)) tw_457 tw_510 (by decide +kernel) rfl rfl ⟨show 0 + 1 ≤ 8 * n + 15 from om_fce2c17b78, show 8 + (1 + 11) + 0 ≤ 28 * (8 * n + 15) from om_bca265e904⟩ (List.range (cW ad pr N cI cR L1 L2 v).length) (rg_map _) (nd_range _) 0 rfl rfl rfl rfl hl.1 rfl (Nat.le_of_ble_eq_true rfl) dX2_named_155 ⟨Nat.le_of_ble_eq_true rfl, Nat.le_of_ble_eq_true rfl⟩) hP hD hS hA (fun r77 u76 H locs hw75 hP hD hS => ?_)
            obtain rfl := hw75
            refine W.widen (k := 0) (n := 0) (Nat.le_refl _) (Nat.le_refl _) ?_
            refine W.sz (fun hz9 => ?_)
            refine czx_v (rx_Vk (n := 2) (As := [.int 3, .int r77]) (rest := []) hx hb hml hown ht hKK hFx hP hD hS hA (c_x_X9_refuse l dC dI cI cB cZ cJ cR tb H.size ad pr N L1 L2 v (3 : Int32) r77 (show l.stackTraces = false from hst) (show (3 : Int) ≠ 0 from om_59881768ad)) tw_459 tw_511 (by decide +kernel) rfl rfl ⟨show 6 + 1 ≤ 8 * n + 15 from om_838586afae, show 8 + (3 + 11) + 82 ≤ 28 * (8 * n + 15) from om_41a9d63453⟩ (List.range (cW ad pr N cI cR L1 L2 v).length) (rg_map _) (nd_range _) 0 rfl rfl rfl rfl hl.1 rfl (Nat.le_of_ble_eq_true rfl) dX2_named_158 ⟨Nat.le_of_ble_eq_true rfl, Nat.le_of_ble_eq_true rfl⟩) hP hD hS hA (fun u9 ce9 q9 H locs hx9 hP hD hS hc9 hv9 hf9 => ?_) (fun u79 H locs hw78 hP hD hS hz8 => ?_)
            · exact vx_out (fun x h9 => (hnt x h9).elim) hlocks hc9 hv9 hf9 (fun t9 ht9 hv8 => ⟨u9, ⟨FC.tr (FC.rf _) hx9.1, hx9.2⟩, ⟨rfl, by rw [ht9]; exact hP, hD⟩, hS.F ht9⟩) hS.2.2 (Nat.le_refl _) (Nat.le_refl _)
            refine W.shrink (hz8.trans hz9) ?_
            obtain ⟨fr78, no78⟩ := hw78
            exact no78.elim
        · have z81 : r18.toInt = (1 : Int) := eq_z rfl (show (1 : Int32).toInt = (1 : Int) by decide) h19
          refine lv_iconst (v := 1) hx hb dX2_named_118 (by decide) ?_
          refine lv_goto (tgt := 123) hx hb dX2_named_119 (by decide) ?_
          refine lv_istore (lv' := [(6, .int 1), (5, .int 1), (4, .int (-1)), (3, .int r9), (2, .int r3), (0, .ref (ad 902)), (1, .int pa)]) hx hb dX2_named_123 hl (by decide) rfl (fun ls hl => ?_)
          refine lv_iload hx hb dX2_named_125 (lv_at hl 1 rfl) ?_
          refine lv_if_eq (tgt := 146) hx hb dX2_named_127 (by decide) (fun k82 => absurd k82 (by decide)) (fun _ => ?_)
          refine lv_iload hx hb dX2_named_130 (lv_at hl 0 rfl) ?_
          refine lv_iload_n hx hb dX2_named_132 rfl (lv_at hl 4 rfl) ?_
          refine lv_bipush (v := 34) hx hb dX2_named_133 (by decide) ?_
          refine lv_icmp_ne (tgt := 142) hx hb dX2_named_135 (by decide) (fun h83 => ?_) (fun h83 => ?_)
          · have z84 : r3.toInt ≠ (34 : Int) := ne_z rfl (show (34 : Int32).toInt = (34 : Int) by decide) h83
            refine lv_iconst (v := 0) hx hb dX2_named_142 (by decide) ?_
            refine lv_icmp_eq (tgt := 161) hx hb dX2_named_143 (by decide) (fun k85 => absurd k85 (by decide)) (fun _ => ?_)
            refine lv_aload_n hx hb dX2_named_146 rfl (lv_at hl 5 rfl) ?_
            refine va_get (D := (dC, dI)) (ci := 6) (fs := oF_X2 ad pr v) (v := .ref (ad 900)) (C := RX2) (T := TX2) (N := 5) hx hb ht itX2 hown hK hP 2 rfl rfl 0 (by decide) (ht _ tw_509) (fun _ h9 => h9) rfl dX2_named_147 ?_
            refine lv_iconst (v := 3) hx hb dX2_named_150 (by decide) ?_
            refine lv_aload_n hx hb dX2_named_151 rfl (lv_at hl 5 rfl) ?_
            refine va_get (D := (dC, dI)) (ci := 6) (fs := oF_X2 ad pr v) (v := .ref (ad 900)) (C := RX2) (T := TX2) (N := 5) hx hb ht itX2 hown hK hP 2 rfl rfl 0 (by decide) (ht _ tw_509) (fun _ h9 => h9) rfl dX2_named_152 ?_
            refine cu_i (rn_Vk (n := 0) (As := []) (rest := [.int 3, .ref (ad 900)]) hx hb hml hown ht hKK hFx hP hD hS hA (c_x_X9_place l dC dI cI cB cZ cJ cR tb H.size ad pr N L1 L2 v ps (show 0 ≤ (v.1 0 304).toInt ∧ (v.1 0 304).toInt ≤ 1503 from (om_c99648273b z304)) (show 0 ≤ (v.1 0 373).toInt ∧ (v.1 0 373).toInt ≤ 4000 from (om_c74a68af25 z373)) (show pr ps = ad 908 from hps) (show (v.1 0 300) = ps from es300)) tw_457 tw_510 (by decide +kernel) rfl rfl ⟨show 0 + 1 ≤ 8 * n + 15 from om_fce2c17b78, show 8 + (1 + 11) + 0 ≤ 28 * (8 * n + 15) from om_bca265e904⟩ (List.range (cW ad pr N cI cR L1 L2 v).length) (rg_map _) (nd_range _) 0 rfl rfl rfl rfl hl.1 rfl (Nat.le_of_ble_eq_true rfl) dX2_named_155 ⟨Nat.le_of_ble_eq_true rfl, Nat.le_of_ble_eq_true rfl⟩) hP hD hS hA (fun r88 u87 H locs hw86 hP hD hS => ?_)
            obtain rfl := hw86
            refine W.widen (k := 0) (n := 0) (Nat.le_refl _) (Nat.le_refl _) ?_
            refine W.sz (fun hz9 => ?_)
            refine czx_v (rx_Vk (n := 2) (As := [.int 3, .int r88]) (rest := []) hx hb hml hown ht hKK hFx hP hD hS hA (c_x_X9_refuse l dC dI cI cB cZ cJ cR tb H.size ad pr N L1 L2 v (3 : Int32) r88 (show l.stackTraces = false from hst) (show (3 : Int) ≠ 0 from om_59881768ad)) tw_459 tw_511 (by decide +kernel) rfl rfl ⟨show 6 + 1 ≤ 8 * n + 15 from om_838586afae, show 8 + (3 + 11) + 82 ≤ 28 * (8 * n + 15) from om_41a9d63453⟩ (List.range (cW ad pr N cI cR L1 L2 v).length) (rg_map _) (nd_range _) 0 rfl rfl rfl rfl hl.1 rfl (Nat.le_of_ble_eq_true rfl) dX2_named_158 ⟨Nat.le_of_ble_eq_true rfl, Nat.le_of_ble_eq_true rfl⟩) hP hD hS hA (fun u9 ce9 q9 H locs hx9 hP hD hS hc9 hv9 hf9 => ?_) (fun u90 H locs hw89 hP hD hS hz8 => ?_)
            · exact vx_out (fun x h9 => (hnt x h9).elim) hlocks hc9 hv9 hf9 (fun t9 ht9 hv8 => ⟨u9, ⟨FC.tr (FC.rf _) hx9.1, hx9.2⟩, ⟨rfl, by rw [ht9]; exact hP, hD⟩, hS.F ht9⟩) hS.2.2 (Nat.le_refl _) (Nat.le_refl _)
            refine W.shrink (hz8.trans hz9) ?_
            obtain ⟨fr89, no89⟩ := hw89
            exact no89.elim
          · have z92 : r3.toInt = (34 : Int) := eq_z rfl (show (34 : Int32).toInt = (34 : Int) by decide) h83
            refine lv_iconst (v := 1) hx hb dX2_named_138 (by decide) ?_
            refine lv_goto (tgt := 143) hx hb dX2_named_139 (by decide) ?_
            refine lv_icmp_eq (tgt := 161) hx hb dX2_named_143 (by decide) (fun _ => ?_) (fun k93 => absurd k93 (by decide))
            refine lv_aload_n hx hb dX2_named_161 rfl (lv_at hl 5 rfl) ?_
            refine va_get (D := (dC, dI)) (ci := 6) (fs := oF_X2 ad pr v) (v := .ref (ad 900)) (C := RX2) (T := TX2) (N := 5) hx hb ht itX2 hown hK hP 2 rfl rfl 0 (by decide) (ht _ tw_509) (fun _ h9 => h9) rfl dX2_named_162 ?_
            refine W.sz (fun hz9 => ?_)
            refine czx_v (rx_Vk (n := 0) (As := []) (rest := []) hx hb hml hown ht hKK hFx hP hD hS hA (c_x_X9_take l dC dI cI cB cZ cJ cR tb H.size ad pr N L1 L2 v ps (show 0 ≤ (v.1 0 304).toInt ∧ (v.1 0 304).toInt ≤ 1503 from (om_c99648273b z304)) (show 0 ≤ (v.1 0 373).toInt ∧ (v.1 0 373).toInt ≤ 4000 from (om_c74a68af25 z373)) (show pr ps = ad 908 from hps) (show (v.1 0 300) = ps from es300) (show l.stackTraces = false from hst)) tw_539 tw_540 (by decide +kernel) rfl rfl ⟨show 7 + 1 ≤ 8 * n + 15 from om_ec1f92c19e, show 8 + (1 + 11) + 104 ≤ 28 * (8 * n + 15) from om_9d5a13a74b⟩ (List.range (cW ad pr N cI cR L1 L2 v).length) (rg_map _) (nd_range _) 0 rfl rfl rfl rfl hl.1 rfl (Nat.le_of_ble_eq_true rfl) dX2_named_165 ⟨Nat.le_of_ble_eq_true rfl, Nat.le_of_ble_eq_true rfl⟩) hP hD hS hA (fun u9 ce9 q9 H locs hx9 hP hD hS hc9 hv9 hf9 => ?_) (fun u95 H locs hw94 hP hD hS hz8 => ?_)
            · exact vx_out (fun x h9 => (hnt x h9).elim) hlocks hc9 hv9 hf9 (fun t9 ht9 hv8 => ⟨u9, ⟨FC.tr (FC.rf _) hx9.1, hx9.2⟩, ⟨rfl, by rw [ht9]; exact hP, hD⟩, hS.F ht9⟩) hS.2.2 (Nat.le_refl _) (Nat.le_refl _)
            refine W.shrink (hz8.trans hz9) ?_
            have fr94 := hw94
            refine lv_iload hx hb dX2_named_168 (lv_at hl 0 rfl) ?_
            refine lv_if_eq (tgt := 179) hx hb dX2_named_170 (by decide) (fun k97 => absurd k97 (by decide)) (fun _ => ?_)
            refine lv_aload_n hx hb dX2_named_173 rfl (lv_at hl 5 rfl) ?_
            refine lv_iload hx hb dX2_named_174 (lv_at hl 2 rfl) ?_
            have q98 : (u95.1 0 304).toInt = (v.1 0 304).toInt := congrArg Int32.toInt ((fr94.2.1 304 (by decide)).trans (show v.1 0 304 = (v.1 0 304) by rfl))
            have q99 : (u95.1 0 306).toInt = (v.1 0 306).toInt := congrArg Int32.toInt ((fr94.2.1 306 (by decide)).trans (show v.1 0 306 = (v.1 0 306) by rfl))
            have q100 : (u95.1 0 312).toInt = (v.1 0 312).toInt := congrArg Int32.toInt ((fr94.2.1 312 (by decide)).trans (show v.1 0 312 = (v.1 0 312) by rfl))
            have q101 : (u95.1 0 321).toInt = (v.1 0 321).toInt := congrArg Int32.toInt ((fr94.2.1 321 (by decide)).trans (show v.1 0 321 = (v.1 0 321) by rfl))
            have q102 : (u95.1 0 326).toInt = (v.1 0 326).toInt := congrArg Int32.toInt ((fr94.2.1 326 (by decide)).trans (show v.1 0 326 = (v.1 0 326) by rfl))
            have q103 : (u95.1 0 373).toInt = (v.1 0 373).toInt := congrArg Int32.toInt ((fr94.2.1 373 (by decide)).trans (show v.1 0 373 = (v.1 0 373) by rfl))
            have q104 : (u95.1 0 381).toInt = (v.1 0 381).toInt := congrArg Int32.toInt ((fr94.2.1 381 (by decide)).trans (show v.1 0 381 = (v.1 0 381) by rfl))
            refine W.sz (fun hz9 => ?_)
            refine czx_v (rx_Vk (n := 1) (As := [.int (-1)]) (rest := []) hx hb hml hown ht hKK hFx hP hD hS hA (c_x_X2_index l n ihE dC dI cI cB cZ cJ cR tb H.size ad pr N L1 L2 u95 (-1 : Int32) ps (show 0 ≤ (u95.1 0 304).toInt ∧ (u95.1 0 304).toInt ≤ 1503 from (om_73002589c1 z304 q98)) (show 0 ≤ (u95.1 0 306).toInt ∧ (u95.1 0 306).toInt ≤ 40 from (om_99e115f631 z306 q99)) (show 0 ≤ (u95.1 0 312).toInt ∧ (u95.1 0 312).toInt ≤ 500 from (om_f8376ff89c z312 q100)) (show 0 ≤ (u95.1 0 321).toInt ∧ (u95.1 0 321).toInt ≤ 501 from (om_ff27494c0e z321 q101)) (show 0 ≤ (u95.1 0 326).toInt ∧ (u95.1 0 326).toInt ≤ 420 from (om_8ed0dedb19 z326 q102)) (show 0 ≤ (u95.1 0 373).toInt ∧ (u95.1 0 373).toInt ≤ 4000 from (om_9084c127ed z373 q103)) (show 0 ≤ (u95.1 0 381).toInt ∧ (u95.1 0 381).toInt ≤ 3008 from (om_6e4eb11ad3 z381 q104)) (show L1.length = 40 from hL1) (show L2.length = 60 from hL2) (show RP u95 from ((show FC [305, 306, 307, 314, 315, 317, 321, 326, 381] [0, 316, 318, 319, 320, 324, 325, 378, 379, 380] v u95 from (FC.tr (FC.rf _) (FC.up fr94 (by decide) (by decide)))).1 rp)) (show pr ps = ad 908 from hps) (show (u95.1 0 300) = ps from (Eq.trans (fr94.2.1 300 (by decide)) es300)) (show (u95.1 0 310) = ps from (Eq.trans (fr94.2.1 310 (by decide)) es310)) (show l.stackTraces = false from hst) (show 40 ≤ (u95.1 0 306).toInt + (n : Int) from (om_2d3a9cf1da zn q99))) tw_551 tw_552 (by decide +kernel) rfl rfl ⟨show (8 * n + 14) + 1 ≤ 8 * n + 15 from om_c0c6541b93, show 8 + (2 + 11) + 28 * (8 * n + 14) ≤ 28 * (8 * n + 15) from om_c8e428155d⟩ (List.range (cW ad pr N cI cR L1 L2 u95).length) (rg_map _) (nd_range _) 2 rfl rfl rfl rfl hl.1 rfl (Nat.le_of_ble_eq_true rfl) dX2_named_176 ⟨Nat.le_of_ble_eq_true rfl, Nat.le_of_ble_eq_true rfl⟩) hP hD hS hA (fun u9 ce9 q9 H locs hx9 hP hD hS hc9 hv9 hf9 => ?_) (fun u106 H locs hw105 hP hD hS hz8 => ?_)
            · exact vx_out (fun x h9 => (hnt x h9).elim) hlocks hc9 hv9 hf9 (fun t9 ht9 hv8 => ⟨u9, ⟨FC.tr (FC.tr (FC.rf _) (FC.up fr94 (by decide) (by decide))) hx9.1, hx9.2⟩, ⟨rfl, by rw [ht9]; exact hP, hD⟩, hS.F ht9⟩) hS.2.2 (Nat.le_refl _) (Nat.le_refl _)
            refine W.shrink (hz8.trans hz9) ?_
            obtain ⟨fr105, i306105, i321105, i326105, i381105, po105⟩ := hw105
            have i306105 : 0 ≤ (u106.1 0 306).toInt ∧ (u106.1 0 306).toInt ≤ 40 := i306105
            have i321105 : 0 ≤ (u106.1 0 321).toInt ∧ (u106.1 0 321).toInt ≤ 501 := i321105
            have i326105 : 0 ≤ (u106.1 0 326).toInt ∧ (u106.1 0 326).toInt ≤ 420 := i326105
            have i381105 : 0 ≤ (u106.1 0 381).toInt ∧ (u106.1 0 381).toInt ≤ 3008 := i381105
            have po105 : (u106.1 0 306).toInt = (u95.1 0 306).toInt := po105
            refine lv_iload_n hx hb dX2_named_179 rfl (lv_at hl 6 rfl) ?_
            refine lv_if_eq (tgt := 207) hx hb dX2_named_180 (by decide) (fun h108 => ?_) (fun h108 => ?_)
            · have z109 : pa.toInt = (0 : Int) := eq_z rfl (show (0 : Int32).toInt = (0 : Int) by decide) h108
              refine lv_iload hx hb dX2_named_207 (lv_at hl 0 rfl) ?_
              refine lv_if_eq (tgt := 227) hx hb dX2_named_209 (by decide) (fun k110 => absurd k110 (by decide)) (fun _ => ?_)
              refine lv_aload_n hx hb dX2_named_212 rfl (lv_at hl 5 rfl) ?_
              refine va_get (D := (dC, dI)) (ci := 6) (fs := oF_X2 ad pr u106) (v := .ref (ad 901)) (C := RX2) (T := TX2) (N := 5) hx hb ht itX2 hown hK hP 2 rfl rfl 1 (by decide) (ht _ tw_498) (fun _ h9 => h9) rfl dX2_named_213 ?_
              refine lv_bipush (v := 8) hx hb dX2_named_216 (by decide) ?_
              refine lv_iload hx hb dX2_named_218 (lv_at hl 2 rfl) ?_
              refine lv_iconst (v := 0) hx hb dX2_named_220 (by decide) ?_
              refine cu_v (rn_Vk (n := 3) (As := [.int 8, .int (-1), .int 0]) (rest := []) hx hb hml hown ht hKK hFx hP hD hS hA (c_x_X1_add l dC dI cI cB cZ cJ cR tb H.size ad pr N L1 L2 u106 (8 : Int32) (-1 : Int32) (0 : Int32) ps (show 0 ≤ (u106.1 0 381).toInt ∧ (u106.1 0 381).toInt ≤ 3008 from (om_e78eec72e1 i381105)) (show pr ps = ad 908 from hps) (show (u106.1 0 310) = ps from (Eq.trans (fr105.2.1 310 (by decide)) (Eq.trans (fr94.2.1 310 (by decide)) es310)))) tw_499 tw_500 (by decide +kernel) rfl rfl ⟨show 0 + 1 ≤ 8 * n + 15 from om_fce2c17b78, show 8 + (5 + 11) + 0 ≤ 28 * (8 * n + 15) from om_bbd2f5c798⟩ (List.range (cW ad pr N cI cR L1 L2 u106).length) (rg_map _) (nd_range _) 1 rfl rfl rfl rfl hl.1 rfl (Nat.le_of_ble_eq_true rfl) dX2_named_221 ⟨Nat.le_of_ble_eq_true rfl, Nat.le_of_ble_eq_true rfl⟩) hP hD hS hA (fun u112 H locs hw111 hP hD hS => ?_)
              obtain ⟨fr111, i381111⟩ := hw111
              have i381111 : 0 ≤ (u112.1 0 381).toInt ∧ (u112.1 0 381).toInt ≤ 3008 := i381111
              refine W.widen (k := 0) (n := 0) (Nat.le_refl _) (Nat.le_refl _) ?_
              refine lv_goto (tgt := 234) hx hb dX2_named_224 (by decide) ?_
              refine lv_iconst (v := 0) hx hb dX2_named_234 (by decide) ?_
              have q114 : (u112.1 0 306).toInt = (u106.1 0 306).toInt := congrArg Int32.toInt ((fr111.2.1 306 (by decide)).trans (show u106.1 0 306 = (u106.1 0 306) by rfl))
              have q115 : (u112.1 0 321).toInt = (u106.1 0 321).toInt := congrArg Int32.toInt ((fr111.2.1 321 (by decide)).trans (show u106.1 0 321 = (u106.1 0 321) by rfl))
              have q116 : (u112.1 0 326).toInt = (u106.1 0 326).toInt := congrArg Int32.toInt ((fr111.2.1 326 (by decide)).trans (show u106.1 0 326 = (u106.1 0 326) by rfl))
              refine W.sz (fun hz => ?_)
              refine vx_ret ?_
              refine W.widen (k := 1) (n := 6) (Nat.le_of_ble_eq_true rfl) (Nat.le_of_ble_eq_true rfl) ?_
              exact W.zret (v := 0) hx hb hr rfl (fun t ht9 hW => ⟨⟨0, u112, rfl, ⟨(FC.tr (FC.tr (FC.tr (FC.rf _) (FC.up fr94 (by decide) (by decide))) (FC.up fr105 (by decide) (by decide))) (FC.up fr111 (by decide) (by decide))), (show 0 ≤ (u112.1 0 306).toInt ∧ (u112.1 0 306).toInt ≤ 40 from (om_99e115f631 i306105 q114)), (show 0 ≤ (u112.1 0 321).toInt ∧ (u112.1 0 321).toInt ≤ 501 from (om_ff27494c0e i321105 q115)), (show 0 ≤ (u112.1 0 326).toInt ∧ (u112.1 0 326).toInt ≤ 420 from (om_8ed0dedb19 i326105 q116)), (show 0 ≤ (u112.1 0 381).toInt ∧ (u112.1 0 381).toInt ≤ 3008 from (om_e78eec72e1 i381111)), (show (u112.1 0 306).toInt = (v.1 0 306).toInt from (om_698eb7995a q99 po105 q114)), (Or.inl rfl)⟩, ⟨by rw [ht9]; exact hP, hD⟩, by rw [ht9]; exact hz⟩, hS.F ht9⟩) hS.2.2 dX2_named_235
            · have z117 : pa.toInt ≠ (0 : Int) := ne_z rfl (show (0 : Int32).toInt = (0 : Int) by decide) h108
              refine lv_aload_n hx hb dX2_named_183 rfl (lv_at hl 5 rfl) ?_
              refine va_get (D := (dC, dI)) (ci := 6) (fs := oF_X2 ad pr u106) (v := .ref (ad 900)) (C := RX2) (T := TX2) (N := 5) hx hb ht itX2 hown hK hP 2 rfl rfl 0 (by decide) (ht _ tw_509) (fun _ h9 => h9) rfl dX2_named_184 ?_
              have q118 : (u106.1 0 304).toInt = (u95.1 0 304).toInt := congrArg Int32.toInt ((fr105.2.1 304 (by decide)).trans (show u95.1 0 304 = (u95.1 0 304) by rfl))
              refine cu_i (rn_Vk (n := 0) (As := []) (rest := []) hx hb hml hown ht hKK hFx hP hD hS hA (c_x_X9_kind l dC dI cI cB cZ cJ cR tb H.size ad pr N L1 L2 u106  (show 0 ≤ (u106.1 0 304).toInt ∧ (u106.1 0 304).toInt ≤ 1503 from (om_dd87ee851a z304 q98 q118))) tw_455 tw_532 (by decide +kernel) rfl rfl ⟨show 0 + 1 ≤ 8 * n + 15 from om_fce2c17b78, show 8 + (1 + 11) + 0 ≤ 28 * (8 * n + 15) from om_bca265e904⟩ (List.range (cW ad pr N cI cR L1 L2 u106).length) (rg_map _) (nd_range _) 0 rfl rfl rfl rfl hl.1 rfl (Nat.le_of_ble_eq_true rfl) dX2_named_187 ⟨Nat.le_of_ble_eq_true rfl, Nat.le_of_ble_eq_true rfl⟩) hP hD hS hA (fun r121 u120 H locs hw119 hP hD hS => ?_)
              obtain rfl := hw119
              refine W.widen (k := 0) (n := 0) (Nat.le_refl _) (Nat.le_refl _) ?_
              refine cu_s (nd_range _) (rn_S (n := 1) (As := [.int r121]) (rest := []) hx hb hml hown ht hKK hFx hP hD hS hA (c_x_X9_isSet l dC dI cI cB cZ cJ cR tb H.size r121 ) tw_547 tw_548 (by decide +kernel) rfl rfl ⟨show 0 + 1 ≤ 8 * n + 15 from om_fce2c17b78, show 8 + (1 + 11) + 0 ≤ 28 * (8 * n + 15) from om_bca265e904⟩ [] rfl rfl rfl hl.1 rfl (Nat.le_of_ble_eq_true rfl) dX2_named_190 ⟨Nat.le_of_ble_eq_true rfl, Nat.le_of_ble_eq_true rfl⟩) hP hD hS hA (fun r124 H locs hw122 hP hD hS => ?_)
              obtain ⟨b122, e122⟩ := hw122
              have b122 : (r124 = 0 ∨ r124 = 1) := b122
              have e122 : (0 ≤ r124.toInt ∧ r124.toInt ≤ 1) := e122
              refine W.widen (k := 0) (n := 0) (Nat.le_refl _) (Nat.le_refl _) ?_
              refine lv_if_eq (tgt := 207) hx hb dX2_named_193 (by decide) (fun h125 => ?_) (fun h125 => ?_)
              · have z126 : r124.toInt = (0 : Int) := eq_z rfl (show (0 : Int32).toInt = (0 : Int) by decide) h125
                refine lv_iload hx hb dX2_named_207 (lv_at hl 0 rfl) ?_
                refine lv_if_eq (tgt := 227) hx hb dX2_named_209 (by decide) (fun k127 => absurd k127 (by decide)) (fun _ => ?_)
                refine lv_aload_n hx hb dX2_named_212 rfl (lv_at hl 5 rfl) ?_
                refine va_get (D := (dC, dI)) (ci := 6) (fs := oF_X2 ad pr u106) (v := .ref (ad 901)) (C := RX2) (T := TX2) (N := 5) hx hb ht itX2 hown hK hP 2 rfl rfl 1 (by decide) (ht _ tw_498) (fun _ h9 => h9) rfl dX2_named_213 ?_
                refine lv_bipush (v := 8) hx hb dX2_named_216 (by decide) ?_
                refine lv_iload hx hb dX2_named_218 (lv_at hl 2 rfl) ?_
                refine lv_iconst (v := 0) hx hb dX2_named_220 (by decide) ?_
                refine cu_v (rn_Vk (n := 3) (As := [.int 8, .int (-1), .int 0]) (rest := []) hx hb hml hown ht hKK hFx hP hD hS hA (c_x_X1_add l dC dI cI cB cZ cJ cR tb H.size ad pr N L1 L2 u106 (8 : Int32) (-1 : Int32) (0 : Int32) ps (show 0 ≤ (u106.1 0 381).toInt ∧ (u106.1 0 381).toInt ≤ 3008 from (om_e78eec72e1 i381105)) (show pr ps = ad 908 from hps) (show (u106.1 0 310) = ps from (Eq.trans (fr105.2.1 310 (by decide)) (Eq.trans (fr94.2.1 310 (by decide)) es310)))) tw_499 tw_500 (by decide +kernel) rfl rfl ⟨show 0 + 1 ≤ 8 * n + 15 from om_fce2c17b78, show 8 + (5 + 11) + 0 ≤ 28 * (8 * n + 15) from om_bbd2f5c798⟩ (List.range (cW ad pr N cI cR L1 L2 u106).length) (rg_map _) (nd_range _) 1 rfl rfl rfl rfl hl.1 rfl (Nat.le_of_ble_eq_true rfl) dX2_named_221 ⟨Nat.le_of_ble_eq_true rfl, Nat.le_of_ble_eq_true rfl⟩) hP hD hS hA (fun u129 H locs hw128 hP hD hS => ?_)
                obtain ⟨fr128, i381128⟩ := hw128
                have i381128 : 0 ≤ (u129.1 0 381).toInt ∧ (u129.1 0 381).toInt ≤ 3008 := i381128
                refine W.widen (k := 0) (n := 0) (Nat.le_refl _) (Nat.le_refl _) ?_
                refine lv_goto (tgt := 234) hx hb dX2_named_224 (by decide) ?_
                refine lv_iconst (v := 0) hx hb dX2_named_234 (by decide) ?_
                have q131 : (u129.1 0 306).toInt = (u106.1 0 306).toInt := congrArg Int32.toInt ((fr128.2.1 306 (by decide)).trans (show u106.1 0 306 = (u106.1 0 306) by rfl))
                have q132 : (u129.1 0 321).toInt = (u106.1 0 321).toInt := congrArg Int32.toInt ((fr128.2.1 321 (by decide)).trans (show u106.1 0 321 = (u106.1 0 321) by rfl))
                have q133 : (u129.1 0 326).toInt = (u106.1 0 326).toInt := congrArg Int32.toInt ((fr128.2.1 326 (by decide)).trans (show u106.1 0 326 = (u106.1 0 326) by rfl))
                refine W.sz (fun hz => ?_)
                refine vx_ret ?_
                refine W.widen (k := 1) (n := 6) (Nat.le_of_ble_eq_true rfl) (Nat.le_of_ble_eq_true rfl) ?_
                exact W.zret (v := 0) hx hb hr rfl (fun t ht9 hW => ⟨⟨0, u129, rfl, ⟨(FC.tr (FC.tr (FC.tr (FC.rf _) (FC.up fr94 (by decide) (by decide))) (FC.up fr105 (by decide) (by decide))) (FC.up fr128 (by decide) (by decide))), (show 0 ≤ (u129.1 0 306).toInt ∧ (u129.1 0 306).toInt ≤ 40 from (om_99e115f631 i306105 q131)), (show 0 ≤ (u129.1 0 321).toInt ∧ (u129.1 0 321).toInt ≤ 501 from (om_ff27494c0e i321105 q132)), (show 0 ≤ (u129.1 0 326).toInt ∧ (u129.1 0 326).toInt ≤ 420 from (om_8ed0dedb19 i326105 q133)), (show 0 ≤ (u129.1 0 381).toInt ∧ (u129.1 0 381).toInt ≤ 3008 from (om_e78eec72e1 i381128)), (show (u129.1 0 306).toInt = (v.1 0 306).toInt from (om_698eb7995a q99 po105 q131)), (Or.inl rfl)⟩, ⟨by rw [ht9]; exact hP, hD⟩, by rw [ht9]; exact hz⟩, hS.F ht9⟩) hS.2.2 dX2_named_235
              · have z134 : r124.toInt ≠ (0 : Int) := ne_z rfl (show (0 : Int32).toInt = (0 : Int) by decide) h125
                refine lv_aload_n hx hb dX2_named_196 rfl (lv_at hl 5 rfl) ?_
                refine lv_iload_n hx hb dX2_named_197 rfl (lv_at hl 3 rfl) ?_
                refine lv_iload hx hb dX2_named_198 (lv_at hl 2 rfl) ?_
                refine lv_iload hx hb dX2_named_200 (lv_at hl 0 rfl) ?_
                have q135 : (u106.1 0 312).toInt = (u95.1 0 312).toInt := congrArg Int32.toInt ((fr105.2.1 312 (by decide)).trans (show u95.1 0 312 = (u95.1 0 312) by rfl))
                have q136 : (u106.1 0 373).toInt = (u95.1 0 373).toInt := congrArg Int32.toInt ((fr105.2.1 373 (by decide)).trans (show u95.1 0 373 = (u95.1 0 373) by rfl))
                refine W.sz (fun hz9 => ?_)
                refine czx_v (rx_Vk (n := 3) (As := [.int r9, .int (-1), .int 1]) (rest := []) hx hb hml hown ht hKK hFx hP hD hS hA (c_x_X2_change l n ihE dC dI cI cB cZ cJ cR tb H.size ad pr N L1 L2 u106 r9 (-1 : Int32) (1 : Int32) ps (show 0 ≤ (u106.1 0 304).toInt ∧ (u106.1 0 304).toInt ≤ 1503 from (om_dd87ee851a z304 q98 q118)) (show 0 ≤ (u106.1 0 306).toInt ∧ (u106.1 0 306).toInt ≤ 40 from (om_7eaf33e007 i306105)) (show 0 ≤ (u106.1 0 312).toInt ∧ (u106.1 0 312).toInt ≤ 500 from (om_8a5975ec21 z312 q100 q135)) (show 0 ≤ (u106.1 0 321).toInt ∧ (u106.1 0 321).toInt ≤ 501 from (om_e1d35f5faf i321105)) (show 0 ≤ (u106.1 0 326).toInt ∧ (u106.1 0 326).toInt ≤ 420 from (om_839d7ed7dd i326105)) (show 0 ≤ (u106.1 0 373).toInt ∧ (u106.1 0 373).toInt ≤ 4000 from (om_03cd8767ac z373 q103 q136)) (show 0 ≤ (u106.1 0 381).toInt ∧ (u106.1 0 381).toInt ≤ 3008 from (om_e78eec72e1 i381105)) (show L1.length = 40 from hL1) (show L2.length = 60 from hL2) (show RP u106 from ((show FC [305, 306, 307, 314, 315, 317, 321, 326, 381] [0, 316, 318, 319, 320, 324, 325, 378, 379, 380] v u106 from (FC.tr (FC.tr (FC.rf _) (FC.up fr94 (by decide) (by decide))) (FC.up fr105 (by decide) (by decide)))).1 rp)) (show pr ps = ad 908 from hps) (show (u106.1 0 300) = ps from (Eq.trans (fr105.2.1 300 (by decide)) (Eq.trans (fr94.2.1 300 (by decide)) es300))) (show (u106.1 0 310) = ps from (Eq.trans (fr105.2.1 310 (by decide)) (Eq.trans (fr94.2.1 310 (by decide)) es310))) (show l.stackTraces = false from hst) (show 40 ≤ (u106.1 0 306).toInt + (n : Int) from (om_ec198adb23 zn q99 po105))) tw_549 tw_550 (by decide +kernel) rfl rfl ⟨show (8 * n + 14) + 1 ≤ 8 * n + 15 from om_c0c6541b93, show 8 + (7 + 11) + 28 * (8 * n + 14) ≤ 28 * (8 * n + 15) from om_fb93e872bb⟩ (List.range (cW ad pr N cI cR L1 L2 u106).length) (rg_map _) (nd_range _) 2 rfl rfl rfl rfl hl.1 rfl (Nat.le_of_ble_eq_true rfl) dX2_named_202 ⟨Nat.le_of_ble_eq_true rfl, Nat.le_of_ble_eq_true rfl⟩) hP hD hS hA (fun u9 ce9 q9 H locs hx9 hP hD hS hc9 hv9 hf9 => ?_) (fun u138 H locs hw137 hP hD hS hz8 => ?_)
                · exact vx_out (fun x h9 => (hnt x h9).elim) hlocks hc9 hv9 hf9 (fun t9 ht9 hv8 => ⟨u9, ⟨FC.tr (FC.tr (FC.tr (FC.rf _) (FC.up fr94 (by decide) (by decide))) (FC.up fr105 (by decide) (by decide))) hx9.1, hx9.2⟩, ⟨rfl, by rw [ht9]; exact hP, hD⟩, hS.F ht9⟩) hS.2.2 (Nat.le_refl _) (Nat.le_refl _)
                refine W.shrink (hz8.trans hz9) ?_
                obtain ⟨fr137, i306137, i321137, i326137, i381137, po137⟩ := hw137
                have i306137 : 0 ≤ (u138.1 0 306).toInt ∧ (u138.1 0 306).toInt ≤ 40 := i306137
                have i321137 : 0 ≤ (u138.1 0 321).toInt ∧ (u138.1 0 321).toInt ≤ 501 := i321137
                have i326137 : 0 ≤ (u138.1 0 326).toInt ∧ (u138.1 0 326).toInt ≤ 420 := i326137
                have i381137 : 0 ≤ (u138.1 0 381).toInt ∧ (u138.1 0 381).toInt ≤ 3008 := i381137
                have po137 : (u138.1 0 306).toInt = (u106.1 0 306).toInt := po137
                refine lv_iconst (v := 1) hx hb dX2_named_205 (by decide) ?_
                refine W.sz (fun hz => ?_)
                refine vx_ret ?_
                refine W.widen (k := 1) (n := 6) (Nat.le_of_ble_eq_true rfl) (Nat.le_of_ble_eq_true rfl) ?_
                exact W.zret (v := 1) hx hb hr rfl (fun t ht9 hW => ⟨⟨1, u138, rfl, ⟨(FC.tr (FC.tr (FC.tr (FC.rf _) (FC.up fr94 (by decide) (by decide))) (FC.up fr105 (by decide) (by decide))) (FC.up fr137 (by decide) (by decide))), (show 0 ≤ (u138.1 0 306).toInt ∧ (u138.1 0 306).toInt ≤ 40 from (om_7eaf33e007 i306137)), (show 0 ≤ (u138.1 0 321).toInt ∧ (u138.1 0 321).toInt ≤ 501 from (om_e1d35f5faf i321137)), (show 0 ≤ (u138.1 0 326).toInt ∧ (u138.1 0 326).toInt ≤ 420 from (om_839d7ed7dd i326137)), (show 0 ≤ (u138.1 0 381).toInt ∧ (u138.1 0 381).toInt ≤ 3008 from (om_e78eec72e1 i381137)), (show (u138.1 0 306).toInt = (v.1 0 306).toInt from (om_698eb7995a q99 po105 po137)), (Or.inr rfl)⟩, ⟨by rw [ht9]; exact hP, hD⟩, by rw [ht9]; exact hz⟩, hS.F ht9⟩) hS.2.2 dX2_named_206
      · have z140 : r3.toInt = (30 : Int) := eq_z rfl (show (30 : Int32).toInt = (30 : Int) by decide) h14
        refine lv_iload hx hb dX2_named_75 (lv_at hl 0 rfl) ?_
        refine lv_if_eq (tgt := 95) hx hb dX2_named_77 (by decide) (fun k141 => absurd k141 (by decide)) (fun _ => ?_)
        refine lv_aload_n hx hb dX2_named_80 rfl (lv_at hl 4 rfl) ?_
        refine va_get (D := (dC, dI)) (ci := 6) (fs := oF_X2 ad pr v) (v := .ref (ad 900)) (C := RX2) (T := TX2) (N := 5) hx hb ht itX2 hown hK hP 2 rfl rfl 0 (by decide) (ht _ tw_509) (fun _ h9 => h9) rfl dX2_named_81 ?_
        refine lv_iconst (v := 3) hx hb dX2_named_84 (by decide) ?_
        refine lv_aload_n hx hb dX2_named_85 rfl (lv_at hl 4 rfl) ?_
        refine va_get (D := (dC, dI)) (ci := 6) (fs := oF_X2 ad pr v) (v := .ref (ad 900)) (C := RX2) (T := TX2) (N := 5) hx hb ht itX2 hown hK hP 2 rfl rfl 0 (by decide) (ht _ tw_509) (fun _ h9 => h9) rfl dX2_named_86 ?_
        refine cu_i (rn_Vk (n := 0) (As := []) (rest := [.int 3, .ref (ad 900)]) hx hb hml hown ht hKK hFx hP hD hS hA (c_x_X9_place l dC dI cI cB cZ cJ cR tb H.size ad pr N L1 L2 v ps (show 0 ≤ (v.1 0 304).toInt ∧ (v.1 0 304).toInt ≤ 1503 from (om_c99648273b z304)) (show 0 ≤ (v.1 0 373).toInt ∧ (v.1 0 373).toInt ≤ 4000 from (om_c74a68af25 z373)) (show pr ps = ad 908 from hps) (show (v.1 0 300) = ps from es300)) tw_457 tw_510 (by decide +kernel) rfl rfl ⟨show 0 + 1 ≤ 8 * n + 15 from om_fce2c17b78, show 8 + (1 + 11) + 0 ≤ 28 * (8 * n + 15) from om_bca265e904⟩ (List.range (cW ad pr N cI cR L1 L2 v).length) (rg_map _) (nd_range _) 0 rfl rfl rfl rfl hl.1 rfl (Nat.le_of_ble_eq_true rfl) dX2_named_89 ⟨Nat.le_of_ble_eq_true rfl, Nat.le_of_ble_eq_true rfl⟩) hP hD hS hA (fun r144 u143 H locs hw142 hP hD hS => ?_)
        obtain rfl := hw142
        refine W.widen (k := 0) (n := 0) (Nat.le_refl _) (Nat.le_refl _) ?_
        refine W.sz (fun hz9 => ?_)
        refine czx_v (rx_Vk (n := 2) (As := [.int 3, .int r144]) (rest := []) hx hb hml hown ht hKK hFx hP hD hS hA (c_x_X9_refuse l dC dI cI cB cZ cJ cR tb H.size ad pr N L1 L2 v (3 : Int32) r144 (show l.stackTraces = false from hst) (show (3 : Int) ≠ 0 from om_59881768ad)) tw_459 tw_511 (by decide +kernel) rfl rfl ⟨show 6 + 1 ≤ 8 * n + 15 from om_838586afae, show 8 + (3 + 11) + 82 ≤ 28 * (8 * n + 15) from om_41a9d63453⟩ (List.range (cW ad pr N cI cR L1 L2 v).length) (rg_map _) (nd_range _) 0 rfl rfl rfl rfl hl.1 rfl (Nat.le_of_ble_eq_true rfl) dX2_named_92 ⟨Nat.le_of_ble_eq_true rfl, Nat.le_of_ble_eq_true rfl⟩) hP hD hS hA (fun u9 ce9 q9 H locs hx9 hP hD hS hc9 hv9 hf9 => ?_) (fun u146 H locs hw145 hP hD hS hz8 => ?_)
        · exact vx_out (fun x h9 => (hnt x h9).elim) hlocks hc9 hv9 hf9 (fun t9 ht9 hv8 => ⟨u9, ⟨FC.tr (FC.rf _) hx9.1, hx9.2⟩, ⟨rfl, by rw [ht9]; exact hP, hD⟩, hS.F ht9⟩) hS.2.2 (Nat.le_refl _) (Nat.le_refl _)
        refine W.shrink (hz8.trans hz9) ?_
        obtain ⟨fr145, no145⟩ := hw145
        exact no145.elim
    · have z148 : r9.toInt = (-1 : Int) := eq_z rfl (show ((-1) : Int32).toInt = (-1 : Int) by decide) h12
      exact False.elim (om_7af79ecf53 c7 z11 z148)
  · have z149 : r9.toInt = (-1 : Int) := eq_z rfl (show ((-1) : Int32).toInt = (-1 : Int) by decide) h10
    refine lv_aload_n hx hb dX2_named_28 rfl (lv_at hl 2 rfl) ?_
    refine va_get (D := (dC, dI)) (ci := 6) (fs := oF_X2 ad pr v) (v := .ref (ad 901)) (C := RX2) (T := TX2) (N := 5) hx hb ht itX2 hown hK hP 2 rfl rfl 1 (by decide) (ht _ tw_498) (fun _ h9 => h9) rfl dX2_named_29 ?_
    refine va_getN (D := (dC, dI)) (ci := 5) (fs := oF_X1 ad pr v) (v := .ref (pr (v.1 0 310))) (C := RX1) (T := TX1) (N := 12) hx hb ht itX1 hown hK hP 1 rfl rfl 0 (by decide) (hKK.fl2 3 rfl) (fun _ h9 => h9) rfl dX2_named_32 ?_
    refine lv_aload_n hx hb dX2_named_35 rfl (lv_at hl 2 rfl) ?_
    refine va_get (D := (dC, dI)) (ci := 6) (fs := oF_X2 ad pr v) (v := .ref (ad 900)) (C := RX2) (T := TX2) (N := 5) hx hb ht itX2 hown hK hP 2 rfl rfl 0 (by decide) (ht _ tw_509) (fun _ h9 => h9) rfl dX2_named_36 ?_
    refine cu_i (rn_Vk (n := 0) (As := []) (rest := [.ref (pr (v.1 0 310))]) hx hb hml hown ht hKK hFx hP hD hS hA (c_x_X9_value l dC dI cI cB cZ cJ cR tb H.size ad pr N L1 L2 v  (show 0 ≤ (v.1 0 304).toInt ∧ (v.1 0 304).toInt ≤ 1503 from (om_c99648273b z304))) tw_535 tw_536 (by decide +kernel) rfl rfl ⟨show 0 + 1 ≤ 8 * n + 15 from om_fce2c17b78, show 8 + (1 + 11) + 0 ≤ 28 * (8 * n + 15) from om_bca265e904⟩ (List.range (cW ad pr N cI cR L1 L2 v).length) (rg_map _) (nd_range _) 0 rfl rfl rfl rfl hl.1 rfl (Nat.le_of_ble_eq_true rfl) dX2_named_39 ⟨Nat.le_of_ble_eq_true rfl, Nat.le_of_ble_eq_true rfl⟩) hP hD hS hA (fun r152 u151 H locs hw150 hP hD hS => ?_)
    obtain rfl := hw150
    refine W.widen (k := 0) (n := 0) (Nat.le_refl _) (Nat.le_refl _) ?_
    refine W.eq (g2 := F0 m 42 ls [.int r152, .ref (ad 908)]) (by rw [show pr (v.1 0 310) = (ad 908) from (by rw [show (v.1 0 310) = ps from es310]; exact hps)]) ?_
    refine cu_i (rn_Vk (n := 1) (As := [.int r152]) (rest := []) hx hb hml hown ht hKK hFx hP hD hS hA (c_x_X7_globalNamed l dC dI cI cB cZ cJ cR tb H.size ad pr N L1 L2 v r152 (show L1.length = 40 from hL1) (show L2.length = 60 from hL2) (show RP v from rp)) tw_553 tw_554 (by decide +kernel) rfl rfl ⟨show 1 + 1 ≤ 8 * n + 15 from om_60a3ad0423, show 8 + (3 + 11) + 22 ≤ 28 * (8 * n + 15) from om_c23f94bcd4⟩ (List.range (cW ad pr N cI cR L1 L2 v).length) (rg_map _) (nd_range _) 8 rfl rfl rfl rfl hl.1 rfl (Nat.le_of_ble_eq_true rfl) dX2_named_42 ⟨Nat.le_of_ble_eq_true rfl, Nat.le_of_ble_eq_true rfl⟩) hP hD hS hA (fun r155 u154 H locs hw153 hP hD hS => ?_)
    obtain rfl := hw153
    refine W.widen (k := 0) (n := 0) (Nat.le_refl _) (Nat.le_refl _) ?_
    refine lv_goto (tgt := 49) hx hb dX2_named_45 (by decide) ?_
    refine lv_istore (lv' := [(4, .int r155), (3, .int r9), (2, .int r3), (0, .ref (ad 902)), (1, .int pa)]) hx hb dX2_named_49 hl (by decide) rfl (fun ls hl => ?_)
    refine lv_iload_n hx hb dX2_named_51 rfl (lv_at hl 1 rfl) ?_
    refine lv_iconst (v := -1) hx hb dX2_named_52 (by decide) ?_
    refine lv_icmp_ne (tgt := 62) hx hb dX2_named_53 (by decide) (fun h156 => ?_) (fun h156 => ?_)
    · have z157 : r9.toInt ≠ (-1 : Int) := ne_z rfl (show ((-1) : Int32).toInt = (-1 : Int) by decide) h156
      exact False.elim (om_fb4a63dff4 c7 z149 z157)
    · have z158 : r9.toInt = (-1 : Int) := eq_z rfl (show ((-1) : Int32).toInt = (-1 : Int) by decide) h156
      refine lv_iload hx hb dX2_named_56 (lv_at hl 0 rfl) ?_
      refine lv_iconst (v := -1) hx hb dX2_named_58 (by decide) ?_
      refine lv_icmp_eq (tgt := 66) hx hb dX2_named_59 (by decide) (fun h159 => ?_) (fun h159 => ?_)
      · have z160 : r155.toInt = (-1 : Int) := eq_z rfl (show ((-1) : Int32).toInt = (-1 : Int) by decide) h159
        refine lv_iconst (v := 0) hx hb dX2_named_66 (by decide) ?_
        refine lv_istore (lv' := [(5, .int 0), (4, .int r155), (3, .int r9), (2, .int r3), (0, .ref (ad 902)), (1, .int pa)]) hx hb dX2_named_67 hl (by decide) rfl (fun ls hl => ?_)
        refine lv_iload_n hx hb dX2_named_69 rfl (lv_at hl 3 rfl) ?_
        refine lv_bipush (v := 30) hx hb dX2_named_70 (by decide) ?_
        refine lv_icmp_ne (tgt := 101) hx hb dX2_named_72 (by decide) (fun h161 => ?_) (fun h161 => ?_)
        · have z162 : r3.toInt ≠ (30 : Int) := ne_z rfl (show (30 : Int32).toInt = (30 : Int) by decide) h161
          refine lv_aload_n hx hb dX2_named_101 rfl (lv_at hl 4 rfl) ?_
          refine va_get (D := (dC, dI)) (ci := 6) (fs := oF_X2 ad pr v) (v := .ref (ad 901)) (C := RX2) (T := TX2) (N := 5) hx hb ht itX2 hown hK hP 2 rfl rfl 1 (by decide) (ht _ tw_498) (fun _ h9 => h9) rfl dX2_named_102 ?_
          refine va_getN (D := (dC, dI)) (ci := 5) (fs := oF_X1 ad pr v) (v := .ref (pr (v.1 0 310))) (C := RX1) (T := TX1) (N := 12) hx hb ht itX1 hown hK hP 1 rfl rfl 0 (by decide) (hKK.fl2 3 rfl) (fun _ h9 => h9) rfl dX2_named_105 ?_
          refine lv_iload hx hb dX2_named_108 (lv_at hl 1 rfl) ?_
          refine lv_iconst (v := 2) hx hb dX2_named_110 (by decide) ?_
          refine W.eq (g2 := F0 m 111 ls [.int 2, .int r155, .ref (ad 908)]) (by rw [show pr (v.1 0 310) = (ad 908) from (by rw [show (v.1 0 310) = ps from es310]; exact hps)]) ?_
          refine cu_i (rn_Vk (n := 2) (As := [.int r155, .int 2]) (rest := []) hx hb hml hown ht hKK hFx hP hD hS hA (c_x_X7_globalFact l dC dI cI cB cZ cJ cR tb H.size ad pr N L1 L2 v r155 (2 : Int32) (show L1.length = 40 from hL1) (show L2.length = 60 from hL2) (show RP v from rp)) tw_402 tw_546 (by decide +kernel) rfl rfl ⟨show 0 + 1 ≤ 8 * n + 15 from om_fce2c17b78, show 8 + (3 + 11) + 0 ≤ 28 * (8 * n + 15) from om_0eaa3b1b86⟩ (List.range (cW ad pr N cI cR L1 L2 v).length) (rg_map _) (nd_range _) 8 rfl rfl rfl rfl hl.1 rfl (Nat.le_of_ble_eq_true rfl) dX2_named_111 ⟨Nat.le_of_ble_eq_true rfl, Nat.le_of_ble_eq_true rfl⟩) hP hD hS hA (fun r165 u164 H locs hw163 hP hD hS => ?_)
          obtain ⟨rfl, c163, d163⟩ := hw163
          have c163 : ((2 : Int) ≠ 0 ∨ r165.toInt ≤ 1000) := c163
          refine W.widen (k := 0) (n := 0) (Nat.le_refl _) (Nat.le_refl _) ?_
          refine lv_iconst (v := 1) hx hb dX2_named_114 (by decide) ?_
          refine lv_icmp_ne (tgt := 122) hx hb dX2_named_115 (by decide) (fun h166 => ?_) (fun h166 => ?_)
          · have z167 : r165.toInt ≠ (1 : Int) := ne_z rfl (show (1 : Int32).toInt = (1 : Int) by decide) h166
            refine lv_iconst (v := 0) hx hb dX2_named_122 (by decide) ?_
            refine lv_istore (lv' := [(6, .int 0), (5, .int 0), (4, .int r155), (3, .int r9), (2, .int r3), (0, .ref (ad 902)), (1, .int pa)]) hx hb dX2_named_123 hl (by decide) rfl (fun ls hl => ?_)
            refine lv_iload hx hb dX2_named_125 (lv_at hl 1 rfl) ?_
            refine lv_if_eq (tgt := 146) hx hb dX2_named_127 (by decide) (fun _ => ?_) (fun k168 => absurd k168 (by decide))
            refine lv_aload_n hx hb dX2_named_146 rfl (lv_at hl 5 rfl) ?_
            refine va_get (D := (dC, dI)) (ci := 6) (fs := oF_X2 ad pr v) (v := .ref (ad 900)) (C := RX2) (T := TX2) (N := 5) hx hb ht itX2 hown hK hP 2 rfl rfl 0 (by decide) (ht _ tw_509) (fun _ h9 => h9) rfl dX2_named_147 ?_
            refine lv_iconst (v := 3) hx hb dX2_named_150 (by decide) ?_
            refine lv_aload_n hx hb dX2_named_151 rfl (lv_at hl 5 rfl) ?_
            refine va_get (D := (dC, dI)) (ci := 6) (fs := oF_X2 ad pr v) (v := .ref (ad 900)) (C := RX2) (T := TX2) (N := 5) hx hb ht itX2 hown hK hP 2 rfl rfl 0 (by decide) (ht _ tw_509) (fun _ h9 => h9) rfl dX2_named_152 ?_
            refine cu_i (rn_Vk (n := 0) (As := []) (rest := [.int 3, .ref (ad 900)]) hx hb hml hown ht hKK hFx hP hD hS hA (c_x_X9_place l dC dI cI cB cZ cJ cR tb H.size ad pr N L1 L2 v ps (show 0 ≤ (v.1 0 304).toInt ∧ (v.1 0 304).toInt ≤ 1503 from (om_c99648273b z304)) (show 0 ≤ (v.1 0 373).toInt ∧ (v.1 0 373).toInt ≤ 4000 from (om_c74a68af25 z373)) (show pr ps = ad 908 from hps) (show (v.1 0 300) = ps from es300)) tw_457 tw_510 (by decide +kernel) rfl rfl ⟨show 0 + 1 ≤ 8 * n + 15 from om_fce2c17b78, show 8 + (1 + 11) + 0 ≤ 28 * (8 * n + 15) from om_bca265e904⟩ (List.range (cW ad pr N cI cR L1 L2 v).length) (rg_map _) (nd_range _) 0 rfl rfl rfl rfl hl.1 rfl (Nat.le_of_ble_eq_true rfl) dX2_named_155 ⟨Nat.le_of_ble_eq_true rfl, Nat.le_of_ble_eq_true rfl⟩) hP hD hS hA (fun r171 u170 H locs hw169 hP hD hS => ?_)
            obtain rfl := hw169
            refine W.widen (k := 0) (n := 0) (Nat.le_refl _) (Nat.le_refl _) ?_
            refine W.sz (fun hz9 => ?_)
            refine czx_v (rx_Vk (n := 2) (As := [.int 3, .int r171]) (rest := []) hx hb hml hown ht hKK hFx hP hD hS hA (c_x_X9_refuse l dC dI cI cB cZ cJ cR tb H.size ad pr N L1 L2 v (3 : Int32) r171 (show l.stackTraces = false from hst) (show (3 : Int) ≠ 0 from om_59881768ad)) tw_459 tw_511 (by decide +kernel) rfl rfl ⟨show 6 + 1 ≤ 8 * n + 15 from om_838586afae, show 8 + (3 + 11) + 82 ≤ 28 * (8 * n + 15) from om_41a9d63453⟩ (List.range (cW ad pr N cI cR L1 L2 v).length) (rg_map _) (nd_range _) 0 rfl rfl rfl rfl hl.1 rfl (Nat.le_of_ble_eq_true rfl) dX2_named_158 ⟨Nat.le_of_ble_eq_true rfl, Nat.le_of_ble_eq_true rfl⟩) hP hD hS hA (fun u9 ce9 q9 H locs hx9 hP hD hS hc9 hv9 hf9 => ?_) (fun u173 H locs hw172 hP hD hS hz8 => ?_)
            · exact vx_out (fun x h9 => (hnt x h9).elim) hlocks hc9 hv9 hf9 (fun t9 ht9 hv8 => ⟨u9, ⟨FC.tr (FC.rf _) hx9.1, hx9.2⟩, ⟨rfl, by rw [ht9]; exact hP, hD⟩, hS.F ht9⟩) hS.2.2 (Nat.le_refl _) (Nat.le_refl _)
            refine W.shrink (hz8.trans hz9) ?_
            obtain ⟨fr172, no172⟩ := hw172
            exact no172.elim
          · have z175 : r165.toInt = (1 : Int) := eq_z rfl (show (1 : Int32).toInt = (1 : Int) by decide) h166
            refine lv_iconst (v := 1) hx hb dX2_named_118 (by decide) ?_
            refine lv_goto (tgt := 123) hx hb dX2_named_119 (by decide) ?_
            refine lv_istore (lv' := [(6, .int 1), (5, .int 0), (4, .int r155), (3, .int r9), (2, .int r3), (0, .ref (ad 902)), (1, .int pa)]) hx hb dX2_named_123 hl (by decide) rfl (fun ls hl => ?_)
            refine lv_iload hx hb dX2_named_125 (lv_at hl 1 rfl) ?_
            refine lv_if_eq (tgt := 146) hx hb dX2_named_127 (by decide) (fun _ => ?_) (fun k176 => absurd k176 (by decide))
            refine lv_aload_n hx hb dX2_named_146 rfl (lv_at hl 5 rfl) ?_
            refine va_get (D := (dC, dI)) (ci := 6) (fs := oF_X2 ad pr v) (v := .ref (ad 900)) (C := RX2) (T := TX2) (N := 5) hx hb ht itX2 hown hK hP 2 rfl rfl 0 (by decide) (ht _ tw_509) (fun _ h9 => h9) rfl dX2_named_147 ?_
            refine lv_iconst (v := 3) hx hb dX2_named_150 (by decide) ?_
            refine lv_aload_n hx hb dX2_named_151 rfl (lv_at hl 5 rfl) ?_
            refine va_get (D := (dC, dI)) (ci := 6) (fs := oF_X2 ad pr v) (v := .ref (ad 900)) (C := RX2) (T := TX2) (N := 5) hx hb ht itX2 hown hK hP 2 rfl rfl 0 (by decide) (ht _ tw_509) (fun _ h9 => h9) rfl dX2_named_152 ?_
            refine cu_i (rn_Vk (n := 0) (As := []) (rest := [.int 3, .ref (ad 900)]) hx hb hml hown ht hKK hFx hP hD hS hA (c_x_X9_place l dC dI cI cB cZ cJ cR tb H.size ad pr N L1 L2 v ps (show 0 ≤ (v.1 0 304).toInt ∧ (v.1 0 304).toInt ≤ 1503 from (om_c99648273b z304)) (show 0 ≤ (v.1 0 373).toInt ∧ (v.1 0 373).toInt ≤ 4000 from (om_c74a68af25 z373)) (show pr ps = ad 908 from hps) (show (v.1 0 300) = ps from es300)) tw_457 tw_510 (by decide +kernel) rfl rfl ⟨show 0 + 1 ≤ 8 * n + 15 from om_fce2c17b78, show 8 + (1 + 11) + 0 ≤ 28 * (8 * n + 15) from om_bca265e904⟩ (List.range (cW ad pr N cI cR L1 L2 v).length) (rg_map _) (nd_range _) 0 rfl rfl rfl rfl hl.1 rfl (Nat.le_of_ble_eq_true rfl) dX2_named_155 ⟨Nat.le_of_ble_eq_true rfl, Nat.le_of_ble_eq_true rfl⟩) hP hD hS hA (fun r179 u178 H locs hw177 hP hD hS => ?_)
            obtain rfl := hw177
            refine W.widen (k := 0) (n := 0) (Nat.le_refl _) (Nat.le_refl _) ?_
            refine W.sz (fun hz9 => ?_)
            refine czx_v (rx_Vk (n := 2) (As := [.int 3, .int r179]) (rest := []) hx hb hml hown ht hKK hFx hP hD hS hA (c_x_X9_refuse l dC dI cI cB cZ cJ cR tb H.size ad pr N L1 L2 v (3 : Int32) r179 (show l.stackTraces = false from hst) (show (3 : Int) ≠ 0 from om_59881768ad)) tw_459 tw_511 (by decide +kernel) rfl rfl ⟨show 6 + 1 ≤ 8 * n + 15 from om_838586afae, show 8 + (3 + 11) + 82 ≤ 28 * (8 * n + 15) from om_41a9d63453⟩ (List.range (cW ad pr N cI cR L1 L2 v).length) (rg_map _) (nd_range _) 0 rfl rfl rfl rfl hl.1 rfl (Nat.le_of_ble_eq_true rfl) dX2_named_158 ⟨Nat.le_of_ble_eq_true rfl, Nat.le_of_ble_eq_true rfl⟩) hP hD hS hA (fun u9 ce9 q9 H locs hx9 hP hD hS hc9 hv9 hf9 => ?_) (fun u181 H locs hw180 hP hD hS hz8 => ?_)
            · exact vx_out (fun x h9 => (hnt x h9).elim) hlocks hc9 hv9 hf9 (fun t9 ht9 hv8 => ⟨u9, ⟨FC.tr (FC.rf _) hx9.1, hx9.2⟩, ⟨rfl, by rw [ht9]; exact hP, hD⟩, hS.F ht9⟩) hS.2.2 (Nat.le_refl _) (Nat.le_refl _)
            refine W.shrink (hz8.trans hz9) ?_
            obtain ⟨fr180, no180⟩ := hw180
            exact no180.elim
        · have z183 : r3.toInt = (30 : Int) := eq_z rfl (show (30 : Int32).toInt = (30 : Int) by decide) h161
          refine lv_iload hx hb dX2_named_75 (lv_at hl 0 rfl) ?_
          refine lv_if_eq (tgt := 95) hx hb dX2_named_77 (by decide) (fun _ => ?_) (fun k184 => absurd k184 (by decide))
          refine lv_aload_n hx hb dX2_named_95 rfl (lv_at hl 4 rfl) ?_
          refine W.sz (fun hz9 => ?_)
          refine czx_v (rx_Vk (n := 0) (As := []) (rest := []) hx hb hml hown ht hKK hFx hP hD hS hA (c_x_X2_callFunction l n ihE dC dI cI cB cZ cJ cR tb H.size ad pr N L1 L2 v ps (show 0 ≤ (v.1 0 304).toInt ∧ (v.1 0 304).toInt ≤ 1503 from (om_c99648273b z304)) (show 0 ≤ (v.1 0 306).toInt ∧ (v.1 0 306).toInt ≤ 40 from (om_7eaf33e007 z306)) (show 0 ≤ (v.1 0 312).toInt ∧ (v.1 0 312).toInt ≤ 500 from (om_9861e69da5 z312)) (show 0 ≤ (v.1 0 321).toInt ∧ (v.1 0 321).toInt ≤ 501 from (om_e1d35f5faf z321)) (show 0 ≤ (v.1 0 326).toInt ∧ (v.1 0 326).toInt ≤ 420 from (om_839d7ed7dd z326)) (show 0 ≤ (v.1 0 373).toInt ∧ (v.1 0 373).toInt ≤ 4000 from (om_c74a68af25 z373)) (show 0 ≤ (v.1 0 381).toInt ∧ (v.1 0 381).toInt ≤ 3008 from (om_e78eec72e1 z381)) (show L1.length = 40 from hL1) (show L2.length = 60 from hL2) (show RP v from rp) (show pr ps = ad 908 from hps) (show (v.1 0 300) = ps from es300) (show (v.1 0 310) = ps from es310) (show l.stackTraces = false from hst) (show 40 ≤ (v.1 0 306).toInt + (n : Int) from (om_a9150ae9b6 zn))) tw_555 tw_556 (by decide +kernel) rfl rfl ⟨show (8 * n + 14) + 1 ≤ 8 * n + 15 from om_c0c6541b93, show 8 + (5 + 11) + 28 * (8 * n + 14) ≤ 28 * (8 * n + 15) from om_4fd16bceab⟩ (List.range (cW ad pr N cI cR L1 L2 v).length) (rg_map _) (nd_range _) 2 rfl rfl rfl rfl hl.1 rfl (Nat.le_of_ble_eq_true rfl) dX2_named_96 ⟨Nat.le_of_ble_eq_true rfl, Nat.le_of_ble_eq_true rfl⟩) hP hD hS hA (fun u9 ce9 q9 H locs hx9 hP hD hS hc9 hv9 hf9 => ?_) (fun u186 H locs hw185 hP hD hS hz8 => ?_)
          · exact vx_out (fun x h9 => (hnt x h9).elim) hlocks hc9 hv9 hf9 (fun t9 ht9 hv8 => ⟨u9, ⟨FC.tr (FC.rf _) hx9.1, hx9.2⟩, ⟨rfl, by rw [ht9]; exact hP, hD⟩, hS.F ht9⟩) hS.2.2 (Nat.le_refl _) (Nat.le_refl _)
          refine W.shrink (hz8.trans hz9) ?_
          obtain ⟨fr185, i306185, i321185, i326185, i381185, po185⟩ := hw185
          refine lv_iconst (v := 0) hx hb dX2_named_99 (by decide) ?_
          refine W.sz (fun hz => ?_)
          refine vx_ret ?_
          refine W.widen (k := 1) (n := 6) (Nat.le_of_ble_eq_true rfl) (Nat.le_of_ble_eq_true rfl) ?_
          exact W.zret (v := 0) hx hb hr rfl (fun t ht9 hW => ⟨⟨0, u186, rfl, ⟨(FC.tr (FC.rf _) (FC.up fr185 (by decide) (by decide))), (show 0 ≤ (u186.1 0 306).toInt ∧ (u186.1 0 306).toInt ≤ 40 from (om_7eaf33e007 i306185)), (show 0 ≤ (u186.1 0 321).toInt ∧ (u186.1 0 321).toInt ≤ 501 from (om_e1d35f5faf i321185)), (show 0 ≤ (u186.1 0 326).toInt ∧ (u186.1 0 326).toInt ≤ 420 from (om_839d7ed7dd i326185)), (show 0 ≤ (u186.1 0 381).toInt ∧ (u186.1 0 381).toInt ≤ 3008 from (om_e78eec72e1 i381185)), (show (u186.1 0 306).toInt = (v.1 0 306).toInt from (om_5049cbdce5 po185)), (Or.inl rfl)⟩, ⟨by rw [ht9]; exact hP, hD⟩, by rw [ht9]; exact hz⟩, hS.F ht9⟩) hS.2.2 dX2_named_100
      · have z188 : r155.toInt ≠ (-1 : Int) := ne_z rfl (show ((-1) : Int32).toInt = (-1 : Int) by decide) h159
        refine lv_iconst (v := 1) hx hb dX2_named_62 (by decide) ?_
        refine lv_goto (tgt := 67) hx hb dX2_named_63 (by decide) ?_
        refine lv_istore (lv' := [(5, .int 1), (4, .int r155), (3, .int r9), (2, .int r3), (0, .ref (ad 902)), (1, .int pa)]) hx hb dX2_named_67 hl (by decide) rfl (fun ls hl => ?_)
        refine lv_iload_n hx hb dX2_named_69 rfl (lv_at hl 3 rfl) ?_
        refine lv_bipush (v := 30) hx hb dX2_named_70 (by decide) ?_
        refine lv_icmp_ne (tgt := 101) hx hb dX2_named_72 (by decide) (fun h189 => ?_) (fun h189 => ?_)
        · have z190 : r3.toInt ≠ (30 : Int) := ne_z rfl (show (30 : Int32).toInt = (30 : Int) by decide) h189
          refine lv_aload_n hx hb dX2_named_101 rfl (lv_at hl 4 rfl) ?_
          refine va_get (D := (dC, dI)) (ci := 6) (fs := oF_X2 ad pr v) (v := .ref (ad 901)) (C := RX2) (T := TX2) (N := 5) hx hb ht itX2 hown hK hP 2 rfl rfl 1 (by decide) (ht _ tw_498) (fun _ h9 => h9) rfl dX2_named_102 ?_
          refine va_getN (D := (dC, dI)) (ci := 5) (fs := oF_X1 ad pr v) (v := .ref (pr (v.1 0 310))) (C := RX1) (T := TX1) (N := 12) hx hb ht itX1 hown hK hP 1 rfl rfl 0 (by decide) (hKK.fl2 3 rfl) (fun _ h9 => h9) rfl dX2_named_105 ?_
          refine lv_iload hx hb dX2_named_108 (lv_at hl 1 rfl) ?_
          refine lv_iconst (v := 2) hx hb dX2_named_110 (by decide) ?_
          refine W.eq (g2 := F0 m 111 ls [.int 2, .int r155, .ref (ad 908)]) (by rw [show pr (v.1 0 310) = (ad 908) from (by rw [show (v.1 0 310) = ps from es310]; exact hps)]) ?_
          refine cu_i (rn_Vk (n := 2) (As := [.int r155, .int 2]) (rest := []) hx hb hml hown ht hKK hFx hP hD hS hA (c_x_X7_globalFact l dC dI cI cB cZ cJ cR tb H.size ad pr N L1 L2 v r155 (2 : Int32) (show L1.length = 40 from hL1) (show L2.length = 60 from hL2) (show RP v from rp)) tw_402 tw_546 (by decide +kernel) rfl rfl ⟨show 0 + 1 ≤ 8 * n + 15 from om_fce2c17b78, show 8 + (3 + 11) + 0 ≤ 28 * (8 * n + 15) from om_0eaa3b1b86⟩ (List.range (cW ad pr N cI cR L1 L2 v).length) (rg_map _) (nd_range _) 8 rfl rfl rfl rfl hl.1 rfl (Nat.le_of_ble_eq_true rfl) dX2_named_111 ⟨Nat.le_of_ble_eq_true rfl, Nat.le_of_ble_eq_true rfl⟩) hP hD hS hA (fun r193 u192 H locs hw191 hP hD hS => ?_)
          obtain ⟨rfl, c191, d191⟩ := hw191
          have c191 : ((2 : Int) ≠ 0 ∨ r193.toInt ≤ 1000) := c191
          refine W.widen (k := 0) (n := 0) (Nat.le_refl _) (Nat.le_refl _) ?_
          refine lv_iconst (v := 1) hx hb dX2_named_114 (by decide) ?_
          refine lv_icmp_ne (tgt := 122) hx hb dX2_named_115 (by decide) (fun h194 => ?_) (fun h194 => ?_)
          · have z195 : r193.toInt ≠ (1 : Int) := ne_z rfl (show (1 : Int32).toInt = (1 : Int) by decide) h194
            refine lv_iconst (v := 0) hx hb dX2_named_122 (by decide) ?_
            refine lv_istore (lv' := [(6, .int 0), (5, .int 1), (4, .int r155), (3, .int r9), (2, .int r3), (0, .ref (ad 902)), (1, .int pa)]) hx hb dX2_named_123 hl (by decide) rfl (fun ls hl => ?_)
            refine lv_iload hx hb dX2_named_125 (lv_at hl 1 rfl) ?_
            refine lv_if_eq (tgt := 146) hx hb dX2_named_127 (by decide) (fun k196 => absurd k196 (by decide)) (fun _ => ?_)
            refine lv_iload hx hb dX2_named_130 (lv_at hl 0 rfl) ?_
            refine lv_iload_n hx hb dX2_named_132 rfl (lv_at hl 4 rfl) ?_
            refine lv_bipush (v := 34) hx hb dX2_named_133 (by decide) ?_
            refine lv_icmp_ne (tgt := 142) hx hb dX2_named_135 (by decide) (fun h197 => ?_) (fun h197 => ?_)
            · have z198 : r3.toInt ≠ (34 : Int) := ne_z rfl (show (34 : Int32).toInt = (34 : Int) by decide) h197
              refine lv_iconst (v := 0) hx hb dX2_named_142 (by decide) ?_
              refine lv_icmp_eq (tgt := 161) hx hb dX2_named_143 (by decide) (fun _ => ?_) (fun k199 => absurd k199 (by decide))
              refine lv_aload_n hx hb dX2_named_161 rfl (lv_at hl 5 rfl) ?_
              refine va_get (D := (dC, dI)) (ci := 6) (fs := oF_X2 ad pr v) (v := .ref (ad 900)) (C := RX2) (T := TX2) (N := 5) hx hb ht itX2 hown hK hP 2 rfl rfl 0 (by decide) (ht _ tw_509) (fun _ h9 => h9) rfl dX2_named_162 ?_
              refine W.sz (fun hz9 => ?_)
              refine czx_v (rx_Vk (n := 0) (As := []) (rest := []) hx hb hml hown ht hKK hFx hP hD hS hA (c_x_X9_take l dC dI cI cB cZ cJ cR tb H.size ad pr N L1 L2 v ps (show 0 ≤ (v.1 0 304).toInt ∧ (v.1 0 304).toInt ≤ 1503 from (om_c99648273b z304)) (show 0 ≤ (v.1 0 373).toInt ∧ (v.1 0 373).toInt ≤ 4000 from (om_c74a68af25 z373)) (show pr ps = ad 908 from hps) (show (v.1 0 300) = ps from es300) (show l.stackTraces = false from hst)) tw_539 tw_540 (by decide +kernel) rfl rfl ⟨show 7 + 1 ≤ 8 * n + 15 from om_ec1f92c19e, show 8 + (1 + 11) + 104 ≤ 28 * (8 * n + 15) from om_9d5a13a74b⟩ (List.range (cW ad pr N cI cR L1 L2 v).length) (rg_map _) (nd_range _) 0 rfl rfl rfl rfl hl.1 rfl (Nat.le_of_ble_eq_true rfl) dX2_named_165 ⟨Nat.le_of_ble_eq_true rfl, Nat.le_of_ble_eq_true rfl⟩) hP hD hS hA (fun u9 ce9 q9 H locs hx9 hP hD hS hc9 hv9 hf9 => ?_) (fun u201 H locs hw200 hP hD hS hz8 => ?_)
              · exact vx_out (fun x h9 => (hnt x h9).elim) hlocks hc9 hv9 hf9 (fun t9 ht9 hv8 => ⟨u9, ⟨FC.tr (FC.rf _) hx9.1, hx9.2⟩, ⟨rfl, by rw [ht9]; exact hP, hD⟩, hS.F ht9⟩) hS.2.2 (Nat.le_refl _) (Nat.le_refl _)
              refine W.shrink (hz8.trans hz9) ?_
              have fr200 := hw200
              refine lv_iload hx hb dX2_named_168 (lv_at hl 0 rfl) ?_
              refine lv_if_eq (tgt := 179) hx hb dX2_named_170 (by decide) (fun _ => ?_) (fun k203 => absurd k203 (by decide))
              refine lv_iload_n hx hb dX2_named_179 rfl (lv_at hl 6 rfl) ?_
              refine lv_if_eq (tgt := 207) hx hb dX2_named_180 (by decide) (fun h204 => ?_) (fun h204 => ?_)
              · have z205 : pa.toInt = (0 : Int) := eq_z rfl (show (0 : Int32).toInt = (0 : Int) by decide) h204
                refine lv_iload hx hb dX2_named_207 (lv_at hl 0 rfl) ?_
                refine lv_if_eq (tgt := 227) hx hb dX2_named_209 (by decide) (fun _ => ?_) (fun k206 => absurd k206 (by decide))
                refine lv_aload_n hx hb dX2_named_227 rfl (lv_at hl 5 rfl) ?_
                refine lv_iload_n hx hb dX2_named_228 rfl (lv_at hl 3 rfl) ?_
                refine lv_iload hx hb dX2_named_229 (lv_at hl 2 rfl) ?_
                have q207 : (u201.1 0 381).toInt = (v.1 0 381).toInt := congrArg Int32.toInt ((fr200.2.1 381 (by decide)).trans (show v.1 0 381 = (v.1 0 381) by rfl))
                refine cu_v (rn_Vk (n := 2) (As := [.int r9, .int r155]) (rest := []) hx hb hml hown ht hKK hFx hP hD hS hA (c_x_X2_read l dC dI cI cB cZ cJ cR tb H.size ad pr N L1 L2 u201 r9 r155 ps (show 0 ≤ (u201.1 0 381).toInt ∧ (u201.1 0 381).toInt ≤ 3008 from (om_6e4eb11ad3 z381 q207)) (show pr ps = ad 908 from hps) (show (u201.1 0 310) = ps from (Eq.trans (fr200.2.1 310 (by decide)) es310))) tw_522 tw_523 (by decide +kernel) rfl rfl ⟨show 1 + 1 ≤ 8 * n + 15 from om_60a3ad0423, show 8 + (3 + 11) + 24 ≤ 28 * (8 * n + 15) from om_82dcfb3396⟩ (List.range (cW ad pr N cI cR L1 L2 u201).length) (rg_map _) (nd_range _) 2 rfl rfl rfl rfl hl.1 rfl (Nat.le_of_ble_eq_true rfl) dX2_named_231 ⟨Nat.le_of_ble_eq_true rfl, Nat.le_of_ble_eq_true rfl⟩) hP hD hS hA (fun u209 H locs hw208 hP hD hS => ?_)
                obtain ⟨fr208, i381208⟩ := hw208
                have i381208 : 0 ≤ (u209.1 0 381).toInt ∧ (u209.1 0 381).toInt ≤ 3008 := i381208
                refine W.widen (k := 0) (n := 0) (Nat.le_refl _) (Nat.le_refl _) ?_
                refine lv_iconst (v := 0) hx hb dX2_named_234 (by decide) ?_
                have q211 : (u201.1 0 306).toInt = (v.1 0 306).toInt := congrArg Int32.toInt ((fr200.2.1 306 (by decide)).trans (show v.1 0 306 = (v.1 0 306) by rfl))
                have q212 : (u209.1 0 306).toInt = (u201.1 0 306).toInt := congrArg Int32.toInt ((fr208.2.1 306 (by decide)).trans (show u201.1 0 306 = (u201.1 0 306) by rfl))
                have q213 : (u201.1 0 321).toInt = (v.1 0 321).toInt := congrArg Int32.toInt ((fr200.2.1 321 (by decide)).trans (show v.1 0 321 = (v.1 0 321) by rfl))
                have q214 : (u209.1 0 321).toInt = (u201.1 0 321).toInt := congrArg Int32.toInt ((fr208.2.1 321 (by decide)).trans (show u201.1 0 321 = (u201.1 0 321) by rfl))
                have q215 : (u201.1 0 326).toInt = (v.1 0 326).toInt := congrArg Int32.toInt ((fr200.2.1 326 (by decide)).trans (show v.1 0 326 = (v.1 0 326) by rfl))
                have q216 : (u209.1 0 326).toInt = (u201.1 0 326).toInt := congrArg Int32.toInt ((fr208.2.1 326 (by decide)).trans (show u201.1 0 326 = (u201.1 0 326) by rfl))
                refine W.sz (fun hz => ?_)
                refine vx_ret ?_
                refine W.widen (k := 1) (n := 6) (Nat.le_of_ble_eq_true rfl) (Nat.le_of_ble_eq_true rfl) ?_
                exact W.zret (v := 0) hx hb hr rfl (fun t ht9 hW => ⟨⟨0, u209, rfl, ⟨(FC.tr (FC.tr (FC.rf _) (FC.up fr200 (by decide) (by decide))) (FC.up fr208 (by decide) (by decide))), (show 0 ≤ (u209.1 0 306).toInt ∧ (u209.1 0 306).toInt ≤ 40 from (om_68f540929a z306 q211 q212)), (show 0 ≤ (u209.1 0 321).toInt ∧ (u209.1 0 321).toInt ≤ 501 from (om_4dfa815534 z321 q213 q214)), (show 0 ≤ (u209.1 0 326).toInt ∧ (u209.1 0 326).toInt ≤ 420 from (om_9591dea625 z326 q215 q216)), (show 0 ≤ (u209.1 0 381).toInt ∧ (u209.1 0 381).toInt ≤ 3008 from (om_e78eec72e1 i381208)), (show (u209.1 0 306).toInt = (v.1 0 306).toInt from (om_837b7bd001 q211 q212)), (Or.inl rfl)⟩, ⟨by rw [ht9]; exact hP, hD⟩, by rw [ht9]; exact hz⟩, hS.F ht9⟩) hS.2.2 dX2_named_235
              · have z217 : pa.toInt ≠ (0 : Int) := ne_z rfl (show (0 : Int32).toInt = (0 : Int) by decide) h204
                refine lv_aload_n hx hb dX2_named_183 rfl (lv_at hl 5 rfl) ?_
                refine va_get (D := (dC, dI)) (ci := 6) (fs := oF_X2 ad pr u201) (v := .ref (ad 900)) (C := RX2) (T := TX2) (N := 5) hx hb ht itX2 hown hK hP 2 rfl rfl 0 (by decide) (ht _ tw_509) (fun _ h9 => h9) rfl dX2_named_184 ?_
                have q218 : (u201.1 0 304).toInt = (v.1 0 304).toInt := congrArg Int32.toInt ((fr200.2.1 304 (by decide)).trans (show v.1 0 304 = (v.1 0 304) by rfl))
                refine cu_i (rn_Vk (n := 0) (As := []) (rest := []) hx hb hml hown ht hKK hFx hP hD hS hA (c_x_X9_kind l dC dI cI cB cZ cJ cR tb H.size ad pr N L1 L2 u201  (show 0 ≤ (u201.1 0 304).toInt ∧ (u201.1 0 304).toInt ≤ 1503 from (om_73002589c1 z304 q218))) tw_455 tw_532 (by decide +kernel) rfl rfl ⟨show 0 + 1 ≤ 8 * n + 15 from om_fce2c17b78, show 8 + (1 + 11) + 0 ≤ 28 * (8 * n + 15) from om_bca265e904⟩ (List.range (cW ad pr N cI cR L1 L2 u201).length) (rg_map _) (nd_range _) 0 rfl rfl rfl rfl hl.1 rfl (Nat.le_of_ble_eq_true rfl) dX2_named_187 ⟨Nat.le_of_ble_eq_true rfl, Nat.le_of_ble_eq_true rfl⟩) hP hD hS hA (fun r221 u220 H locs hw219 hP hD hS => ?_)
                obtain rfl := hw219
                refine W.widen (k := 0) (n := 0) (Nat.le_refl _) (Nat.le_refl _) ?_
                refine cu_s (nd_range _) (rn_S (n := 1) (As := [.int r221]) (rest := []) hx hb hml hown ht hKK hFx hP hD hS hA (c_x_X9_isSet l dC dI cI cB cZ cJ cR tb H.size r221 ) tw_547 tw_548 (by decide +kernel) rfl rfl ⟨show 0 + 1 ≤ 8 * n + 15 from om_fce2c17b78, show 8 + (1 + 11) + 0 ≤ 28 * (8 * n + 15) from om_bca265e904⟩ [] rfl rfl rfl hl.1 rfl (Nat.le_of_ble_eq_true rfl) dX2_named_190 ⟨Nat.le_of_ble_eq_true rfl, Nat.le_of_ble_eq_true rfl⟩) hP hD hS hA (fun r224 H locs hw222 hP hD hS => ?_)
                obtain ⟨b222, e222⟩ := hw222
                have b222 : (r224 = 0 ∨ r224 = 1) := b222
                have e222 : (0 ≤ r224.toInt ∧ r224.toInt ≤ 1) := e222
                refine W.widen (k := 0) (n := 0) (Nat.le_refl _) (Nat.le_refl _) ?_
                refine lv_if_eq (tgt := 207) hx hb dX2_named_193 (by decide) (fun h225 => ?_) (fun h225 => ?_)
                · have z226 : r224.toInt = (0 : Int) := eq_z rfl (show (0 : Int32).toInt = (0 : Int) by decide) h225
                  refine lv_iload hx hb dX2_named_207 (lv_at hl 0 rfl) ?_
                  refine lv_if_eq (tgt := 227) hx hb dX2_named_209 (by decide) (fun _ => ?_) (fun k227 => absurd k227 (by decide))
                  refine lv_aload_n hx hb dX2_named_227 rfl (lv_at hl 5 rfl) ?_
                  refine lv_iload_n hx hb dX2_named_228 rfl (lv_at hl 3 rfl) ?_
                  refine lv_iload hx hb dX2_named_229 (lv_at hl 2 rfl) ?_
                  have q228 : (u201.1 0 381).toInt = (v.1 0 381).toInt := congrArg Int32.toInt ((fr200.2.1 381 (by decide)).trans (show v.1 0 381 = (v.1 0 381) by rfl))
                  refine cu_v (rn_Vk (n := 2) (As := [.int r9, .int r155]) (rest := []) hx hb hml hown ht hKK hFx hP hD hS hA (c_x_X2_read l dC dI cI cB cZ cJ cR tb H.size ad pr N L1 L2 u201 r9 r155 ps (show 0 ≤ (u201.1 0 381).toInt ∧ (u201.1 0 381).toInt ≤ 3008 from (om_6e4eb11ad3 z381 q228)) (show pr ps = ad 908 from hps) (show (u201.1 0 310) = ps from (Eq.trans (fr200.2.1 310 (by decide)) es310))) tw_522 tw_523 (by decide +kernel) rfl rfl ⟨show 1 + 1 ≤ 8 * n + 15 from om_60a3ad0423, show 8 + (3 + 11) + 24 ≤ 28 * (8 * n + 15) from om_82dcfb3396⟩ (List.range (cW ad pr N cI cR L1 L2 u201).length) (rg_map _) (nd_range _) 2 rfl rfl rfl rfl hl.1 rfl (Nat.le_of_ble_eq_true rfl) dX2_named_231 ⟨Nat.le_of_ble_eq_true rfl, Nat.le_of_ble_eq_true rfl⟩) hP hD hS hA (fun u230 H locs hw229 hP hD hS => ?_)
                  obtain ⟨fr229, i381229⟩ := hw229
                  have i381229 : 0 ≤ (u230.1 0 381).toInt ∧ (u230.1 0 381).toInt ≤ 3008 := i381229
                  refine W.widen (k := 0) (n := 0) (Nat.le_refl _) (Nat.le_refl _) ?_
                  refine lv_iconst (v := 0) hx hb dX2_named_234 (by decide) ?_
                  have q232 : (u201.1 0 306).toInt = (v.1 0 306).toInt := congrArg Int32.toInt ((fr200.2.1 306 (by decide)).trans (show v.1 0 306 = (v.1 0 306) by rfl))
                  have q233 : (u230.1 0 306).toInt = (u201.1 0 306).toInt := congrArg Int32.toInt ((fr229.2.1 306 (by decide)).trans (show u201.1 0 306 = (u201.1 0 306) by rfl))
                  have q234 : (u201.1 0 321).toInt = (v.1 0 321).toInt := congrArg Int32.toInt ((fr200.2.1 321 (by decide)).trans (show v.1 0 321 = (v.1 0 321) by rfl))
                  have q235 : (u230.1 0 321).toInt = (u201.1 0 321).toInt := congrArg Int32.toInt ((fr229.2.1 321 (by decide)).trans (show u201.1 0 321 = (u201.1 0 321) by rfl))
                  have q236 : (u201.1 0 326).toInt = (v.1 0 326).toInt := congrArg Int32.toInt ((fr200.2.1 326 (by decide)).trans (show v.1 0 326 = (v.1 0 326) by rfl))
                  have q237 : (u230.1 0 326).toInt = (u201.1 0 326).toInt := congrArg Int32.toInt ((fr229.2.1 326 (by decide)).trans (show u201.1 0 326 = (u201.1 0 326) by rfl))
                  refine W.sz (fun hz => ?_)
                  refine vx_ret ?_
                  refine W.widen (k := 1) (n := 6) (Nat.le_of_ble_eq_true rfl) (Nat.le_of_ble_eq_true rfl) ?_
                  exact W.zret (v := 0) hx hb hr rfl (fun t ht9 hW => ⟨⟨0, u230, rfl, ⟨(FC.tr (FC.tr (FC.rf _) (FC.up fr200 (by decide) (by decide))) (FC.up fr229 (by decide) (by decide))), (show 0 ≤ (u230.1 0 306).toInt ∧ (u230.1 0 306).toInt ≤ 40 from (om_68f540929a z306 q232 q233)), (show 0 ≤ (u230.1 0 321).toInt ∧ (u230.1 0 321).toInt ≤ 501 from (om_4dfa815534 z321 q234 q235)), (show 0 ≤ (u230.1 0 326).toInt ∧ (u230.1 0 326).toInt ≤ 420 from (om_9591dea625 z326 q236 q237)), (show 0 ≤ (u230.1 0 381).toInt ∧ (u230.1 0 381).toInt ≤ 3008 from (om_e78eec72e1 i381229)), (show (u230.1 0 306).toInt = (v.1 0 306).toInt from (om_837b7bd001 q232 q233)), (Or.inl rfl)⟩, ⟨by rw [ht9]; exact hP, hD⟩, by rw [ht9]; exact hz⟩, hS.F ht9⟩) hS.2.2 dX2_named_235
                · have z238 : r224.toInt ≠ (0 : Int) := ne_z rfl (show (0 : Int32).toInt = (0 : Int) by decide) h225
                  refine lv_aload_n hx hb dX2_named_196 rfl (lv_at hl 5 rfl) ?_
                  refine lv_iload_n hx hb dX2_named_197 rfl (lv_at hl 3 rfl) ?_
                  refine lv_iload hx hb dX2_named_198 (lv_at hl 2 rfl) ?_
                  refine lv_iload hx hb dX2_named_200 (lv_at hl 0 rfl) ?_
                  have q239 : (u201.1 0 306).toInt = (v.1 0 306).toInt := congrArg Int32.toInt ((fr200.2.1 306 (by decide)).trans (show v.1 0 306 = (v.1 0 306) by rfl))
                  have q240 : (u201.1 0 312).toInt = (v.1 0 312).toInt := congrArg Int32.toInt ((fr200.2.1 312 (by decide)).trans (show v.1 0 312 = (v.1 0 312) by rfl))
                  have q241 : (u201.1 0 321).toInt = (v.1 0 321).toInt := congrArg Int32.toInt ((fr200.2.1 321 (by decide)).trans (show v.1 0 321 = (v.1 0 321) by rfl))
                  have q242 : (u201.1 0 326).toInt = (v.1 0 326).toInt := congrArg Int32.toInt ((fr200.2.1 326 (by decide)).trans (show v.1 0 326 = (v.1 0 326) by rfl))
                  have q243 : (u201.1 0 373).toInt = (v.1 0 373).toInt := congrArg Int32.toInt ((fr200.2.1 373 (by decide)).trans (show v.1 0 373 = (v.1 0 373) by rfl))
                  have q244 : (u201.1 0 381).toInt = (v.1 0 381).toInt := congrArg Int32.toInt ((fr200.2.1 381 (by decide)).trans (show v.1 0 381 = (v.1 0 381) by rfl))
                  refine W.sz (fun hz9 => ?_)
                  refine czx_v (rx_Vk (n := 3) (As := [.int r9, .int r155, .int 0]) (rest := []) hx hb hml hown ht hKK hFx hP hD hS hA (c_x_X2_change l n ihE dC dI cI cB cZ cJ cR tb H.size ad pr N L1 L2 u201 r9 r155 (0 : Int32) ps (show 0 ≤ (u201.1 0 304).toInt ∧ (u201.1 0 304).toInt ≤ 1503 from (om_73002589c1 z304 q218)) (show 0 ≤ (u201.1 0 306).toInt ∧ (u201.1 0 306).toInt ≤ 40 from (om_99e115f631 z306 q239)) (show 0 ≤ (u201.1 0 312).toInt ∧ (u201.1 0 312).toInt ≤ 500 from (om_f8376ff89c z312 q240)) (show 0 ≤ (u201.1 0 321).toInt ∧ (u201.1 0 321).toInt ≤ 501 from (om_ff27494c0e z321 q241)) (show 0 ≤ (u201.1 0 326).toInt ∧ (u201.1 0 326).toInt ≤ 420 from (om_8ed0dedb19 z326 q242)) (show 0 ≤ (u201.1 0 373).toInt ∧ (u201.1 0 373).toInt ≤ 4000 from (om_9084c127ed z373 q243)) (show 0 ≤ (u201.1 0 381).toInt ∧ (u201.1 0 381).toInt ≤ 3008 from (om_6e4eb11ad3 z381 q244)) (show L1.length = 40 from hL1) (show L2.length = 60 from hL2) (show RP u201 from ((show FC [305, 306, 307, 314, 315, 317, 321, 326, 381] [0, 316, 318, 319, 320, 324, 325, 378, 379, 380] v u201 from (FC.tr (FC.rf _) (FC.up fr200 (by decide) (by decide)))).1 rp)) (show pr ps = ad 908 from hps) (show (u201.1 0 300) = ps from (Eq.trans (fr200.2.1 300 (by decide)) es300)) (show (u201.1 0 310) = ps from (Eq.trans (fr200.2.1 310 (by decide)) es310)) (show l.stackTraces = false from hst) (show 40 ≤ (u201.1 0 306).toInt + (n : Int) from (om_2d3a9cf1da zn q239))) tw_549 tw_550 (by decide +kernel) rfl rfl ⟨show (8 * n + 14) + 1 ≤ 8 * n + 15 from om_c0c6541b93, show 8 + (7 + 11) + 28 * (8 * n + 14) ≤ 28 * (8 * n + 15) from om_fb93e872bb⟩ (List.range (cW ad pr N cI cR L1 L2 u201).length) (rg_map _) (nd_range _) 2 rfl rfl rfl rfl hl.1 rfl (Nat.le_of_ble_eq_true rfl) dX2_named_202 ⟨Nat.le_of_ble_eq_true rfl, Nat.le_of_ble_eq_true rfl⟩) hP hD hS hA (fun u9 ce9 q9 H locs hx9 hP hD hS hc9 hv9 hf9 => ?_) (fun u246 H locs hw245 hP hD hS hz8 => ?_)
                  · exact vx_out (fun x h9 => (hnt x h9).elim) hlocks hc9 hv9 hf9 (fun t9 ht9 hv8 => ⟨u9, ⟨FC.tr (FC.tr (FC.rf _) (FC.up fr200 (by decide) (by decide))) hx9.1, hx9.2⟩, ⟨rfl, by rw [ht9]; exact hP, hD⟩, hS.F ht9⟩) hS.2.2 (Nat.le_refl _) (Nat.le_refl _)
                  refine W.shrink (hz8.trans hz9) ?_
                  obtain ⟨fr245, i306245, i321245, i326245, i381245, po245⟩ := hw245
                  have i306245 : 0 ≤ (u246.1 0 306).toInt ∧ (u246.1 0 306).toInt ≤ 40 := i306245
                  have i321245 : 0 ≤ (u246.1 0 321).toInt ∧ (u246.1 0 321).toInt ≤ 501 := i321245
                  have i326245 : 0 ≤ (u246.1 0 326).toInt ∧ (u246.1 0 326).toInt ≤ 420 := i326245
                  have i381245 : 0 ≤ (u246.1 0 381).toInt ∧ (u246.1 0 381).toInt ≤ 3008 := i381245
                  have po245 : (u246.1 0 306).toInt = (u201.1 0 306).toInt := po245
                  refine lv_iconst (v := 1) hx hb dX2_named_205 (by decide) ?_
                  refine W.sz (fun hz => ?_)
                  refine vx_ret ?_
                  refine W.widen (k := 1) (n := 6) (Nat.le_of_ble_eq_true rfl) (Nat.le_of_ble_eq_true rfl) ?_
                  exact W.zret (v := 1) hx hb hr rfl (fun t ht9 hW => ⟨⟨1, u246, rfl, ⟨(FC.tr (FC.tr (FC.rf _) (FC.up fr200 (by decide) (by decide))) (FC.up fr245 (by decide) (by decide))), (show 0 ≤ (u246.1 0 306).toInt ∧ (u246.1 0 306).toInt ≤ 40 from (om_7eaf33e007 i306245)), (show 0 ≤ (u246.1 0 321).toInt ∧ (u246.1 0 321).toInt ≤ 501 from (om_e1d35f5faf i321245)), (show 0 ≤ (u246.1 0 326).toInt ∧ (u246.1 0 326).toInt ≤ 420 from (om_839d7ed7dd i326245)), (show 0 ≤ (u246.1 0 381).toInt ∧ (u246.1 0 381).toInt ≤ 3008 from (om_e78eec72e1 i381245)), (show (u246.1 0 306).toInt = (v.1 0 306).toInt from (om_837b7bd001 q239 po245)), (Or.inr rfl)⟩, ⟨by rw [ht9]; exact hP, hD⟩, by rw [ht9]; exact hz⟩, hS.F ht9⟩) hS.2.2 dX2_named_206
            · have z248 : r3.toInt = (34 : Int) := eq_z rfl (show (34 : Int32).toInt = (34 : Int) by decide) h197
              refine lv_iconst (v := 1) hx hb dX2_named_138 (by decide) ?_
              refine lv_goto (tgt := 143) hx hb dX2_named_139 (by decide) ?_
              refine lv_icmp_eq (tgt := 161) hx hb dX2_named_143 (by decide) (fun k249 => absurd k249 (by decide)) (fun _ => ?_)
              refine lv_aload_n hx hb dX2_named_146 rfl (lv_at hl 5 rfl) ?_
              refine va_get (D := (dC, dI)) (ci := 6) (fs := oF_X2 ad pr v) (v := .ref (ad 900)) (C := RX2) (T := TX2) (N := 5) hx hb ht itX2 hown hK hP 2 rfl rfl 0 (by decide) (ht _ tw_509) (fun _ h9 => h9) rfl dX2_named_147 ?_
              refine lv_iconst (v := 3) hx hb dX2_named_150 (by decide) ?_
              refine lv_aload_n hx hb dX2_named_151 rfl (lv_at hl 5 rfl) ?_
              refine va_get (D := (dC, dI)) (ci := 6) (fs := oF_X2 ad pr v) (v := .ref (ad 900)) (C := RX2) (T := TX2) (N := 5) hx hb ht itX2 hown hK hP 2 rfl rfl 0 (by decide) (ht _ tw_509) (fun _ h9 => h9) rfl dX2_named_152 ?_
              refine cu_i (rn_Vk (n := 0) (As := []) (rest := [.int 3, .ref (ad 900)]) hx hb hml hown ht hKK hFx hP hD hS hA (c_x_X9_place l dC dI cI cB cZ cJ cR tb H.size ad pr N L1 L2 v ps (show 0 ≤ (v.1 0 304).toInt ∧ (v.1 0 304).toInt ≤ 1503 from (om_c99648273b z304)) (show 0 ≤ (v.1 0 373).toInt ∧ (v.1 0 373).toInt ≤ 4000 from (om_c74a68af25 z373)) (show pr ps = ad 908 from hps) (show (v.1 0 300) = ps from es300)) tw_457 tw_510 (by decide +kernel) rfl rfl ⟨show 0 + 1 ≤ 8 * n + 15 from om_fce2c17b78, show 8 + (1 + 11) + 0 ≤ 28 * (8 * n + 15) from om_bca265e904⟩ (List.range (cW ad pr N cI cR L1 L2 v).length) (rg_map _) (nd_range _) 0 rfl rfl rfl rfl hl.1 rfl (Nat.le_of_ble_eq_true rfl) dX2_named_155 ⟨Nat.le_of_ble_eq_true rfl, Nat.le_of_ble_eq_true rfl⟩) hP hD hS hA (fun r252 u251 H locs hw250 hP hD hS => ?_)
              obtain rfl := hw250
              refine W.widen (k := 0) (n := 0) (Nat.le_refl _) (Nat.le_refl _) ?_
              refine W.sz (fun hz9 => ?_)
              refine czx_v (rx_Vk (n := 2) (As := [.int 3, .int r252]) (rest := []) hx hb hml hown ht hKK hFx hP hD hS hA (c_x_X9_refuse l dC dI cI cB cZ cJ cR tb H.size ad pr N L1 L2 v (3 : Int32) r252 (show l.stackTraces = false from hst) (show (3 : Int) ≠ 0 from om_59881768ad)) tw_459 tw_511 (by decide +kernel) rfl rfl ⟨show 6 + 1 ≤ 8 * n + 15 from om_838586afae, show 8 + (3 + 11) + 82 ≤ 28 * (8 * n + 15) from om_41a9d63453⟩ (List.range (cW ad pr N cI cR L1 L2 v).length) (rg_map _) (nd_range _) 0 rfl rfl rfl rfl hl.1 rfl (Nat.le_of_ble_eq_true rfl) dX2_named_158 ⟨Nat.le_of_ble_eq_true rfl, Nat.le_of_ble_eq_true rfl⟩) hP hD hS hA (fun u9 ce9 q9 H locs hx9 hP hD hS hc9 hv9 hf9 => ?_) (fun u254 H locs hw253 hP hD hS hz8 => ?_)
              · exact vx_out (fun x h9 => (hnt x h9).elim) hlocks hc9 hv9 hf9 (fun t9 ht9 hv8 => ⟨u9, ⟨FC.tr (FC.rf _) hx9.1, hx9.2⟩, ⟨rfl, by rw [ht9]; exact hP, hD⟩, hS.F ht9⟩) hS.2.2 (Nat.le_refl _) (Nat.le_refl _)
              refine W.shrink (hz8.trans hz9) ?_
              obtain ⟨fr253, no253⟩ := hw253
              exact no253.elim
          · have z256 : r193.toInt = (1 : Int) := eq_z rfl (show (1 : Int32).toInt = (1 : Int) by decide) h194
            refine lv_iconst (v := 1) hx hb dX2_named_118 (by decide) ?_
            refine lv_goto (tgt := 123) hx hb dX2_named_119 (by decide) ?_
            refine lv_istore (lv' := [(6, .int 1), (5, .int 1), (4, .int r155), (3, .int r9), (2, .int r3), (0, .ref (ad 902)), (1, .int pa)]) hx hb dX2_named_123 hl (by decide) rfl (fun ls hl => ?_)
            refine lv_iload hx hb dX2_named_125 (lv_at hl 1 rfl) ?_
            refine lv_if_eq (tgt := 146) hx hb dX2_named_127 (by decide) (fun k257 => absurd k257 (by decide)) (fun _ => ?_)
            refine lv_iload hx hb dX2_named_130 (lv_at hl 0 rfl) ?_
            refine lv_iload_n hx hb dX2_named_132 rfl (lv_at hl 4 rfl) ?_
            refine lv_bipush (v := 34) hx hb dX2_named_133 (by decide) ?_
            refine lv_icmp_ne (tgt := 142) hx hb dX2_named_135 (by decide) (fun h258 => ?_) (fun h258 => ?_)
            · have z259 : r3.toInt ≠ (34 : Int) := ne_z rfl (show (34 : Int32).toInt = (34 : Int) by decide) h258
              refine lv_iconst (v := 0) hx hb dX2_named_142 (by decide) ?_
              refine lv_icmp_eq (tgt := 161) hx hb dX2_named_143 (by decide) (fun k260 => absurd k260 (by decide)) (fun _ => ?_)
              refine lv_aload_n hx hb dX2_named_146 rfl (lv_at hl 5 rfl) ?_
              refine va_get (D := (dC, dI)) (ci := 6) (fs := oF_X2 ad pr v) (v := .ref (ad 900)) (C := RX2) (T := TX2) (N := 5) hx hb ht itX2 hown hK hP 2 rfl rfl 0 (by decide) (ht _ tw_509) (fun _ h9 => h9) rfl dX2_named_147 ?_
              refine lv_iconst (v := 3) hx hb dX2_named_150 (by decide) ?_
              refine lv_aload_n hx hb dX2_named_151 rfl (lv_at hl 5 rfl) ?_
              refine va_get (D := (dC, dI)) (ci := 6) (fs := oF_X2 ad pr v) (v := .ref (ad 900)) (C := RX2) (T := TX2) (N := 5) hx hb ht itX2 hown hK hP 2 rfl rfl 0 (by decide) (ht _ tw_509) (fun _ h9 => h9) rfl dX2_named_152 ?_
              refine cu_i (rn_Vk (n := 0) (As := []) (rest := [.int 3, .ref (ad 900)]) hx hb hml hown ht hKK hFx hP hD hS hA (c_x_X9_place l dC dI cI cB cZ cJ cR tb H.size ad pr N L1 L2 v ps (show 0 ≤ (v.1 0 304).toInt ∧ (v.1 0 304).toInt ≤ 1503 from (om_c99648273b z304)) (show 0 ≤ (v.1 0 373).toInt ∧ (v.1 0 373).toInt ≤ 4000 from (om_c74a68af25 z373)) (show pr ps = ad 908 from hps) (show (v.1 0 300) = ps from es300)) tw_457 tw_510 (by decide +kernel) rfl rfl ⟨show 0 + 1 ≤ 8 * n + 15 from om_fce2c17b78, show 8 + (1 + 11) + 0 ≤ 28 * (8 * n + 15) from om_bca265e904⟩ (List.range (cW ad pr N cI cR L1 L2 v).length) (rg_map _) (nd_range _) 0 rfl rfl rfl rfl hl.1 rfl (Nat.le_of_ble_eq_true rfl) dX2_named_155 ⟨Nat.le_of_ble_eq_true rfl, Nat.le_of_ble_eq_true rfl⟩) hP hD hS hA (fun r263 u262 H locs hw261 hP hD hS => ?_)
              obtain rfl := hw261
              refine W.widen (k := 0) (n := 0) (Nat.le_refl _) (Nat.le_refl _) ?_
              refine W.sz (fun hz9 => ?_)
              refine czx_v (rx_Vk (n := 2) (As := [.int 3, .int r263]) (rest := []) hx hb hml hown ht hKK hFx hP hD hS hA (c_x_X9_refuse l dC dI cI cB cZ cJ cR tb H.size ad pr N L1 L2 v (3 : Int32) r263 (show l.stackTraces = false from hst) (show (3 : Int) ≠ 0 from om_59881768ad)) tw_459 tw_511 (by decide +kernel) rfl rfl ⟨show 6 + 1 ≤ 8 * n + 15 from om_838586afae, show 8 + (3 + 11) + 82 ≤ 28 * (8 * n + 15) from om_41a9d63453⟩ (List.range (cW ad pr N cI cR L1 L2 v).length) (rg_map _) (nd_range _) 0 rfl rfl rfl rfl hl.1 rfl (Nat.le_of_ble_eq_true rfl) dX2_named_158 ⟨Nat.le_of_ble_eq_true rfl, Nat.le_of_ble_eq_true rfl⟩) hP hD hS hA (fun u9 ce9 q9 H locs hx9 hP hD hS hc9 hv9 hf9 => ?_) (fun u265 H locs hw264 hP hD hS hz8 => ?_)
              · exact vx_out (fun x h9 => (hnt x h9).elim) hlocks hc9 hv9 hf9 (fun t9 ht9 hv8 => ⟨u9, ⟨FC.tr (FC.rf _) hx9.1, hx9.2⟩, ⟨rfl, by rw [ht9]; exact hP, hD⟩, hS.F ht9⟩) hS.2.2 (Nat.le_refl _) (Nat.le_refl _)
              refine W.shrink (hz8.trans hz9) ?_
              obtain ⟨fr264, no264⟩ := hw264
              exact no264.elim
            · have z267 : r3.toInt = (34 : Int) := eq_z rfl (show (34 : Int32).toInt = (34 : Int) by decide) h258
              refine lv_iconst (v := 1) hx hb dX2_named_138 (by decide) ?_
              refine lv_goto (tgt := 143) hx hb dX2_named_139 (by decide) ?_
              refine lv_icmp_eq (tgt := 161) hx hb dX2_named_143 (by decide) (fun _ => ?_) (fun k268 => absurd k268 (by decide))
              refine lv_aload_n hx hb dX2_named_161 rfl (lv_at hl 5 rfl) ?_
              refine va_get (D := (dC, dI)) (ci := 6) (fs := oF_X2 ad pr v) (v := .ref (ad 900)) (C := RX2) (T := TX2) (N := 5) hx hb ht itX2 hown hK hP 2 rfl rfl 0 (by decide) (ht _ tw_509) (fun _ h9 => h9) rfl dX2_named_162 ?_
              refine W.sz (fun hz9 => ?_)
              refine czx_v (rx_Vk (n := 0) (As := []) (rest := []) hx hb hml hown ht hKK hFx hP hD hS hA (c_x_X9_take l dC dI cI cB cZ cJ cR tb H.size ad pr N L1 L2 v ps (show 0 ≤ (v.1 0 304).toInt ∧ (v.1 0 304).toInt ≤ 1503 from (om_c99648273b z304)) (show 0 ≤ (v.1 0 373).toInt ∧ (v.1 0 373).toInt ≤ 4000 from (om_c74a68af25 z373)) (show pr ps = ad 908 from hps) (show (v.1 0 300) = ps from es300) (show l.stackTraces = false from hst)) tw_539 tw_540 (by decide +kernel) rfl rfl ⟨show 7 + 1 ≤ 8 * n + 15 from om_ec1f92c19e, show 8 + (1 + 11) + 104 ≤ 28 * (8 * n + 15) from om_9d5a13a74b⟩ (List.range (cW ad pr N cI cR L1 L2 v).length) (rg_map _) (nd_range _) 0 rfl rfl rfl rfl hl.1 rfl (Nat.le_of_ble_eq_true rfl) dX2_named_165 ⟨Nat.le_of_ble_eq_true rfl, Nat.le_of_ble_eq_true rfl⟩) hP hD hS hA (fun u9 ce9 q9 H locs hx9 hP hD hS hc9 hv9 hf9 => ?_) (fun u270 H locs hw269 hP hD hS hz8 => ?_)
              · exact vx_out (fun x h9 => (hnt x h9).elim) hlocks hc9 hv9 hf9 (fun t9 ht9 hv8 => ⟨u9, ⟨FC.tr (FC.rf _) hx9.1, hx9.2⟩, ⟨rfl, by rw [ht9]; exact hP, hD⟩, hS.F ht9⟩) hS.2.2 (Nat.le_refl _) (Nat.le_refl _)
              refine W.shrink (hz8.trans hz9) ?_
              have fr269 := hw269
              refine lv_iload hx hb dX2_named_168 (lv_at hl 0 rfl) ?_
              refine lv_if_eq (tgt := 179) hx hb dX2_named_170 (by decide) (fun k272 => absurd k272 (by decide)) (fun _ => ?_)
              refine lv_aload_n hx hb dX2_named_173 rfl (lv_at hl 5 rfl) ?_
              refine lv_iload hx hb dX2_named_174 (lv_at hl 2 rfl) ?_
              have q273 : (u270.1 0 304).toInt = (v.1 0 304).toInt := congrArg Int32.toInt ((fr269.2.1 304 (by decide)).trans (show v.1 0 304 = (v.1 0 304) by rfl))
              have q274 : (u270.1 0 306).toInt = (v.1 0 306).toInt := congrArg Int32.toInt ((fr269.2.1 306 (by decide)).trans (show v.1 0 306 = (v.1 0 306) by rfl))
              have q275 : (u270.1 0 312).toInt = (v.1 0 312).toInt := congrArg Int32.toInt ((fr269.2.1 312 (by decide)).trans (show v.1 0 312 = (v.1 0 312) by rfl))
              have q276 : (u270.1 0 321).toInt = (v.1 0 321).toInt := congrArg Int32.toInt ((fr269.2.1 321 (by decide)).trans (show v.1 0 321 = (v.1 0 321) by rfl))
              have q277 : (u270.1 0 326).toInt = (v.1 0 326).toInt := congrArg Int32.toInt ((fr269.2.1 326 (by decide)).trans (show v.1 0 326 = (v.1 0 326) by rfl))
              have q278 : (u270.1 0 373).toInt = (v.1 0 373).toInt := congrArg Int32.toInt ((fr269.2.1 373 (by decide)).trans (show v.1 0 373 = (v.1 0 373) by rfl))
              have q279 : (u270.1 0 381).toInt = (v.1 0 381).toInt := congrArg Int32.toInt ((fr269.2.1 381 (by decide)).trans (show v.1 0 381 = (v.1 0 381) by rfl))
              refine W.sz (fun hz9 => ?_)
              refine czx_v (rx_Vk (n := 1) (As := [.int r155]) (rest := []) hx hb hml hown ht hKK hFx hP hD hS hA (c_x_X2_index l n ihE dC dI cI cB cZ cJ cR tb H.size ad pr N L1 L2 u270 r155 ps (show 0 ≤ (u270.1 0 304).toInt ∧ (u270.1 0 304).toInt ≤ 1503 from (om_73002589c1 z304 q273)) (show 0 ≤ (u270.1 0 306).toInt ∧ (u270.1 0 306).toInt ≤ 40 from (om_99e115f631 z306 q274)) (show 0 ≤ (u270.1 0 312).toInt ∧ (u270.1 0 312).toInt ≤ 500 from (om_f8376ff89c z312 q275)) (show 0 ≤ (u270.1 0 321).toInt ∧ (u270.1 0 321).toInt ≤ 501 from (om_ff27494c0e z321 q276)) (show 0 ≤ (u270.1 0 326).toInt ∧ (u270.1 0 326).toInt ≤ 420 from (om_8ed0dedb19 z326 q277)) (show 0 ≤ (u270.1 0 373).toInt ∧ (u270.1 0 373).toInt ≤ 4000 from (om_9084c127ed z373 q278)) (show 0 ≤ (u270.1 0 381).toInt ∧ (u270.1 0 381).toInt ≤ 3008 from (om_6e4eb11ad3 z381 q279)) (show L1.length = 40 from hL1) (show L2.length = 60 from hL2) (show RP u270 from ((show FC [305, 306, 307, 314, 315, 317, 321, 326, 381] [0, 316, 318, 319, 320, 324, 325, 378, 379, 380] v u270 from (FC.tr (FC.rf _) (FC.up fr269 (by decide) (by decide)))).1 rp)) (show pr ps = ad 908 from hps) (show (u270.1 0 300) = ps from (Eq.trans (fr269.2.1 300 (by decide)) es300)) (show (u270.1 0 310) = ps from (Eq.trans (fr269.2.1 310 (by decide)) es310)) (show l.stackTraces = false from hst) (show 40 ≤ (u270.1 0 306).toInt + (n : Int) from (om_2d3a9cf1da zn q274))) tw_551 tw_552 (by decide +kernel) rfl rfl ⟨show (8 * n + 14) + 1 ≤ 8 * n + 15 from om_c0c6541b93, show 8 + (2 + 11) + 28 * (8 * n + 14) ≤ 28 * (8 * n + 15) from om_c8e428155d⟩ (List.range (cW ad pr N cI cR L1 L2 u270).length) (rg_map _) (nd_range _) 2 rfl rfl rfl rfl hl.1 rfl (Nat.le_of_ble_eq_true rfl) dX2_named_176 ⟨Nat.le_of_ble_eq_true rfl, Nat.le_of_ble_eq_true rfl⟩) hP hD hS hA (fun u9 ce9 q9 H locs hx9 hP hD hS hc9 hv9 hf9 => ?_) (fun u281 H locs hw280 hP hD hS hz8 => ?_)
              · exact vx_out (fun x h9 => (hnt x h9).elim) hlocks hc9 hv9 hf9 (fun t9 ht9 hv8 => ⟨u9, ⟨FC.tr (FC.tr (FC.rf _) (FC.up fr269 (by decide) (by decide))) hx9.1, hx9.2⟩, ⟨rfl, by rw [ht9]; exact hP, hD⟩, hS.F ht9⟩) hS.2.2 (Nat.le_refl _) (Nat.le_refl _)
              refine W.shrink (hz8.trans hz9) ?_
              obtain ⟨fr280, i306280, i321280, i326280, i381280, po280⟩ := hw280
              have i306280 : 0 ≤ (u281.1 0 306).toInt ∧ (u281.1 0 306).toInt ≤ 40 := i306280
              have i321280 : 0 ≤ (u281.1 0 321).toInt ∧ (u281.1 0 321).toInt ≤ 501 := i321280
              have i326280 : 0 ≤ (u281.1 0 326).toInt ∧ (u281.1 0 326).toInt ≤ 420 := i326280
              have i381280 : 0 ≤ (u281.1 0 381).toInt ∧ (u281.1 0 381).toInt ≤ 3008 := i381280
              have po280 : (u281.1 0 306).toInt = (u270.1 0 306).toInt := po280
              refine lv_iload_n hx hb dX2_named_179 rfl (lv_at hl 6 rfl) ?_
              refine lv_if_eq (tgt := 207) hx hb dX2_named_180 (by decide) (fun h283 => ?_) (fun h283 => ?_)
              · have z284 : pa.toInt = (0 : Int) := eq_z rfl (show (0 : Int32).toInt = (0 : Int) by decide) h283
                refine lv_iload hx hb dX2_named_207 (lv_at hl 0 rfl) ?_
                refine lv_if_eq (tgt := 227) hx hb dX2_named_209 (by decide) (fun k285 => absurd k285 (by decide)) (fun _ => ?_)
                refine lv_aload_n hx hb dX2_named_212 rfl (lv_at hl 5 rfl) ?_
                refine va_get (D := (dC, dI)) (ci := 6) (fs := oF_X2 ad pr u281) (v := .ref (ad 901)) (C := RX2) (T := TX2) (N := 5) hx hb ht itX2 hown hK hP 2 rfl rfl 1 (by decide) (ht _ tw_498) (fun _ h9 => h9) rfl dX2_named_213 ?_
                refine lv_bipush (v := 8) hx hb dX2_named_216 (by decide) ?_
                refine lv_iload hx hb dX2_named_218 (lv_at hl 2 rfl) ?_
                refine lv_iconst (v := 0) hx hb dX2_named_220 (by decide) ?_
                refine cu_v (rn_Vk (n := 3) (As := [.int 8, .int r155, .int 0]) (rest := []) hx hb hml hown ht hKK hFx hP hD hS hA (c_x_X1_add l dC dI cI cB cZ cJ cR tb H.size ad pr N L1 L2 u281 (8 : Int32) r155 (0 : Int32) ps (show 0 ≤ (u281.1 0 381).toInt ∧ (u281.1 0 381).toInt ≤ 3008 from (om_e78eec72e1 i381280)) (show pr ps = ad 908 from hps) (show (u281.1 0 310) = ps from (Eq.trans (fr280.2.1 310 (by decide)) (Eq.trans (fr269.2.1 310 (by decide)) es310)))) tw_499 tw_500 (by decide +kernel) rfl rfl ⟨show 0 + 1 ≤ 8 * n + 15 from om_fce2c17b78, show 8 + (5 + 11) + 0 ≤ 28 * (8 * n + 15) from om_bbd2f5c798⟩ (List.range (cW ad pr N cI cR L1 L2 u281).length) (rg_map _) (nd_range _) 1 rfl rfl rfl rfl hl.1 rfl (Nat.le_of_ble_eq_true rfl) dX2_named_221 ⟨Nat.le_of_ble_eq_true rfl, Nat.le_of_ble_eq_true rfl⟩) hP hD hS hA (fun u287 H locs hw286 hP hD hS => ?_)
                obtain ⟨fr286, i381286⟩ := hw286
                have i381286 : 0 ≤ (u287.1 0 381).toInt ∧ (u287.1 0 381).toInt ≤ 3008 := i381286
                refine W.widen (k := 0) (n := 0) (Nat.le_refl _) (Nat.le_refl _) ?_
                refine lv_goto (tgt := 234) hx hb dX2_named_224 (by decide) ?_
                refine lv_iconst (v := 0) hx hb dX2_named_234 (by decide) ?_
                have q289 : (u287.1 0 306).toInt = (u281.1 0 306).toInt := congrArg Int32.toInt ((fr286.2.1 306 (by decide)).trans (show u281.1 0 306 = (u281.1 0 306) by rfl))
                have q290 : (u287.1 0 321).toInt = (u281.1 0 321).toInt := congrArg Int32.toInt ((fr286.2.1 321 (by decide)).trans (show u281.1 0 321 = (u281.1 0 321) by rfl))
                have q291 : (u287.1 0 326).toInt = (u281.1 0 326).toInt := congrArg Int32.toInt ((fr286.2.1 326 (by decide)).trans (show u281.1 0 326 = (u281.1 0 326) by rfl))
                refine W.sz (fun hz => ?_)
                refine vx_ret ?_
                refine W.widen (k := 1) (n := 6) (Nat.le_of_ble_eq_true rfl) (Nat.le_of_ble_eq_true rfl) ?_
                exact W.zret (v := 0) hx hb hr rfl (fun t ht9 hW => ⟨⟨0, u287, rfl, ⟨(FC.tr (FC.tr (FC.tr (FC.rf _) (FC.up fr269 (by decide) (by decide))) (FC.up fr280 (by decide) (by decide))) (FC.up fr286 (by decide) (by decide))), (show 0 ≤ (u287.1 0 306).toInt ∧ (u287.1 0 306).toInt ≤ 40 from (om_99e115f631 i306280 q289)), (show 0 ≤ (u287.1 0 321).toInt ∧ (u287.1 0 321).toInt ≤ 501 from (om_ff27494c0e i321280 q290)), (show 0 ≤ (u287.1 0 326).toInt ∧ (u287.1 0 326).toInt ≤ 420 from (om_8ed0dedb19 i326280 q291)), (show 0 ≤ (u287.1 0 381).toInt ∧ (u287.1 0 381).toInt ≤ 3008 from (om_e78eec72e1 i381286)), (show (u287.1 0 306).toInt = (v.1 0 306).toInt from (om_698eb7995a q274 po280 q289)), (Or.inl rfl)⟩, ⟨by rw [ht9]; exact hP, hD⟩, by rw [ht9]; exact hz⟩, hS.F ht9⟩) hS.2.2 dX2_named_235
              · have z292 : pa.toInt ≠ (0 : Int) := ne_z rfl (show (0 : Int32).toInt = (0 : Int) by decide) h283
                refine lv_aload_n hx hb dX2_named_183 rfl (lv_at hl 5 rfl) ?_
                refine va_get (D := (dC, dI)) (ci := 6) (fs := oF_X2 ad pr u281) (v := .ref (ad 900)) (C := RX2) (T := TX2) (N := 5) hx hb ht itX2 hown hK hP 2 rfl rfl 0 (by decide) (ht _ tw_509) (fun _ h9 => h9) rfl dX2_named_184 ?_
                have q293 : (u281.1 0 304).toInt = (u270.1 0 304).toInt := congrArg Int32.toInt ((fr280.2.1 304 (by decide)).trans (show u270.1 0 304 = (u270.1 0 304) by rfl))
                refine cu_i (rn_Vk (n := 0) (As := []) (rest := []) hx hb hml hown ht hKK hFx hP hD hS hA (c_x_X9_kind l dC dI cI cB cZ cJ cR tb H.size ad pr N L1 L2 u281  (show 0 ≤ (u281.1 0 304).toInt ∧ (u281.1 0 304).toInt ≤ 1503 from (om_dd87ee851a z304 q273 q293))) tw_455 tw_532 (by decide +kernel) rfl rfl ⟨show 0 + 1 ≤ 8 * n + 15 from om_fce2c17b78, show 8 + (1 + 11) + 0 ≤ 28 * (8 * n + 15) from om_bca265e904⟩ (List.range (cW ad pr N cI cR L1 L2 u281).length) (rg_map _) (nd_range _) 0 rfl rfl rfl rfl hl.1 rfl (Nat.le_of_ble_eq_true rfl) dX2_named_187 ⟨Nat.le_of_ble_eq_true rfl, Nat.le_of_ble_eq_true rfl⟩) hP hD hS hA (fun r296 u295 H locs hw294 hP hD hS => ?_)
                obtain rfl := hw294
                refine W.widen (k := 0) (n := 0) (Nat.le_refl _) (Nat.le_refl _) ?_
                refine cu_s (nd_range _) (rn_S (n := 1) (As := [.int r296]) (rest := []) hx hb hml hown ht hKK hFx hP hD hS hA (c_x_X9_isSet l dC dI cI cB cZ cJ cR tb H.size r296 ) tw_547 tw_548 (by decide +kernel) rfl rfl ⟨show 0 + 1 ≤ 8 * n + 15 from om_fce2c17b78, show 8 + (1 + 11) + 0 ≤ 28 * (8 * n + 15) from om_bca265e904⟩ [] rfl rfl rfl hl.1 rfl (Nat.le_of_ble_eq_true rfl) dX2_named_190 ⟨Nat.le_of_ble_eq_true rfl, Nat.le_of_ble_eq_true rfl⟩) hP hD hS hA (fun r299 H locs hw297 hP hD hS => ?_)
                obtain ⟨b297, e297⟩ := hw297
                have b297 : (r299 = 0 ∨ r299 = 1) := b297
                have e297 : (0 ≤ r299.toInt ∧ r299.toInt ≤ 1) := e297
                refine W.widen (k := 0) (n := 0) (Nat.le_refl _) (Nat.le_refl _) ?_
                refine lv_if_eq (tgt := 207) hx hb dX2_named_193 (by decide) (fun h300 => ?_) (fun h300 => ?_)
                · have z301 : r299.toInt = (0 : Int) := eq_z rfl (show (0 : Int32).toInt = (0 : Int) by decide) h300
                  refine lv_iload hx hb dX2_named_207 (lv_at hl 0 rfl) ?_
                  refine lv_if_eq (tgt := 227) hx hb dX2_named_209 (by decide) (fun k302 => absurd k302 (by decide)) (fun _ => ?_)
                  refine lv_aload_n hx hb dX2_named_212 rfl (lv_at hl 5 rfl) ?_
                  refine va_get (D := (dC, dI)) (ci := 6) (fs := oF_X2 ad pr u281) (v := .ref (ad 901)) (C := RX2) (T := TX2) (N := 5) hx hb ht itX2 hown hK hP 2 rfl rfl 1 (by decide) (ht _ tw_498) (fun _ h9 => h9) rfl dX2_named_213 ?_
                  refine lv_bipush (v := 8) hx hb dX2_named_216 (by decide) ?_
                  refine lv_iload hx hb dX2_named_218 (lv_at hl 2 rfl) ?_
                  refine lv_iconst (v := 0) hx hb dX2_named_220 (by decide) ?_
                  refine cu_v (rn_Vk (n := 3) (As := [.int 8, .int r155, .int 0]) (rest := []) hx hb hml hown ht hKK hFx hP hD hS hA (c_x_X1_add l dC dI cI cB cZ cJ cR tb H.size ad pr N L1 L2 u281 (8 : Int32) r155 (0 : Int32) ps (show 0 ≤ (u281.1 0 381).toInt ∧ (u281.1 0 381).toInt ≤ 3008 from (om_e78eec72e1 i381280)) (show pr ps = ad 908 from hps) (show (u281.1 0 310) = ps from (Eq.trans (fr280.2.1 310 (by decide)) (Eq.trans (fr269.2.1 310 (by decide)) es310)))) tw_499 tw_500 (by decide +kernel) rfl rfl ⟨show 0 + 1 ≤ 8 * n + 15 from om_fce2c17b78, show 8 + (5 + 11) + 0 ≤ 28 * (8 * n + 15) from om_bbd2f5c798⟩ (List.range (cW ad pr N cI cR L1 L2 u281).length) (rg_map _) (nd_range _) 1 rfl rfl rfl rfl hl.1 rfl (Nat.le_of_ble_eq_true rfl) dX2_named_221 ⟨Nat.le_of_ble_eq_true rfl, Nat.le_of_ble_eq_true rfl⟩) hP hD hS hA (fun u304 H locs hw303 hP hD hS => ?_)
                  obtain ⟨fr303, i381303⟩ := hw303
                  have i381303 : 0 ≤ (u304.1 0 381).toInt ∧ (u304.1 0 381).toInt ≤ 3008 := i381303
                  refine W.widen (k := 0) (n := 0) (Nat.le_refl _) (Nat.le_refl _) ?_
                  refine lv_goto (tgt := 234) hx hb dX2_named_224 (by decide) ?_
                  refine lv_iconst (v := 0) hx hb dX2_named_234 (by decide) ?_
                  have q306 : (u304.1 0 306).toInt = (u281.1 0 306).toInt := congrArg Int32.toInt ((fr303.2.1 306 (by decide)).trans (show u281.1 0 306 = (u281.1 0 306) by rfl))
                  have q307 : (u304.1 0 321).toInt = (u281.1 0 321).toInt := congrArg Int32.toInt ((fr303.2.1 321 (by decide)).trans (show u281.1 0 321 = (u281.1 0 321) by rfl))
                  have q308 : (u304.1 0 326).toInt = (u281.1 0 326).toInt := congrArg Int32.toInt ((fr303.2.1 326 (by decide)).trans (show u281.1 0 326 = (u281.1 0 326) by rfl))
                  refine W.sz (fun hz => ?_)
                  refine vx_ret ?_
                  refine W.widen (k := 1) (n := 6) (Nat.le_of_ble_eq_true rfl) (Nat.le_of_ble_eq_true rfl) ?_
                  exact W.zret (v := 0) hx hb hr rfl (fun t ht9 hW => ⟨⟨0, u304, rfl, ⟨(FC.tr (FC.tr (FC.tr (FC.rf _) (FC.up fr269 (by decide) (by decide))) (FC.up fr280 (by decide) (by decide))) (FC.up fr303 (by decide) (by decide))), (show 0 ≤ (u304.1 0 306).toInt ∧ (u304.1 0 306).toInt ≤ 40 from (om_99e115f631 i306280 q306)), (show 0 ≤ (u304.1 0 321).toInt ∧ (u304.1 0 321).toInt ≤ 501 from (om_ff27494c0e i321280 q307)), (show 0 ≤ (u304.1 0 326).toInt ∧ (u304.1 0 326).toInt ≤ 420 from (om_8ed0dedb19 i326280 q308)), (show 0 ≤ (u304.1 0 381).toInt ∧ (u304.1 0 381).toInt ≤ 3008 from (om_e78eec72e1 i381303)), (show (u304.1 0 306).toInt = (v.1 0 306).toInt from (om_698eb7995a q274 po280 q306)), (Or.inl rfl)⟩, ⟨by rw [ht9]; exact hP, hD⟩, by rw [ht9]; exact hz⟩, hS.F ht9⟩) hS.2.2 dX2_named_235
                · have z309 : r299.toInt ≠ (0 : Int) := ne_z rfl (show (0 : Int32).toInt = (0 : Int) by decide) h300
                  refine lv_aload_n hx hb dX2_named_196 rfl (lv_at hl 5 rfl) ?_
                  refine lv_iload_n hx hb dX2_named_197 rfl (lv_at hl 3 rfl) ?_
                  refine lv_iload hx hb dX2_named_198 (lv_at hl 2 rfl) ?_
                  refine lv_iload hx hb dX2_named_200 (lv_at hl 0 rfl) ?_
                  have q310 : (u281.1 0 312).toInt = (u270.1 0 312).toInt := congrArg Int32.toInt ((fr280.2.1 312 (by decide)).trans (show u270.1 0 312 = (u270.1 0 312) by rfl))
                  have q311 : (u281.1 0 373).toInt = (u270.1 0 373).toInt := congrArg Int32.toInt ((fr280.2.1 373 (by decide)).trans (show u270.1 0 373 = (u270.1 0 373) by rfl))
                  refine W.sz (fun hz9 => ?_)
                  refine czx_v (rx_Vk (n := 3) (As := [.int r9, .int r155, .int 1]) (rest := []) hx hb hml hown ht hKK hFx hP hD hS hA (c_x_X2_change l n ihE dC dI cI cB cZ cJ cR tb H.size ad pr N L1 L2 u281 r9 r155 (1 : Int32) ps (show 0 ≤ (u281.1 0 304).toInt ∧ (u281.1 0 304).toInt ≤ 1503 from (om_dd87ee851a z304 q273 q293)) (show 0 ≤ (u281.1 0 306).toInt ∧ (u281.1 0 306).toInt ≤ 40 from (om_7eaf33e007 i306280)) (show 0 ≤ (u281.1 0 312).toInt ∧ (u281.1 0 312).toInt ≤ 500 from (om_8a5975ec21 z312 q275 q310)) (show 0 ≤ (u281.1 0 321).toInt ∧ (u281.1 0 321).toInt ≤ 501 from (om_e1d35f5faf i321280)) (show 0 ≤ (u281.1 0 326).toInt ∧ (u281.1 0 326).toInt ≤ 420 from (om_839d7ed7dd i326280)) (show 0 ≤ (u281.1 0 373).toInt ∧ (u281.1 0 373).toInt ≤ 4000 from (om_03cd8767ac z373 q278 q311)) (show 0 ≤ (u281.1 0 381).toInt ∧ (u281.1 0 381).toInt ≤ 3008 from (om_e78eec72e1 i381280)) (show L1.length = 40 from hL1) (show L2.length = 60 from hL2) (show RP u281 from ((show FC [305, 306, 307, 314, 315, 317, 321, 326, 381] [0, 316, 318, 319, 320, 324, 325, 378, 379, 380] v u281 from (FC.tr (FC.tr (FC.rf _) (FC.up fr269 (by decide) (by decide))) (FC.up fr280 (by decide) (by decide)))).1 rp)) (show pr ps = ad 908 from hps) (show (u281.1 0 300) = ps from (Eq.trans (fr280.2.1 300 (by decide)) (Eq.trans (fr269.2.1 300 (by decide)) es300))) (show (u281.1 0 310) = ps from (Eq.trans (fr280.2.1 310 (by decide)) (Eq.trans (fr269.2.1 310 (by decide)) es310))) (show l.stackTraces = false from hst) (show 40 ≤ (u281.1 0 306).toInt + (n : Int) from (om_ec198adb23 zn q274 po280))) tw_549 tw_550 (by decide +kernel) rfl rfl ⟨show (8 * n + 14) + 1 ≤ 8 * n + 15 from om_c0c6541b93, show 8 + (7 + 11) + 28 * (8 * n + 14) ≤ 28 * (8 * n + 15) from om_fb93e872bb⟩ (List.range (cW ad pr N cI cR L1 L2 u281).length) (rg_map _) (nd_range _) 2 rfl rfl rfl rfl hl.1 rfl (Nat.le_of_ble_eq_true rfl) dX2_named_202 ⟨Nat.le_of_ble_eq_true rfl, Nat.le_of_ble_eq_true rfl⟩) hP hD hS hA (fun u9 ce9 q9 H locs hx9 hP hD hS hc9 hv9 hf9 => ?_) (fun u313 H locs hw312 hP hD hS hz8 => ?_)
                  · exact vx_out (fun x h9 => (hnt x h9).elim) hlocks hc9 hv9 hf9 (fun t9 ht9 hv8 => ⟨u9, ⟨FC.tr (FC.tr (FC.tr (FC.rf _) (FC.up fr269 (by decide) (by decide))) (FC.up fr280 (by decide) (by decide))) hx9.1, hx9.2⟩, ⟨rfl, by rw [ht9]; exact hP, hD⟩, hS.F ht9⟩) hS.2.2 (Nat.le_refl _) (Nat.le_refl _)
                  refine W.shrink (hz8.trans hz9) ?_
                  obtain ⟨fr312, i306312, i321312, i326312, i381312, po312⟩ := hw312
                  have i306312 : 0 ≤ (u313.1 0 306).toInt ∧ (u313.1 0 306).toInt ≤ 40 := i306312
                  have i321312 : 0 ≤ (u313.1 0 321).toInt ∧ (u313.1 0 321).toInt ≤ 501 := i321312
                  have i326312 : 0 ≤ (u313.1 0 326).toInt ∧ (u313.1 0 326).toInt ≤ 420 := i326312
                  have i381312 : 0 ≤ (u313.1 0 381).toInt ∧ (u313.1 0 381).toInt ≤ 3008 := i381312
                  have po312 : (u313.1 0 306).toInt = (u281.1 0 306).toInt := po312
                  refine lv_iconst (v := 1) hx hb dX2_named_205 (by decide) ?_
                  refine W.sz (fun hz => ?_)
                  refine vx_ret ?_
                  refine W.widen (k := 1) (n := 6) (Nat.le_of_ble_eq_true rfl) (Nat.le_of_ble_eq_true rfl) ?_
                  exact W.zret (v := 1) hx hb hr rfl (fun t ht9 hW => ⟨⟨1, u313, rfl, ⟨(FC.tr (FC.tr (FC.tr (FC.rf _) (FC.up fr269 (by decide) (by decide))) (FC.up fr280 (by decide) (by decide))) (FC.up fr312 (by decide) (by decide))), (show 0 ≤ (u313.1 0 306).toInt ∧ (u313.1 0 306).toInt ≤ 40 from (om_7eaf33e007 i306312)), (show 0 ≤ (u313.1 0 321).toInt ∧ (u313.1 0 321).toInt ≤ 501 from (om_e1d35f5faf i321312)), (show 0 ≤ (u313.1 0 326).toInt ∧ (u313.1 0 326).toInt ≤ 420 from (om_839d7ed7dd i326312)), (show 0 ≤ (u313.1 0 381).toInt ∧ (u313.1 0 381).toInt ≤ 3008 from (om_e78eec72e1 i381312)), (show (u313.1 0 306).toInt = (v.1 0 306).toInt from (om_698eb7995a q274 po280 po312)), (Or.inr rfl)⟩, ⟨by rw [ht9]; exact hP, hD⟩, by rw [ht9]; exact hz⟩, hS.F ht9⟩) hS.2.2 dX2_named_206
        · have z315 : r3.toInt = (30 : Int) := eq_z rfl (show (30 : Int32).toInt = (30 : Int) by decide) h189
          refine lv_iload hx hb dX2_named_75 (lv_at hl 0 rfl) ?_
          refine lv_if_eq (tgt := 95) hx hb dX2_named_77 (by decide) (fun k316 => absurd k316 (by decide)) (fun _ => ?_)
          refine lv_aload_n hx hb dX2_named_80 rfl (lv_at hl 4 rfl) ?_
          refine va_get (D := (dC, dI)) (ci := 6) (fs := oF_X2 ad pr v) (v := .ref (ad 900)) (C := RX2) (T := TX2) (N := 5) hx hb ht itX2 hown hK hP 2 rfl rfl 0 (by decide) (ht _ tw_509) (fun _ h9 => h9) rfl dX2_named_81 ?_
          refine lv_iconst (v := 3) hx hb dX2_named_84 (by decide) ?_
          refine lv_aload_n hx hb dX2_named_85 rfl (lv_at hl 4 rfl) ?_
          refine va_get (D := (dC, dI)) (ci := 6) (fs := oF_X2 ad pr v) (v := .ref (ad 900)) (C := RX2) (T := TX2) (N := 5) hx hb ht itX2 hown hK hP 2 rfl rfl 0 (by decide) (ht _ tw_509) (fun _ h9 => h9) rfl dX2_named_86 ?_
          refine cu_i (rn_Vk (n := 0) (As := []) (rest := [.int 3, .ref (ad 900)]) hx hb hml hown ht hKK hFx hP hD hS hA (c_x_X9_place l dC dI cI cB cZ cJ cR tb H.size ad pr N L1 L2 v ps (show 0 ≤ (v.1 0 304).toInt ∧ (v.1 0 304).toInt ≤ 1503 from (om_c99648273b z304)) (show 0 ≤ (v.1 0 373).toInt ∧ (v.1 0 373).toInt ≤ 4000 from (om_c74a68af25 z373)) (show pr ps = ad 908 from hps) (show (v.1 0 300) = ps from es300)) tw_457 tw_510 (by decide +kernel) rfl rfl ⟨show 0 + 1 ≤ 8 * n + 15 from om_fce2c17b78, show 8 + (1 + 11) + 0 ≤ 28 * (8 * n + 15) from om_bca265e904⟩ (List.range (cW ad pr N cI cR L1 L2 v).length) (rg_map _) (nd_range _) 0 rfl rfl rfl rfl hl.1 rfl (Nat.le_of_ble_eq_true rfl) dX2_named_89 ⟨Nat.le_of_ble_eq_true rfl, Nat.le_of_ble_eq_true rfl⟩) hP hD hS hA (fun r319 u318 H locs hw317 hP hD hS => ?_)
          obtain rfl := hw317
          refine W.widen (k := 0) (n := 0) (Nat.le_refl _) (Nat.le_refl _) ?_
          refine W.sz (fun hz9 => ?_)
          refine czx_v (rx_Vk (n := 2) (As := [.int 3, .int r319]) (rest := []) hx hb hml hown ht hKK hFx hP hD hS hA (c_x_X9_refuse l dC dI cI cB cZ cJ cR tb H.size ad pr N L1 L2 v (3 : Int32) r319 (show l.stackTraces = false from hst) (show (3 : Int) ≠ 0 from om_59881768ad)) tw_459 tw_511 (by decide +kernel) rfl rfl ⟨show 6 + 1 ≤ 8 * n + 15 from om_838586afae, show 8 + (3 + 11) + 82 ≤ 28 * (8 * n + 15) from om_41a9d63453⟩ (List.range (cW ad pr N cI cR L1 L2 v).length) (rg_map _) (nd_range _) 0 rfl rfl rfl rfl hl.1 rfl (Nat.le_of_ble_eq_true rfl) dX2_named_92 ⟨Nat.le_of_ble_eq_true rfl, Nat.le_of_ble_eq_true rfl⟩) hP hD hS hA (fun u9 ce9 q9 H locs hx9 hP hD hS hc9 hv9 hf9 => ?_) (fun u321 H locs hw320 hP hD hS hz8 => ?_)
          · exact vx_out (fun x h9 => (hnt x h9).elim) hlocks hc9 hv9 hf9 (fun t9 ht9 hv8 => ⟨u9, ⟨FC.tr (FC.rf _) hx9.1, hx9.2⟩, ⟨rfl, by rw [ht9]; exact hP, hD⟩, hS.F ht9⟩) hS.2.2 (Nat.le_refl _) (Nat.le_refl _)
          refine W.shrink (hz8.trans hz9) ?_
          obtain ⟨fr320, no320⟩ := hw320
          exact no320.elim
theorem om_ae1d63f123 {n0 : Nat} : 0 + 1 ≤ 8 * n0 + 16 := by omega
theorem om_e9b1f44c62 {n0 : Nat} : 8 + (1 + 11) + 0 ≤ 28 * (8 * n0 + 16) := by omega
theorem om_e4ab3742b2 {n0 : Nat} : (8 * n0 + 15) + 1 ≤ 8 * n0 + 16 := by omega
theorem om_b6bf2dd701 {n0 : Nat} : 8 + (7 + 11) + 28 * (8 * n0 + 15) ≤ 28 * (8 * n0 + 16) := by omega
theorem om_c598daa799 {n0 : Nat} : 8 + (5 + 11) + 0 ≤ 28 * (8 * n0 + 16) := by omega
theorem om_80738ea86d {n0 : Nat} : 7 + 1 ≤ 8 * n0 + 16 := by omega
theorem om_4c5be64de3 {n0 : Nat} : 8 + (1 + 11) + 104 ≤ 28 * (8 * n0 + 16) := by omega
theorem om_65a2264104 {n0 : Nat} : 6 + 1 ≤ 8 * n0 + 16 := by omega
theorem om_65f670dc44 {n0 : Nat} : 8 + (3 + 11) + 82 ≤ 28 * (8 * n0 + 16) := by omega
theorem om_6c7d6f0de2 {n0 : Nat} : 8 + (2 + 11) + 104 ≤ 28 * (8 * n0 + 16) := by omega
theorem om_69473c0e90 {x0 x1 x2 x3 x4 x5 x6 : Int} (h0 : 0 ≤ x0 ∧ x0 ≤ 501) (h1 : x1 = x0) (h2 : x2 = x1) (h3 : x3 = x2) (h4 : x4 = x3) (h5 : x5 = x4) (h6 : x6 = x5) : 0 ≤ x6 ∧ x6 ≤ 501 := by omega
theorem om_c2eb7aaa98 {n0 n1 : Nat} (h0 : n0 = n1 + 1) : (8 * n1 + 20) + 1 ≤ 8 * n0 + 16 := by omega
theorem om_c2d39c1233 {n0 n1 : Nat} (h0 : n0 = n1 + 1) : 8 + (5 + 11) + 28 * (8 * n1 + 20) ≤ 28 * (8 * n0 + 16) := by omega
theorem om_4fee7d990b {x0 x1 x2 x3 x4 : Int} (h0 : x0 = x1 + 1) (h1 : x2 = x0) (h2 : x3 = x2) (h3 : x4 = x3 - 1) : x4 = x1 := by omega
theorem om_05cf7bd78c {n0 : Nat} : (8 * n0 + 14) + 1 ≤ 8 * n0 + 16 := by omega
theorem om_e3c8a2a66c {n0 : Nat} : 8 + (2 + 11) + 28 * (8 * n0 + 14) ≤ 28 * (8 * n0 + 16) := by omega
set_option maxHeartbeats 16000000 in
set_option maxRecDepth 100000 in
theorem c_x_X2_operand (l : Launch) (n : Nat) (ihE : ∀ m, n = m + 1 → Cq_expression l m) (ihO : ∀ m, n = m + 1 → Cq_operand l m) (dC : Nat → ClassId) (dI : Nat → Nat → Nat) (cI cB cZ cJ cR : ClassId) (tb : Nat → Nat) (sz : Nat) (ad : Nat → Nat) (pr : Int32 → Nat) (N : Nat) (L1 L2 : List Nat) (v : MS) (pa : Int32) (ps : Int32) (z304 : 0 ≤ (v.1 0 304).toInt ∧ (v.1 0 304).toInt ≤ 1503) (z306 : 0 ≤ (v.1 0 306).toInt ∧ (v.1 0 306).toInt ≤ 40) (z312 : 0 ≤ (v.1 0 312).toInt ∧ (v.1 0 312).toInt ≤ 500) (z321 : 0 ≤ (v.1 0 321).toInt ∧ (v.1 0 321).toInt ≤ 501) (z326 : 0 ≤ (v.1 0 326).toInt ∧ (v.1 0 326).toInt ≤ 420) (z373 : 0 ≤ (v.1 0 373).toInt ∧ (v.1 0 373).toInt ≤ 4000) (z381 : 0 ≤ (v.1 0 381).toInt ∧ (v.1 0 381).toInt ≤ 3008) (hL1 : L1.length = 40) (hL2 : L2.length = 60) (rp : RP v) (hps : pr ps = ad 908) (es300 : (v.1 0 300) = ps) (es310 : (v.1 0 310) = ps) (hst : l.stackTraces = false) (zn : 40 ≤ (v.1 0 306).toInt + (n : Int)) : vx_Met l yX2_operand (Cond.code yX2_operand cX2_operand 2 (some .boolean) :: tw_W) ({ frames := 8 * n + 16, cells := 1, slots := 6, locals := 28 * (8 * n + 16) }) (pc_ (dC, dI) (tyS cI cB cZ cJ cR) tb (cW ad pr N cI cR L1 L2 v) sz [.ref (ad 902), .int pa]) (qiz_ (dC, dI) (cW ad pr N cI cR L1 L2 v) sz (fun (r : Int32) (u : MS) => FC [305, 306, 307, 314, 315, 317, 321, 326, 381] [0, 316, 318, 319, 320, 324, 325, 378, 379, 380] v u ∧ (0 ≤ (u.1 0 306).toInt ∧ (u.1 0 306).toInt ≤ 40) ∧ (0 ≤ (u.1 0 321).toInt ∧ (u.1 0 321).toInt ≤ 501) ∧ (0 ≤ (u.1 0 326).toInt ∧ (u.1 0 326).toInt ≤ 420) ∧ (0 ≤ (u.1 0 381).toInt ∧ (u.1 0 381).toInt ≤ 3008) ∧ ((u.1 0 306).toInt = (v.1 0 306).toInt) ∧ (r = 0 ∨ r = 1)) (fun (u : MS) => (cW ad pr N cI cR L1 L2 u))) (qxc (dC, dI) (cW ad pr N cI cR L1 L2 v) sz (fun (u : MS) => (cW ad pr N cI cR L1 L2 u)) (fun (u : MS) => FC xfl xal v u ∧ (u.1 0 308).toInt ≠ 0)) 1 6 (va_A (cW ad pr N cI cR L1 L2 v) sz) := by
  refine vx_ofW (cc := cX2_operand) (maxL := 2) (ret := (some .boolean)) (by decide) rfl ?_
  intro p e s m args below meth c s₁ B hml hnt hv
  obtain ⟨rfl, hsz, hP, hKK, hD0, hFx⟩ := hv
  have hK := hKK.1
  have hx := B.exec
  have hb := B.bytes
  have hr := B.returns
  have ht : ∀ w ∈ tw_W, w.before _ s = true := fun w h => atoms_spec (ws := Cond.code yX2_operand cX2_operand 2 (some .boolean) :: tw_W) B.pre w (List.mem_cons_of_mem _ h)
  have hown : s.vm.findClass RX2 = some m.cls := findClass_of_methodNamed B.named
  have hlocks := B.notSynchronized
  subst hsz
  unfold qiz_ qxc
  have hD := hD0.self (sz := s.heap.size)
  generalize hAe : va_A (cW ad pr N cI cR L1 L2 v) s.heap.size = A at hD hFx ⊢
  have hA : ∀ q : Nat, s.heap.size ≤ q → A q := fun q h => by rw [← hAe]; exact Or.inr h
  have hS : va_S A s.heap s.heap [] := va_S.rf
  have hl := lv_entry ([.ref (ad 902), .int pa]) (n := 2) (Nat.le_of_ble_eq_true rfl)
  rw [lg_entry_eq]
  generalize (lg_sl ([.ref (ad 902), .int pa]) ++ List.replicate (2 - (lg_sl ([.ref (ad 902), .int pa])).length) Slot.unset).toArray = ls at hl ⊢
  have hl : lv_has ls 2 [(0, .ref (ad 902)), (1, .int pa)] := hl
  refine lv_aload_n hx hb dX2_operand_0 rfl (lv_at hl 0 rfl) ?_
  refine va_get (D := (dC, dI)) (ci := 6) (fs := oF_X2 ad pr v) (v := .ref (ad 900)) (C := RX2) (T := TX2) (N := 5) hx hb ht itX2 hown hK hP 2 rfl rfl 0 (by decide) (ht _ tw_509) (fun _ h9 => h9) rfl dX2_operand_1 ?_
  refine cu_i (rn_Vk (n := 0) (As := []) (rest := []) hx hb hml hown ht hKK hFx hP hD hS hA (c_x_X9_kind l dC dI cI cB cZ cJ cR tb s.heap.size ad pr N L1 L2 v  (show 0 ≤ (v.1 0 304).toInt ∧ (v.1 0 304).toInt ≤ 1503 from (om_c99648273b z304))) tw_455 tw_532 (by decide +kernel) rfl rfl ⟨show 0 + 1 ≤ 8 * n + 16 from om_ae1d63f123, show 8 + (1 + 11) + 0 ≤ 28 * (8 * n + 16) from om_e9b1f44c62⟩ (List.range (cW ad pr N cI cR L1 L2 v).length) (rg_map _) (nd_range _) 0 rfl rfl rfl rfl hl.1 rfl (Nat.le_of_ble_eq_true rfl) dX2_operand_4 ⟨Nat.le_of_ble_eq_true rfl, Nat.le_of_ble_eq_true rfl⟩) hP hD hS hA (fun r3 u2 H locs hw1 hP hD hS => ?_)
  obtain rfl := hw1
  refine W.widen (k := 0) (n := 0) (Nat.le_refl _) (Nat.le_refl _) ?_
  by_cases h4 : r3 = 2
  · refine lv_lookup (off := 229) (tgt := 236) hx hb dX2_operand_7 (by decide) (by rw [h4]; decide) (by decide) ?_
    refine lv_aload_n hx hb dX2_operand_236 rfl (lv_at hl 0 rfl) ?_
    refine lv_iload_n hx hb dX2_operand_237 rfl (lv_at hl 1 rfl) ?_
    refine W.sz (fun hz9 => ?_)
    refine czx_i (rx_Vk (n := 1) (As := [.int pa]) (rest := []) hx hb hml hown ht hKK hFx hP hD hS hA (c_x_X2_named l n ihE dC dI cI cB cZ cJ cR tb H.size ad pr N L1 L2 v pa ps (show 0 ≤ (v.1 0 304).toInt ∧ (v.1 0 304).toInt ≤ 1503 from (om_c99648273b z304)) (show 0 ≤ (v.1 0 306).toInt ∧ (v.1 0 306).toInt ≤ 40 from (om_7eaf33e007 z306)) (show 0 ≤ (v.1 0 312).toInt ∧ (v.1 0 312).toInt ≤ 500 from (om_9861e69da5 z312)) (show 0 ≤ (v.1 0 321).toInt ∧ (v.1 0 321).toInt ≤ 501 from (om_e1d35f5faf z321)) (show 0 ≤ (v.1 0 326).toInt ∧ (v.1 0 326).toInt ≤ 420 from (om_839d7ed7dd z326)) (show 0 ≤ (v.1 0 373).toInt ∧ (v.1 0 373).toInt ≤ 4000 from (om_c74a68af25 z373)) (show 0 ≤ (v.1 0 381).toInt ∧ (v.1 0 381).toInt ≤ 3008 from (om_e78eec72e1 z381)) (show L1.length = 40 from hL1) (show L2.length = 60 from hL2) (show RP v from rp) (show pr ps = ad 908 from hps) (show (v.1 0 300) = ps from es300) (show (v.1 0 310) = ps from es310) (show l.stackTraces = false from hst) (show 40 ≤ (v.1 0 306).toInt + (n : Int) from (om_a9150ae9b6 zn))) tw_557 tw_558 (by decide +kernel) rfl rfl ⟨show (8 * n + 15) + 1 ≤ 8 * n + 16 from om_e4ab3742b2, show 8 + (7 + 11) + 28 * (8 * n + 15) ≤ 28 * (8 * n + 16) from om_b6bf2dd701⟩ (List.range (cW ad pr N cI cR L1 L2 v).length) (rg_map _) (nd_range _) 2 rfl rfl rfl rfl hl.1 rfl (Nat.le_of_ble_eq_true rfl) dX2_operand_238 ⟨Nat.le_of_ble_eq_true rfl, Nat.le_of_ble_eq_true rfl⟩) hP hD hS hA (fun u9 ce9 q9 H locs hx9 hP hD hS hc9 hv9 hf9 => ?_) (fun r7 u6 H locs hw5 hP hD hS hz8 => ?_)
    · exact vx_out (fun x h9 => (hnt x h9).elim) hlocks hc9 hv9 hf9 (fun t9 ht9 hv8 => ⟨u9, ⟨FC.tr (FC.rf _) hx9.1, hx9.2⟩, ⟨rfl, by rw [ht9]; exact hP, hD⟩, hS.F ht9⟩) hS.2.2 (Nat.le_refl _) (Nat.le_refl _)
    refine W.shrink (hz8.trans hz9) ?_
    obtain ⟨fr5, i3065, i3215, i3265, i3815, po5, bz5⟩ := hw5
    refine W.sz (fun hz => ?_)
    refine vx_ret ?_
    refine W.widen (k := 1) (n := 6) (Nat.le_of_ble_eq_true rfl) (Nat.le_of_ble_eq_true rfl) ?_
    exact W.zret (v := r7) hx hb hr (bz_ bz5) (fun t ht9 hW => ⟨⟨r7, u6, rfl, ⟨(FC.tr (FC.rf _) (FC.up fr5 (by decide) (by decide))), (show 0 ≤ (u6.1 0 306).toInt ∧ (u6.1 0 306).toInt ≤ 40 from (om_7eaf33e007 i3065)), (show 0 ≤ (u6.1 0 321).toInt ∧ (u6.1 0 321).toInt ≤ 501 from (om_e1d35f5faf i3215)), (show 0 ≤ (u6.1 0 326).toInt ∧ (u6.1 0 326).toInt ≤ 420 from (om_839d7ed7dd i3265)), (show 0 ≤ (u6.1 0 381).toInt ∧ (u6.1 0 381).toInt ≤ 3008 from (om_e78eec72e1 i3815)), (show (u6.1 0 306).toInt = (v.1 0 306).toInt from (om_5049cbdce5 po5)), bz5⟩, ⟨by rw [ht9]; exact hP, hD⟩, by rw [ht9]; exact hz⟩, hS.F ht9⟩) hS.2.2 dX2_operand_241
  ·
    by_cases h8 : r3 = 3
    · refine lv_lookup (off := 105) (tgt := 112) hx hb dX2_operand_7 (by decide) (by rw [h8]; decide) (by decide) ?_
      refine lv_aload_n hx hb dX2_operand_112 rfl (lv_at hl 0 rfl) ?_
      refine va_get (D := (dC, dI)) (ci := 6) (fs := oF_X2 ad pr v) (v := .ref (ad 901)) (C := RX2) (T := TX2) (N := 5) hx hb ht itX2 hown hK hP 2 rfl rfl 1 (by decide) (ht _ tw_498) (fun _ h9 => h9) rfl dX2_operand_113 ?_
      refine lv_iconst (v := 2) hx hb dX2_operand_116 (by decide) ?_
      refine lv_aload_n hx hb dX2_operand_117 rfl (lv_at hl 0 rfl) ?_
      refine va_get (D := (dC, dI)) (ci := 6) (fs := oF_X2 ad pr v) (v := .ref (ad 900)) (C := RX2) (T := TX2) (N := 5) hx hb ht itX2 hown hK hP 2 rfl rfl 0 (by decide) (ht _ tw_509) (fun _ h9 => h9) rfl dX2_operand_118 ?_
      refine cu_i (rn_Vk (n := 0) (As := []) (rest := [.int 2, .ref (ad 901)]) hx hb hml hown ht hKK hFx hP hD hS hA (c_x_X9_value l dC dI cI cB cZ cJ cR tb H.size ad pr N L1 L2 v  (show 0 ≤ (v.1 0 304).toInt ∧ (v.1 0 304).toInt ≤ 1503 from (om_c99648273b z304))) tw_535 tw_536 (by decide +kernel) rfl rfl ⟨show 0 + 1 ≤ 8 * n + 16 from om_ae1d63f123, show 8 + (1 + 11) + 0 ≤ 28 * (8 * n + 16) from om_e9b1f44c62⟩ (List.range (cW ad pr N cI cR L1 L2 v).length) (rg_map _) (nd_range _) 0 rfl rfl rfl rfl hl.1 rfl (Nat.le_of_ble_eq_true rfl) dX2_operand_121 ⟨Nat.le_of_ble_eq_true rfl, Nat.le_of_ble_eq_true rfl⟩) hP hD hS hA (fun r11 u10 H locs hw9 hP hD hS => ?_)
      obtain rfl := hw9
      refine W.widen (k := 0) (n := 0) (Nat.le_refl _) (Nat.le_refl _) ?_
      refine lv_iconst (v := 0) hx hb dX2_operand_124 (by decide) ?_
      refine cu_v (rn_Vk (n := 3) (As := [.int 2, .int r11, .int 0]) (rest := []) hx hb hml hown ht hKK hFx hP hD hS hA (c_x_X1_add l dC dI cI cB cZ cJ cR tb H.size ad pr N L1 L2 v (2 : Int32) r11 (0 : Int32) ps (show 0 ≤ (v.1 0 381).toInt ∧ (v.1 0 381).toInt ≤ 3008 from (om_e78eec72e1 z381)) (show pr ps = ad 908 from hps) (show (v.1 0 310) = ps from es310)) tw_499 tw_500 (by decide +kernel) rfl rfl ⟨show 0 + 1 ≤ 8 * n + 16 from om_ae1d63f123, show 8 + (5 + 11) + 0 ≤ 28 * (8 * n + 16) from om_c598daa799⟩ (List.range (cW ad pr N cI cR L1 L2 v).length) (rg_map _) (nd_range _) 1 rfl rfl rfl rfl hl.1 rfl (Nat.le_of_ble_eq_true rfl) dX2_operand_125 ⟨Nat.le_of_ble_eq_true rfl, Nat.le_of_ble_eq_true rfl⟩) hP hD hS hA (fun u13 H locs hw12 hP hD hS => ?_)
      obtain ⟨fr12, i38112⟩ := hw12
      refine W.widen (k := 0) (n := 0) (Nat.le_refl _) (Nat.le_refl _) ?_
      refine lv_aload_n hx hb dX2_operand_128 rfl (lv_at hl 0 rfl) ?_
      refine va_get (D := (dC, dI)) (ci := 6) (fs := oF_X2 ad pr u13) (v := .ref (ad 900)) (C := RX2) (T := TX2) (N := 5) hx hb ht itX2 hown hK hP 2 rfl rfl 0 (by decide) (ht _ tw_509) (fun _ h9 => h9) rfl dX2_operand_129 ?_
      have q15 : (u13.1 0 304).toInt = (v.1 0 304).toInt := congrArg Int32.toInt ((fr12.2.1 304 (by decide)).trans (show v.1 0 304 = (v.1 0 304) by rfl))
      have q16 : (u13.1 0 373).toInt = (v.1 0 373).toInt := congrArg Int32.toInt ((fr12.2.1 373 (by decide)).trans (show v.1 0 373 = (v.1 0 373) by rfl))
      refine W.sz (fun hz9 => ?_)
      refine czx_v (rx_Vk (n := 0) (As := []) (rest := []) hx hb hml hown ht hKK hFx hP hD hS hA (c_x_X9_take l dC dI cI cB cZ cJ cR tb H.size ad pr N L1 L2 u13 ps (show 0 ≤ (u13.1 0 304).toInt ∧ (u13.1 0 304).toInt ≤ 1503 from (om_73002589c1 z304 q15)) (show 0 ≤ (u13.1 0 373).toInt ∧ (u13.1 0 373).toInt ≤ 4000 from (om_9084c127ed z373 q16)) (show pr ps = ad 908 from hps) (show (u13.1 0 300) = ps from (Eq.trans (fr12.2.1 300 (by decide)) es300)) (show l.stackTraces = false from hst)) tw_539 tw_540 (by decide +kernel) rfl rfl ⟨show 7 + 1 ≤ 8 * n + 16 from om_80738ea86d, show 8 + (1 + 11) + 104 ≤ 28 * (8 * n + 16) from om_4c5be64de3⟩ (List.range (cW ad pr N cI cR L1 L2 u13).length) (rg_map _) (nd_range _) 0 rfl rfl rfl rfl hl.1 rfl (Nat.le_of_ble_eq_true rfl) dX2_operand_132 ⟨Nat.le_of_ble_eq_true rfl, Nat.le_of_ble_eq_true rfl⟩) hP hD hS hA (fun u9 ce9 q9 H locs hx9 hP hD hS hc9 hv9 hf9 => ?_) (fun u18 H locs hw17 hP hD hS hz8 => ?_)
      · exact vx_out (fun x h9 => (hnt x h9).elim) hlocks hc9 hv9 hf9 (fun t9 ht9 hv8 => ⟨u9, ⟨FC.tr (FC.tr (FC.rf _) (FC.up fr12 (by decide) (by decide))) hx9.1, hx9.2⟩, ⟨rfl, by rw [ht9]; exact hP, hD⟩, hS.F ht9⟩) hS.2.2 (Nat.le_refl _) (Nat.le_refl _)
      refine W.shrink (hz8.trans hz9) ?_
      have fr17 := hw17
      refine lv_iconst (v := 0) hx hb dX2_operand_135 (by decide) ?_
      have q20 : (u13.1 0 306).toInt = (v.1 0 306).toInt := congrArg Int32.toInt ((fr12.2.1 306 (by decide)).trans (show v.1 0 306 = (v.1 0 306) by rfl))
      have q21 : (u18.1 0 306).toInt = (u13.1 0 306).toInt := congrArg Int32.toInt ((fr17.2.1 306 (by decide)).trans (show u13.1 0 306 = (u13.1 0 306) by rfl))
      have q22 : (u13.1 0 321).toInt = (v.1 0 321).toInt := congrArg Int32.toInt ((fr12.2.1 321 (by decide)).trans (show v.1 0 321 = (v.1 0 321) by rfl))
      have q23 : (u18.1 0 321).toInt = (u13.1 0 321).toInt := congrArg Int32.toInt ((fr17.2.1 321 (by decide)).trans (show u13.1 0 321 = (u13.1 0 321) by rfl))
      have q24 : (u13.1 0 326).toInt = (v.1 0 326).toInt := congrArg Int32.toInt ((fr12.2.1 326 (by decide)).trans (show v.1 0 326 = (v.1 0 326) by rfl))
      have q25 : (u18.1 0 326).toInt = (u13.1 0 326).toInt := congrArg Int32.toInt ((fr17.2.1 326 (by decide)).trans (show u13.1 0 326 = (u13.1 0 326) by rfl))
      have q26 : (u18.1 0 381).toInt = (u13.1 0 381).toInt := congrArg Int32.toInt ((fr17.2.1 381 (by decide)).trans (show u13.1 0 381 = (u13.1 0 381) by rfl))
      refine W.sz (fun hz => ?_)
      refine vx_ret ?_
      refine W.widen (k := 1) (n := 6) (Nat.le_of_ble_eq_true rfl) (Nat.le_of_ble_eq_true rfl) ?_
      exact W.zret (v := 0) hx hb hr rfl (fun t ht9 hW => ⟨⟨0, u18, rfl, ⟨(FC.tr (FC.tr (FC.rf _) (FC.up fr12 (by decide) (by decide))) (FC.up fr17 (by decide) (by decide))), (show 0 ≤ (u18.1 0 306).toInt ∧ (u18.1 0 306).toInt ≤ 40 from (om_68f540929a z306 q20 q21)), (show 0 ≤ (u18.1 0 321).toInt ∧ (u18.1 0 321).toInt ≤ 501 from (om_4dfa815534 z321 q22 q23)), (show 0 ≤ (u18.1 0 326).toInt ∧ (u18.1 0 326).toInt ≤ 420 from (om_9591dea625 z326 q24 q25)), (show 0 ≤ (u18.1 0 381).toInt ∧ (u18.1 0 381).toInt ≤ 3008 from (om_6e4eb11ad3 i38112 q26)), (show (u18.1 0 306).toInt = (v.1 0 306).toInt from (om_837b7bd001 q20 q21)), (Or.inl rfl)⟩, ⟨by rw [ht9]; exact hP, hD⟩, by rw [ht9]; exact hz⟩, hS.F ht9⟩) hS.2.2 dX2_operand_136
    ·
      by_cases h27 : r3 = 4
      · refine lv_lookup (off := 130) (tgt := 137) hx hb dX2_operand_7 (by decide) (by rw [h27]; decide) (by decide) ?_
        refine lv_aload_n hx hb dX2_operand_137 rfl (lv_at hl 0 rfl) ?_
        refine va_get (D := (dC, dI)) (ci := 6) (fs := oF_X2 ad pr v) (v := .ref (ad 900)) (C := RX2) (T := TX2) (N := 5) hx hb ht itX2 hown hK hP 2 rfl rfl 0 (by decide) (ht _ tw_509) (fun _ h9 => h9) rfl dX2_operand_138 ?_
        refine lv_iconst (v := 5) hx hb dX2_operand_141 (by decide) ?_
        refine lv_aload_n hx hb dX2_operand_142 rfl (lv_at hl 0 rfl) ?_
        refine va_get (D := (dC, dI)) (ci := 6) (fs := oF_X2 ad pr v) (v := .ref (ad 900)) (C := RX2) (T := TX2) (N := 5) hx hb ht itX2 hown hK hP 2 rfl rfl 0 (by decide) (ht _ tw_509) (fun _ h9 => h9) rfl dX2_operand_143 ?_
        refine cu_i (rn_Vk (n := 0) (As := []) (rest := [.int 5, .ref (ad 900)]) hx hb hml hown ht hKK hFx hP hD hS hA (c_x_X9_place l dC dI cI cB cZ cJ cR tb H.size ad pr N L1 L2 v ps (show 0 ≤ (v.1 0 304).toInt ∧ (v.1 0 304).toInt ≤ 1503 from (om_c99648273b z304)) (show 0 ≤ (v.1 0 373).toInt ∧ (v.1 0 373).toInt ≤ 4000 from (om_c74a68af25 z373)) (show pr ps = ad 908 from hps) (show (v.1 0 300) = ps from es300)) tw_457 tw_510 (by decide +kernel) rfl rfl ⟨show 0 + 1 ≤ 8 * n + 16 from om_ae1d63f123, show 8 + (1 + 11) + 0 ≤ 28 * (8 * n + 16) from om_e9b1f44c62⟩ (List.range (cW ad pr N cI cR L1 L2 v).length) (rg_map _) (nd_range _) 0 rfl rfl rfl rfl hl.1 rfl (Nat.le_of_ble_eq_true rfl) dX2_operand_146 ⟨Nat.le_of_ble_eq_true rfl, Nat.le_of_ble_eq_true rfl⟩) hP hD hS hA (fun r30 u29 H locs hw28 hP hD hS => ?_)
        obtain rfl := hw28
        refine W.widen (k := 0) (n := 0) (Nat.le_refl _) (Nat.le_refl _) ?_
        refine W.sz (fun hz9 => ?_)
        refine czx_v (rx_Vk (n := 2) (As := [.int 5, .int r30]) (rest := []) hx hb hml hown ht hKK hFx hP hD hS hA (c_x_X9_refuse l dC dI cI cB cZ cJ cR tb H.size ad pr N L1 L2 v (5 : Int32) r30 (show l.stackTraces = false from hst) (show (5 : Int) ≠ 0 from om_5e02973d50)) tw_459 tw_511 (by decide +kernel) rfl rfl ⟨show 6 + 1 ≤ 8 * n + 16 from om_65a2264104, show 8 + (3 + 11) + 82 ≤ 28 * (8 * n + 16) from om_65f670dc44⟩ (List.range (cW ad pr N cI cR L1 L2 v).length) (rg_map _) (nd_range _) 0 rfl rfl rfl rfl hl.1 rfl (Nat.le_of_ble_eq_true rfl) dX2_operand_149 ⟨Nat.le_of_ble_eq_true rfl, Nat.le_of_ble_eq_true rfl⟩) hP hD hS hA (fun u9 ce9 q9 H locs hx9 hP hD hS hc9 hv9 hf9 => ?_) (fun u32 H locs hw31 hP hD hS hz8 => ?_)
        · exact vx_out (fun x h9 => (hnt x h9).elim) hlocks hc9 hv9 hf9 (fun t9 ht9 hv8 => ⟨u9, ⟨FC.tr (FC.rf _) hx9.1, hx9.2⟩, ⟨rfl, by rw [ht9]; exact hP, hD⟩, hS.F ht9⟩) hS.2.2 (Nat.le_refl _) (Nat.le_refl _)
        refine W.shrink (hz8.trans hz9) ?_
        obtain ⟨fr31, no31⟩ := hw31
        exact no31.elim
      ·
        by_cases h34 : r3 = 5
        · refine lv_lookup (off := 105) (tgt := 112) hx hb dX2_operand_7 (by decide) (by rw [h34]; decide) (by decide) ?_
          refine lv_aload_n hx hb dX2_operand_112 rfl (lv_at hl 0 rfl) ?_
          refine va_get (D := (dC, dI)) (ci := 6) (fs := oF_X2 ad pr v) (v := .ref (ad 901)) (C := RX2) (T := TX2) (N := 5) hx hb ht itX2 hown hK hP 2 rfl rfl 1 (by decide) (ht _ tw_498) (fun _ h9 => h9) rfl dX2_operand_113 ?_
          refine lv_iconst (v := 2) hx hb dX2_operand_116 (by decide) ?_
          refine lv_aload_n hx hb dX2_operand_117 rfl (lv_at hl 0 rfl) ?_
          refine va_get (D := (dC, dI)) (ci := 6) (fs := oF_X2 ad pr v) (v := .ref (ad 900)) (C := RX2) (T := TX2) (N := 5) hx hb ht itX2 hown hK hP 2 rfl rfl 0 (by decide) (ht _ tw_509) (fun _ h9 => h9) rfl dX2_operand_118 ?_
          refine cu_i (rn_Vk (n := 0) (As := []) (rest := [.int 2, .ref (ad 901)]) hx hb hml hown ht hKK hFx hP hD hS hA (c_x_X9_value l dC dI cI cB cZ cJ cR tb H.size ad pr N L1 L2 v  (show 0 ≤ (v.1 0 304).toInt ∧ (v.1 0 304).toInt ≤ 1503 from (om_c99648273b z304))) tw_535 tw_536 (by decide +kernel) rfl rfl ⟨show 0 + 1 ≤ 8 * n + 16 from om_ae1d63f123, show 8 + (1 + 11) + 0 ≤ 28 * (8 * n + 16) from om_e9b1f44c62⟩ (List.range (cW ad pr N cI cR L1 L2 v).length) (rg_map _) (nd_range _) 0 rfl rfl rfl rfl hl.1 rfl (Nat.le_of_ble_eq_true rfl) dX2_operand_121 ⟨Nat.le_of_ble_eq_true rfl, Nat.le_of_ble_eq_true rfl⟩) hP hD hS hA (fun r37 u36 H locs hw35 hP hD hS => ?_)
          obtain rfl := hw35
          refine W.widen (k := 0) (n := 0) (Nat.le_refl _) (Nat.le_refl _) ?_
          refine lv_iconst (v := 0) hx hb dX2_operand_124 (by decide) ?_
          refine cu_v (rn_Vk (n := 3) (As := [.int 2, .int r37, .int 0]) (rest := []) hx hb hml hown ht hKK hFx hP hD hS hA (c_x_X1_add l dC dI cI cB cZ cJ cR tb H.size ad pr N L1 L2 v (2 : Int32) r37 (0 : Int32) ps (show 0 ≤ (v.1 0 381).toInt ∧ (v.1 0 381).toInt ≤ 3008 from (om_e78eec72e1 z381)) (show pr ps = ad 908 from hps) (show (v.1 0 310) = ps from es310)) tw_499 tw_500 (by decide +kernel) rfl rfl ⟨show 0 + 1 ≤ 8 * n + 16 from om_ae1d63f123, show 8 + (5 + 11) + 0 ≤ 28 * (8 * n + 16) from om_c598daa799⟩ (List.range (cW ad pr N cI cR L1 L2 v).length) (rg_map _) (nd_range _) 1 rfl rfl rfl rfl hl.1 rfl (Nat.le_of_ble_eq_true rfl) dX2_operand_125 ⟨Nat.le_of_ble_eq_true rfl, Nat.le_of_ble_eq_true rfl⟩) hP hD hS hA (fun u39 H locs hw38 hP hD hS => ?_)
          obtain ⟨fr38, i38138⟩ := hw38
          refine W.widen (k := 0) (n := 0) (Nat.le_refl _) (Nat.le_refl _) ?_
          refine lv_aload_n hx hb dX2_operand_128 rfl (lv_at hl 0 rfl) ?_
          refine va_get (D := (dC, dI)) (ci := 6) (fs := oF_X2 ad pr u39) (v := .ref (ad 900)) (C := RX2) (T := TX2) (N := 5) hx hb ht itX2 hown hK hP 2 rfl rfl 0 (by decide) (ht _ tw_509) (fun _ h9 => h9) rfl dX2_operand_129 ?_
          have q41 : (u39.1 0 304).toInt = (v.1 0 304).toInt := congrArg Int32.toInt ((fr38.2.1 304 (by decide)).trans (show v.1 0 304 = (v.1 0 304) by rfl))
          have q42 : (u39.1 0 373).toInt = (v.1 0 373).toInt := congrArg Int32.toInt ((fr38.2.1 373 (by decide)).trans (show v.1 0 373 = (v.1 0 373) by rfl))
          refine W.sz (fun hz9 => ?_)
          refine czx_v (rx_Vk (n := 0) (As := []) (rest := []) hx hb hml hown ht hKK hFx hP hD hS hA (c_x_X9_take l dC dI cI cB cZ cJ cR tb H.size ad pr N L1 L2 u39 ps (show 0 ≤ (u39.1 0 304).toInt ∧ (u39.1 0 304).toInt ≤ 1503 from (om_73002589c1 z304 q41)) (show 0 ≤ (u39.1 0 373).toInt ∧ (u39.1 0 373).toInt ≤ 4000 from (om_9084c127ed z373 q42)) (show pr ps = ad 908 from hps) (show (u39.1 0 300) = ps from (Eq.trans (fr38.2.1 300 (by decide)) es300)) (show l.stackTraces = false from hst)) tw_539 tw_540 (by decide +kernel) rfl rfl ⟨show 7 + 1 ≤ 8 * n + 16 from om_80738ea86d, show 8 + (1 + 11) + 104 ≤ 28 * (8 * n + 16) from om_4c5be64de3⟩ (List.range (cW ad pr N cI cR L1 L2 u39).length) (rg_map _) (nd_range _) 0 rfl rfl rfl rfl hl.1 rfl (Nat.le_of_ble_eq_true rfl) dX2_operand_132 ⟨Nat.le_of_ble_eq_true rfl, Nat.le_of_ble_eq_true rfl⟩) hP hD hS hA (fun u9 ce9 q9 H locs hx9 hP hD hS hc9 hv9 hf9 => ?_) (fun u44 H locs hw43 hP hD hS hz8 => ?_)
          · exact vx_out (fun x h9 => (hnt x h9).elim) hlocks hc9 hv9 hf9 (fun t9 ht9 hv8 => ⟨u9, ⟨FC.tr (FC.tr (FC.rf _) (FC.up fr38 (by decide) (by decide))) hx9.1, hx9.2⟩, ⟨rfl, by rw [ht9]; exact hP, hD⟩, hS.F ht9⟩) hS.2.2 (Nat.le_refl _) (Nat.le_refl _)
          refine W.shrink (hz8.trans hz9) ?_
          have fr43 := hw43
          refine lv_iconst (v := 0) hx hb dX2_operand_135 (by decide) ?_
          have q46 : (u39.1 0 306).toInt = (v.1 0 306).toInt := congrArg Int32.toInt ((fr38.2.1 306 (by decide)).trans (show v.1 0 306 = (v.1 0 306) by rfl))
          have q47 : (u44.1 0 306).toInt = (u39.1 0 306).toInt := congrArg Int32.toInt ((fr43.2.1 306 (by decide)).trans (show u39.1 0 306 = (u39.1 0 306) by rfl))
          have q48 : (u39.1 0 321).toInt = (v.1 0 321).toInt := congrArg Int32.toInt ((fr38.2.1 321 (by decide)).trans (show v.1 0 321 = (v.1 0 321) by rfl))
          have q49 : (u44.1 0 321).toInt = (u39.1 0 321).toInt := congrArg Int32.toInt ((fr43.2.1 321 (by decide)).trans (show u39.1 0 321 = (u39.1 0 321) by rfl))
          have q50 : (u39.1 0 326).toInt = (v.1 0 326).toInt := congrArg Int32.toInt ((fr38.2.1 326 (by decide)).trans (show v.1 0 326 = (v.1 0 326) by rfl))
          have q51 : (u44.1 0 326).toInt = (u39.1 0 326).toInt := congrArg Int32.toInt ((fr43.2.1 326 (by decide)).trans (show u39.1 0 326 = (u39.1 0 326) by rfl))
          have q52 : (u44.1 0 381).toInt = (u39.1 0 381).toInt := congrArg Int32.toInt ((fr43.2.1 381 (by decide)).trans (show u39.1 0 381 = (u39.1 0 381) by rfl))
          refine W.sz (fun hz => ?_)
          refine vx_ret ?_
          refine W.widen (k := 1) (n := 6) (Nat.le_of_ble_eq_true rfl) (Nat.le_of_ble_eq_true rfl) ?_
          exact W.zret (v := 0) hx hb hr rfl (fun t ht9 hW => ⟨⟨0, u44, rfl, ⟨(FC.tr (FC.tr (FC.rf _) (FC.up fr38 (by decide) (by decide))) (FC.up fr43 (by decide) (by decide))), (show 0 ≤ (u44.1 0 306).toInt ∧ (u44.1 0 306).toInt ≤ 40 from (om_68f540929a z306 q46 q47)), (show 0 ≤ (u44.1 0 321).toInt ∧ (u44.1 0 321).toInt ≤ 501 from (om_4dfa815534 z321 q48 q49)), (show 0 ≤ (u44.1 0 326).toInt ∧ (u44.1 0 326).toInt ≤ 420 from (om_9591dea625 z326 q50 q51)), (show 0 ≤ (u44.1 0 381).toInt ∧ (u44.1 0 381).toInt ≤ 3008 from (om_6e4eb11ad3 i38138 q52)), (show (u44.1 0 306).toInt = (v.1 0 306).toInt from (om_837b7bd001 q46 q47)), (Or.inl rfl)⟩, ⟨by rw [ht9]; exact hP, hD⟩, by rw [ht9]; exact hz⟩, hS.F ht9⟩) hS.2.2 dX2_operand_136
        ·
          by_cases h53 : r3 = 20
          · refine lv_lookup (off := 147) (tgt := 154) hx hb dX2_operand_7 (by decide) (by rw [h53]; decide) (by decide) ?_
            refine lv_aload_n hx hb dX2_operand_154 rfl (lv_at hl 0 rfl) ?_
            refine va_get (D := (dC, dI)) (ci := 6) (fs := oF_X2 ad pr v) (v := .ref (ad 900)) (C := RX2) (T := TX2) (N := 5) hx hb ht itX2 hown hK hP 2 rfl rfl 0 (by decide) (ht _ tw_509) (fun _ h9 => h9) rfl dX2_operand_155 ?_
            refine W.sz (fun hz9 => ?_)
            refine czx_v (rx_Vk (n := 0) (As := []) (rest := []) hx hb hml hown ht hKK hFx hP hD hS hA (c_x_X9_take l dC dI cI cB cZ cJ cR tb H.size ad pr N L1 L2 v ps (show 0 ≤ (v.1 0 304).toInt ∧ (v.1 0 304).toInt ≤ 1503 from (om_c99648273b z304)) (show 0 ≤ (v.1 0 373).toInt ∧ (v.1 0 373).toInt ≤ 4000 from (om_c74a68af25 z373)) (show pr ps = ad 908 from hps) (show (v.1 0 300) = ps from es300) (show l.stackTraces = false from hst)) tw_539 tw_540 (by decide +kernel) rfl rfl ⟨show 7 + 1 ≤ 8 * n + 16 from om_80738ea86d, show 8 + (1 + 11) + 104 ≤ 28 * (8 * n + 16) from om_4c5be64de3⟩ (List.range (cW ad pr N cI cR L1 L2 v).length) (rg_map _) (nd_range _) 0 rfl rfl rfl rfl hl.1 rfl (Nat.le_of_ble_eq_true rfl) dX2_operand_158 ⟨Nat.le_of_ble_eq_true rfl, Nat.le_of_ble_eq_true rfl⟩) hP hD hS hA (fun u9 ce9 q9 H locs hx9 hP hD hS hc9 hv9 hf9 => ?_) (fun u55 H locs hw54 hP hD hS hz8 => ?_)
            · exact vx_out (fun x h9 => (hnt x h9).elim) hlocks hc9 hv9 hf9 (fun t9 ht9 hv8 => ⟨u9, ⟨FC.tr (FC.rf _) hx9.1, hx9.2⟩, ⟨rfl, by rw [ht9]; exact hP, hD⟩, hS.F ht9⟩) hS.2.2 (Nat.le_refl _) (Nat.le_refl _)
            refine W.shrink (hz8.trans hz9) ?_
            have fr54 := hw54
            refine lv_aload_n hx hb dX2_operand_161 rfl (lv_at hl 0 rfl) ?_
            refine va_get (D := (dC, dI)) (ci := 6) (fs := oF_X2 ad pr u55) (v := .ref (ad 900)) (C := RX2) (T := TX2) (N := 5) hx hb ht itX2 hown hK hP 2 rfl rfl 0 (by decide) (ht _ tw_509) (fun _ h9 => h9) rfl dX2_operand_162 ?_
            refine lv_bipush (v := 30) hx hb dX2_operand_165 (by decide) ?_
            have q57 : (u55.1 0 304).toInt = (v.1 0 304).toInt := congrArg Int32.toInt ((fr54.2.1 304 (by decide)).trans (show v.1 0 304 = (v.1 0 304) by rfl))
            have q58 : (u55.1 0 373).toInt = (v.1 0 373).toInt := congrArg Int32.toInt ((fr54.2.1 373 (by decide)).trans (show v.1 0 373 = (v.1 0 373) by rfl))
            refine W.sz (fun hz9 => ?_)
            refine czx_v (rx_Vk (n := 1) (As := [.int 30]) (rest := []) hx hb hml hown ht hKK hFx hP hD hS hA (c_x_X9_need l dC dI cI cB cZ cJ cR tb H.size ad pr N L1 L2 u55 (30 : Int32) ps (show 0 ≤ (u55.1 0 304).toInt ∧ (u55.1 0 304).toInt ≤ 1503 from (om_73002589c1 z304 q57)) (show 0 ≤ (u55.1 0 373).toInt ∧ (u55.1 0 373).toInt ≤ 4000 from (om_9084c127ed z373 q58)) (show pr ps = ad 908 from hps) (show (u55.1 0 300) = ps from (Eq.trans (fr54.2.1 300 (by decide)) es300)) (show l.stackTraces = false from hst)) tw_559 tw_560 (by decide +kernel) rfl rfl ⟨show 7 + 1 ≤ 8 * n + 16 from om_80738ea86d, show 8 + (2 + 11) + 104 ≤ 28 * (8 * n + 16) from om_6c7d6f0de2⟩ (List.range (cW ad pr N cI cR L1 L2 u55).length) (rg_map _) (nd_range _) 0 rfl rfl rfl rfl hl.1 rfl (Nat.le_of_ble_eq_true rfl) dX2_operand_167 ⟨Nat.le_of_ble_eq_true rfl, Nat.le_of_ble_eq_true rfl⟩) hP hD hS hA (fun u9 ce9 q9 H locs hx9 hP hD hS hc9 hv9 hf9 => ?_) (fun u60 H locs hw59 hP hD hS hz8 => ?_)
            · exact vx_out (fun x h9 => (hnt x h9).elim) hlocks hc9 hv9 hf9 (fun t9 ht9 hv8 => ⟨u9, ⟨FC.tr (FC.tr (FC.rf _) (FC.up fr54 (by decide) (by decide))) hx9.1, hx9.2⟩, ⟨rfl, by rw [ht9]; exact hP, hD⟩, hS.F ht9⟩) hS.2.2 (Nat.le_refl _) (Nat.le_refl _)
            refine W.shrink (hz8.trans hz9) ?_
            have fr59 := hw59
            refine lv_aload_n hx hb dX2_operand_170 rfl (lv_at hl 0 rfl) ?_
            refine va_get (D := (dC, dI)) (ci := 6) (fs := oF_X2 ad pr u60) (v := .ref (ad 900)) (C := RX2) (T := TX2) (N := 5) hx hb ht itX2 hown hK hP 2 rfl rfl 0 (by decide) (ht _ tw_509) (fun _ h9 => h9) rfl dX2_operand_171 ?_
            have q62 : (u60.1 0 304).toInt = (u55.1 0 304).toInt := congrArg Int32.toInt ((fr59.2.1 304 (by decide)).trans (show u55.1 0 304 = (u55.1 0 304) by rfl))
            have q63 : (u55.1 0 306).toInt = (v.1 0 306).toInt := congrArg Int32.toInt ((fr54.2.1 306 (by decide)).trans (show v.1 0 306 = (v.1 0 306) by rfl))
            have q64 : (u60.1 0 306).toInt = (u55.1 0 306).toInt := congrArg Int32.toInt ((fr59.2.1 306 (by decide)).trans (show u55.1 0 306 = (u55.1 0 306) by rfl))
            have q65 : (u60.1 0 373).toInt = (u55.1 0 373).toInt := congrArg Int32.toInt ((fr59.2.1 373 (by decide)).trans (show u55.1 0 373 = (u55.1 0 373) by rfl))
            refine W.sz (fun hz9 => ?_)
            refine czx_v (rx_Vk (n := 0) (As := []) (rest := []) hx hb hml hown ht hKK hFx hP hD hS hA (c_x_X9_open l dC dI cI cB cZ cJ cR tb H.size ad pr N L1 L2 u60 ps (show 0 ≤ (u60.1 0 304).toInt ∧ (u60.1 0 304).toInt ≤ 1503 from (om_dd87ee851a z304 q57 q62)) (show 0 ≤ (u60.1 0 306).toInt ∧ (u60.1 0 306).toInt ≤ 40 from (om_68f540929a z306 q63 q64)) (show 0 ≤ (u60.1 0 373).toInt ∧ (u60.1 0 373).toInt ≤ 4000 from (om_03cd8767ac z373 q58 q65)) (show pr ps = ad 908 from hps) (show (u60.1 0 300) = ps from (Eq.trans (fr59.2.1 300 (by decide)) (Eq.trans (fr54.2.1 300 (by decide)) es300))) (show l.stackTraces = false from hst)) tw_524 tw_525 (by decide +kernel) rfl rfl ⟨show 7 + 1 ≤ 8 * n + 16 from om_80738ea86d, show 8 + (1 + 11) + 104 ≤ 28 * (8 * n + 16) from om_4c5be64de3⟩ (List.range (cW ad pr N cI cR L1 L2 u60).length) (rg_map _) (nd_range _) 0 rfl rfl rfl rfl hl.1 rfl (Nat.le_of_ble_eq_true rfl) dX2_operand_174 ⟨Nat.le_of_ble_eq_true rfl, Nat.le_of_ble_eq_true rfl⟩) hP hD hS hA (fun u9 ce9 q9 H locs hx9 hP hD hS hc9 hv9 hf9 => ?_) (fun u67 H locs hw66 hP hD hS hz8 => ?_)
            · exact vx_out (fun x h9 => (hnt x h9).elim) hlocks hc9 hv9 hf9 (fun t9 ht9 hv8 => ⟨u9, ⟨FC.tr (FC.tr (FC.tr (FC.rf _) (FC.up fr54 (by decide) (by decide))) (FC.up fr59 (by decide) (by decide))) hx9.1, hx9.2⟩, ⟨rfl, by rw [ht9]; exact hP, hD⟩, hS.F ht9⟩) hS.2.2 (Nat.le_refl _) (Nat.le_refl _)
            refine W.shrink (hz8.trans hz9) ?_
            obtain ⟨fr66, i30666, pj66⟩ := hw66
            have i30666 : 0 ≤ (u67.1 0 306).toInt ∧ (u67.1 0 306).toInt ≤ 40 := i30666
            have pj66 : (u67.1 0 306).toInt = (u60.1 0 306).toInt + 1 := pj66
            refine lv_aload_n hx hb dX2_operand_177 rfl (lv_at hl 0 rfl) ?_
            refine va_get (D := (dC, dI)) (ci := 6) (fs := oF_X2 ad pr u67) (v := .ref (ad 900)) (C := RX2) (T := TX2) (N := 5) hx hb ht itX2 hown hK hP 2 rfl rfl 0 (by decide) (ht _ tw_509) (fun _ h9 => h9) rfl dX2_operand_178 ?_
            refine lv_bipush (v := 31) hx hb dX2_operand_181 (by decide) ?_
            have q69 : (u67.1 0 304).toInt = (u60.1 0 304).toInt := congrArg Int32.toInt ((fr66.2.1 304 (by decide)).trans (show u60.1 0 304 = (u60.1 0 304) by rfl))
            have q70 : (u67.1 0 373).toInt = (u60.1 0 373).toInt := congrArg Int32.toInt ((fr66.2.1 373 (by decide)).trans (show u60.1 0 373 = (u60.1 0 373) by rfl))
            refine W.sz (fun hz9 => ?_)
            refine czx_v (rx_Vk (n := 1) (As := [.int 31]) (rest := []) hx hb hml hown ht hKK hFx hP hD hS hA (c_x_X9_expect l dC dI cI cB cZ cJ cR tb H.size ad pr N L1 L2 u67 (31 : Int32) ps (show 0 ≤ (u67.1 0 304).toInt ∧ (u67.1 0 304).toInt ≤ 1503 from (om_57e3d9ffbd z304 q57 q62 q69)) (show 0 ≤ (u67.1 0 373).toInt ∧ (u67.1 0 373).toInt ≤ 4000 from (om_282c7f458f z373 q58 q65 q70)) (show pr ps = ad 908 from hps) (show (u67.1 0 300) = ps from (Eq.trans (fr66.2.1 300 (by decide)) (Eq.trans (fr59.2.1 300 (by decide)) (Eq.trans (fr54.2.1 300 (by decide)) es300)))) (show l.stackTraces = false from hst)) tw_526 tw_527 (by decide +kernel) rfl rfl ⟨show 7 + 1 ≤ 8 * n + 16 from om_80738ea86d, show 8 + (2 + 11) + 104 ≤ 28 * (8 * n + 16) from om_6c7d6f0de2⟩ (List.range (cW ad pr N cI cR L1 L2 u67).length) (rg_map _) (nd_range _) 0 rfl rfl rfl rfl hl.1 rfl (Nat.le_of_ble_eq_true rfl) dX2_operand_183 ⟨Nat.le_of_ble_eq_true rfl, Nat.le_of_ble_eq_true rfl⟩) hP hD hS hA (fun u9 ce9 q9 H locs hx9 hP hD hS hc9 hv9 hf9 => ?_) (fun u72 H locs hw71 hP hD hS hz8 => ?_)
            · exact vx_out (fun x h9 => (hnt x h9).elim) hlocks hc9 hv9 hf9 (fun t9 ht9 hv8 => ⟨u9, ⟨FC.tr (FC.tr (FC.tr (FC.tr (FC.rf _) (FC.up fr54 (by decide) (by decide))) (FC.up fr59 (by decide) (by decide))) (FC.up fr66 (by decide) (by decide))) hx9.1, hx9.2⟩, ⟨rfl, by rw [ht9]; exact hP, hD⟩, hS.F ht9⟩) hS.2.2 (Nat.le_refl _) (Nat.le_refl _)
            refine W.shrink (hz8.trans hz9) ?_
            have fr71 := hw71
            refine lv_aload_n hx hb dX2_operand_186 rfl (lv_at hl 0 rfl) ?_
            refine va_get (D := (dC, dI)) (ci := 6) (fs := oF_X2 ad pr u72) (v := .ref (ad 900)) (C := RX2) (T := TX2) (N := 5) hx hb ht itX2 hown hK hP 2 rfl rfl 0 (by decide) (ht _ tw_509) (fun _ h9 => h9) rfl dX2_operand_187 ?_
            have q74 : (u72.1 0 306).toInt = (u67.1 0 306).toInt := congrArg Int32.toInt ((fr71.2.1 306 (by decide)).trans (show u67.1 0 306 = (u67.1 0 306) by rfl))
            refine cu_v (rn_Vk (n := 0) (As := []) (rest := []) hx hb hml hown ht hKK hFx hP hD hS hA (c_x_X9_close l dC dI cI cB cZ cJ cR tb H.size ad pr N L1 L2 u72  (show 0 ≤ (u72.1 0 306).toInt ∧ (u72.1 0 306).toInt ≤ 40 from (om_99e115f631 i30666 q74)) (show 1 ≤ (u72.1 0 306).toInt from (om_dd7a401061 z306 q63 q64 pj66 q74))) tw_528 tw_529 (by decide +kernel) rfl rfl ⟨show 0 + 1 ≤ 8 * n + 16 from om_ae1d63f123, show 8 + (1 + 11) + 0 ≤ 28 * (8 * n + 16) from om_e9b1f44c62⟩ (List.range (cW ad pr N cI cR L1 L2 u72).length) (rg_map _) (nd_range _) 0 rfl rfl rfl rfl hl.1 rfl (Nat.le_of_ble_eq_true rfl) dX2_operand_190 ⟨Nat.le_of_ble_eq_true rfl, Nat.le_of_ble_eq_true rfl⟩) hP hD hS hA (fun u76 H locs hw75 hP hD hS => ?_)
            obtain ⟨fr75, i30675, pj75⟩ := hw75
            have i30675 : 0 ≤ (u76.1 0 306).toInt ∧ (u76.1 0 306).toInt ≤ 40 := i30675
            have pj75 : (u76.1 0 306).toInt = (u72.1 0 306).toInt - 1 := pj75
            refine W.widen (k := 0) (n := 0) (Nat.le_refl _) (Nat.le_refl _) ?_
            refine lv_aload_n hx hb dX2_operand_193 rfl (lv_at hl 0 rfl) ?_
            refine va_get (D := (dC, dI)) (ci := 6) (fs := oF_X2 ad pr u76) (v := .ref (ad 901)) (C := RX2) (T := TX2) (N := 5) hx hb ht itX2 hown hK hP 2 rfl rfl 1 (by decide) (ht _ tw_498) (fun _ h9 => h9) rfl dX2_operand_194 ?_
            refine lv_bipush (v := 23) hx hb dX2_operand_197 (by decide) ?_
            refine lv_iconst (v := 0) hx hb dX2_operand_199 (by decide) ?_
            refine lv_iconst (v := 0) hx hb dX2_operand_200 (by decide) ?_
            have q78 : (u55.1 0 381).toInt = (v.1 0 381).toInt := congrArg Int32.toInt ((fr54.2.1 381 (by decide)).trans (show v.1 0 381 = (v.1 0 381) by rfl))
            have q79 : (u60.1 0 381).toInt = (u55.1 0 381).toInt := congrArg Int32.toInt ((fr59.2.1 381 (by decide)).trans (show u55.1 0 381 = (u55.1 0 381) by rfl))
            have q80 : (u67.1 0 381).toInt = (u60.1 0 381).toInt := congrArg Int32.toInt ((fr66.2.1 381 (by decide)).trans (show u60.1 0 381 = (u60.1 0 381) by rfl))
            have q81 : (u72.1 0 381).toInt = (u67.1 0 381).toInt := congrArg Int32.toInt ((fr71.2.1 381 (by decide)).trans (show u67.1 0 381 = (u67.1 0 381) by rfl))
            have q82 : (u76.1 0 381).toInt = (u72.1 0 381).toInt := congrArg Int32.toInt ((fr75.2.1 381 (by decide)).trans (show u72.1 0 381 = (u72.1 0 381) by rfl))
            refine cu_v (rn_Vk (n := 3) (As := [.int 23, .int 0, .int 0]) (rest := []) hx hb hml hown ht hKK hFx hP hD hS hA (c_x_X1_add l dC dI cI cB cZ cJ cR tb H.size ad pr N L1 L2 u76 (23 : Int32) (0 : Int32) (0 : Int32) ps (show 0 ≤ (u76.1 0 381).toInt ∧ (u76.1 0 381).toInt ≤ 3008 from (om_712fbb48b1 z381 q78 q79 q80 q81 q82)) (show pr ps = ad 908 from hps) (show (u76.1 0 310) = ps from (Eq.trans (fr75.2.1 310 (by decide)) (Eq.trans (fr71.2.1 310 (by decide)) (Eq.trans (fr66.2.1 310 (by decide)) (Eq.trans (fr59.2.1 310 (by decide)) (Eq.trans (fr54.2.1 310 (by decide)) es310))))))) tw_499 tw_500 (by decide +kernel) rfl rfl ⟨show 0 + 1 ≤ 8 * n + 16 from om_ae1d63f123, show 8 + (5 + 11) + 0 ≤ 28 * (8 * n + 16) from om_c598daa799⟩ (List.range (cW ad pr N cI cR L1 L2 u76).length) (rg_map _) (nd_range _) 1 rfl rfl rfl rfl hl.1 rfl (Nat.le_of_ble_eq_true rfl) dX2_operand_201 ⟨Nat.le_of_ble_eq_true rfl, Nat.le_of_ble_eq_true rfl⟩) hP hD hS hA (fun u84 H locs hw83 hP hD hS => ?_)
            obtain ⟨fr83, i38183⟩ := hw83
            have i38183 : 0 ≤ (u84.1 0 381).toInt ∧ (u84.1 0 381).toInt ≤ 3008 := i38183
            refine W.widen (k := 0) (n := 0) (Nat.le_refl _) (Nat.le_refl _) ?_
            refine lv_iconst (v := 0) hx hb dX2_operand_204 (by decide) ?_
            have q86 : (u84.1 0 306).toInt = (u76.1 0 306).toInt := congrArg Int32.toInt ((fr83.2.1 306 (by decide)).trans (show u76.1 0 306 = (u76.1 0 306) by rfl))
            have q87 : (u55.1 0 321).toInt = (v.1 0 321).toInt := congrArg Int32.toInt ((fr54.2.1 321 (by decide)).trans (show v.1 0 321 = (v.1 0 321) by rfl))
            have q88 : (u60.1 0 321).toInt = (u55.1 0 321).toInt := congrArg Int32.toInt ((fr59.2.1 321 (by decide)).trans (show u55.1 0 321 = (u55.1 0 321) by rfl))
            have q89 : (u67.1 0 321).toInt = (u60.1 0 321).toInt := congrArg Int32.toInt ((fr66.2.1 321 (by decide)).trans (show u60.1 0 321 = (u60.1 0 321) by rfl))
            have q90 : (u72.1 0 321).toInt = (u67.1 0 321).toInt := congrArg Int32.toInt ((fr71.2.1 321 (by decide)).trans (show u67.1 0 321 = (u67.1 0 321) by rfl))
            have q91 : (u76.1 0 321).toInt = (u72.1 0 321).toInt := congrArg Int32.toInt ((fr75.2.1 321 (by decide)).trans (show u72.1 0 321 = (u72.1 0 321) by rfl))
            have q92 : (u84.1 0 321).toInt = (u76.1 0 321).toInt := congrArg Int32.toInt ((fr83.2.1 321 (by decide)).trans (show u76.1 0 321 = (u76.1 0 321) by rfl))
            have q93 : (u55.1 0 326).toInt = (v.1 0 326).toInt := congrArg Int32.toInt ((fr54.2.1 326 (by decide)).trans (show v.1 0 326 = (v.1 0 326) by rfl))
            have q94 : (u60.1 0 326).toInt = (u55.1 0 326).toInt := congrArg Int32.toInt ((fr59.2.1 326 (by decide)).trans (show u55.1 0 326 = (u55.1 0 326) by rfl))
            have q95 : (u67.1 0 326).toInt = (u60.1 0 326).toInt := congrArg Int32.toInt ((fr66.2.1 326 (by decide)).trans (show u60.1 0 326 = (u60.1 0 326) by rfl))
            have q96 : (u72.1 0 326).toInt = (u67.1 0 326).toInt := congrArg Int32.toInt ((fr71.2.1 326 (by decide)).trans (show u67.1 0 326 = (u67.1 0 326) by rfl))
            have q97 : (u76.1 0 326).toInt = (u72.1 0 326).toInt := congrArg Int32.toInt ((fr75.2.1 326 (by decide)).trans (show u72.1 0 326 = (u72.1 0 326) by rfl))
            have q98 : (u84.1 0 326).toInt = (u76.1 0 326).toInt := congrArg Int32.toInt ((fr83.2.1 326 (by decide)).trans (show u76.1 0 326 = (u76.1 0 326) by rfl))
            refine W.sz (fun hz => ?_)
            refine vx_ret ?_
            refine W.widen (k := 1) (n := 6) (Nat.le_of_ble_eq_true rfl) (Nat.le_of_ble_eq_true rfl) ?_
            exact W.zret (v := 0) hx hb hr rfl (fun t ht9 hW => ⟨⟨0, u84, rfl, ⟨(FC.tr (FC.tr (FC.tr (FC.tr (FC.tr (FC.tr (FC.rf _) (FC.up fr54 (by decide) (by decide))) (FC.up fr59 (by decide) (by decide))) (FC.up fr66 (by decide) (by decide))) (FC.up fr71 (by decide) (by decide))) (FC.up fr75 (by decide) (by decide))) (FC.up fr83 (by decide) (by decide))), (show 0 ≤ (u84.1 0 306).toInt ∧ (u84.1 0 306).toInt ≤ 40 from (om_9c4f3a2e9c i30666 q74 i30675 pj75 q86)), (show 0 ≤ (u84.1 0 321).toInt ∧ (u84.1 0 321).toInt ≤ 501 from (om_69473c0e90 z321 q87 q88 q89 q90 q91 q92)), (show 0 ≤ (u84.1 0 326).toInt ∧ (u84.1 0 326).toInt ≤ 420 from (om_49eb06c282 z326 q93 q94 q95 q96 q97 q98)), (show 0 ≤ (u84.1 0 381).toInt ∧ (u84.1 0 381).toInt ≤ 3008 from (om_e78eec72e1 i38183)), (show (u84.1 0 306).toInt = (v.1 0 306).toInt from (om_901bcf77d5 q63 q64 pj66 q74 pj75 q86)), (Or.inl rfl)⟩, ⟨by rw [ht9]; exact hP, hD⟩, by rw [ht9]; exact hz⟩, hS.F ht9⟩) hS.2.2 dX2_operand_205
          ·
            by_cases h99 : r3 = 30
            · refine lv_lookup (off := 199) (tgt := 206) hx hb dX2_operand_7 (by decide) (by rw [h99]; decide) (by decide) ?_
              refine lv_aload_n hx hb dX2_operand_206 rfl (lv_at hl 0 rfl) ?_
              refine va_get (D := (dC, dI)) (ci := 6) (fs := oF_X2 ad pr v) (v := .ref (ad 900)) (C := RX2) (T := TX2) (N := 5) hx hb ht itX2 hown hK hP 2 rfl rfl 0 (by decide) (ht _ tw_509) (fun _ h9 => h9) rfl dX2_operand_207 ?_
              refine W.sz (fun hz9 => ?_)
              refine czx_v (rx_Vk (n := 0) (As := []) (rest := []) hx hb hml hown ht hKK hFx hP hD hS hA (c_x_X9_open l dC dI cI cB cZ cJ cR tb H.size ad pr N L1 L2 v ps (show 0 ≤ (v.1 0 304).toInt ∧ (v.1 0 304).toInt ≤ 1503 from (om_c99648273b z304)) (show 0 ≤ (v.1 0 306).toInt ∧ (v.1 0 306).toInt ≤ 40 from (om_7eaf33e007 z306)) (show 0 ≤ (v.1 0 373).toInt ∧ (v.1 0 373).toInt ≤ 4000 from (om_c74a68af25 z373)) (show pr ps = ad 908 from hps) (show (v.1 0 300) = ps from es300) (show l.stackTraces = false from hst)) tw_524 tw_525 (by decide +kernel) rfl rfl ⟨show 7 + 1 ≤ 8 * n + 16 from om_80738ea86d, show 8 + (1 + 11) + 104 ≤ 28 * (8 * n + 16) from om_4c5be64de3⟩ (List.range (cW ad pr N cI cR L1 L2 v).length) (rg_map _) (nd_range _) 0 rfl rfl rfl rfl hl.1 rfl (Nat.le_of_ble_eq_true rfl) dX2_operand_210 ⟨Nat.le_of_ble_eq_true rfl, Nat.le_of_ble_eq_true rfl⟩) hP hD hS hA (fun u9 ce9 q9 H locs hx9 hP hD hS hc9 hv9 hf9 => ?_) (fun u101 H locs hw100 hP hD hS hz8 => ?_)
              · exact vx_out (fun x h9 => (hnt x h9).elim) hlocks hc9 hv9 hf9 (fun t9 ht9 hv8 => ⟨u9, ⟨FC.tr (FC.rf _) hx9.1, hx9.2⟩, ⟨rfl, by rw [ht9]; exact hP, hD⟩, hS.F ht9⟩) hS.2.2 (Nat.le_refl _) (Nat.le_refl _)
              refine W.shrink (hz8.trans hz9) ?_
              obtain ⟨fr100, i306100, pj100⟩ := hw100
              refine lv_aload_n hx hb dX2_operand_213 rfl (lv_at hl 0 rfl) ?_
              refine lv_iconst (v := 1) hx hb dX2_operand_214 (by decide) ?_
              obtain ⟨n103, hn104⟩ : ∃ m, n = m + 1 := ex_z (om_ca6f0c0f01 zn i306100 pj100)
              have q105 : (u101.1 0 304).toInt = (v.1 0 304).toInt := congrArg Int32.toInt ((fr100.2.1 304 (by decide)).trans (show v.1 0 304 = (v.1 0 304) by rfl))
              have q106 : (u101.1 0 312).toInt = (v.1 0 312).toInt := congrArg Int32.toInt ((fr100.2.1 312 (by decide)).trans (show v.1 0 312 = (v.1 0 312) by rfl))
              have q107 : (u101.1 0 321).toInt = (v.1 0 321).toInt := congrArg Int32.toInt ((fr100.2.1 321 (by decide)).trans (show v.1 0 321 = (v.1 0 321) by rfl))
              have q108 : (u101.1 0 326).toInt = (v.1 0 326).toInt := congrArg Int32.toInt ((fr100.2.1 326 (by decide)).trans (show v.1 0 326 = (v.1 0 326) by rfl))
              have q109 : (u101.1 0 373).toInt = (v.1 0 373).toInt := congrArg Int32.toInt ((fr100.2.1 373 (by decide)).trans (show v.1 0 373 = (v.1 0 373) by rfl))
              have q110 : (u101.1 0 381).toInt = (v.1 0 381).toInt := congrArg Int32.toInt ((fr100.2.1 381 (by decide)).trans (show v.1 0 381 = (v.1 0 381) by rfl))
              refine W.sz (fun hz9 => ?_)
              refine czx_v (rx_Vk (n := 1) (As := [.int 1]) (rest := []) hx hb hml hown ht hKK hFx hP hD hS hA (ihE n103 hn104 dC dI cI cB cZ cJ cR tb H.size ad pr N L1 L2 u101 (1 : Int32) ps (show 0 ≤ (u101.1 0 304).toInt ∧ (u101.1 0 304).toInt ≤ 1503 from (om_73002589c1 z304 q105)) (show 0 ≤ (u101.1 0 306).toInt ∧ (u101.1 0 306).toInt ≤ 40 from (om_31a8ca9d36 z306 i306100 pj100)) (show 0 ≤ (u101.1 0 312).toInt ∧ (u101.1 0 312).toInt ≤ 500 from (om_f8376ff89c z312 q106)) (show 0 ≤ (u101.1 0 321).toInt ∧ (u101.1 0 321).toInt ≤ 501 from (om_ff27494c0e z321 q107)) (show 0 ≤ (u101.1 0 326).toInt ∧ (u101.1 0 326).toInt ≤ 420 from (om_8ed0dedb19 z326 q108)) (show 0 ≤ (u101.1 0 373).toInt ∧ (u101.1 0 373).toInt ≤ 4000 from (om_9084c127ed z373 q109)) (show 0 ≤ (u101.1 0 381).toInt ∧ (u101.1 0 381).toInt ≤ 3008 from (om_6e4eb11ad3 z381 q110)) (show L1.length = 40 from hL1) (show L2.length = 60 from hL2) (show RP u101 from ((show FC [305, 306, 307, 314, 315, 317, 321, 326, 381] [0, 316, 318, 319, 320, 324, 325, 378, 379, 380] v u101 from (FC.tr (FC.rf _) (FC.up fr100 (by decide) (by decide)))).1 rp)) (show pr ps = ad 908 from hps) (show (u101.1 0 300) = ps from (Eq.trans (fr100.2.1 300 (by decide)) es300)) (show (u101.1 0 310) = ps from (Eq.trans (fr100.2.1 310 (by decide)) es310)) (show l.stackTraces = false from hst) (show 40 ≤ (u101.1 0 306).toInt + (n103 : Int) from (om_5c65d2983c zn pj100 hn104))) tw_520 tw_521 (by decide +kernel) rfl rfl ⟨show (8 * n103 + 20) + 1 ≤ 8 * n + 16 from (om_c2eb7aaa98 hn104), show 8 + (5 + 11) + 28 * (8 * n103 + 20) ≤ 28 * (8 * n + 16) from (om_c2d39c1233 hn104)⟩ (List.range (cW ad pr N cI cR L1 L2 u101).length) (rg_map _) (nd_range _) 2 rfl rfl rfl rfl hl.1 rfl (Nat.le_of_ble_eq_true rfl) dX2_operand_215 ⟨Nat.le_of_ble_eq_true rfl, Nat.le_of_ble_eq_true rfl⟩) hP hD hS hA (fun u9 ce9 q9 H locs hx9 hP hD hS hc9 hv9 hf9 => ?_) (fun u112 H locs hw111 hP hD hS hz8 => ?_)
              · exact vx_out (fun x h9 => (hnt x h9).elim) hlocks hc9 hv9 hf9 (fun t9 ht9 hv8 => ⟨u9, ⟨FC.tr (FC.tr (FC.rf _) (FC.up fr100 (by decide) (by decide))) hx9.1, hx9.2⟩, ⟨rfl, by rw [ht9]; exact hP, hD⟩, hS.F ht9⟩) hS.2.2 (Nat.le_refl _) (Nat.le_refl _)
              refine W.shrink (hz8.trans hz9) ?_
              obtain ⟨fr111, i306111, i321111, i326111, i381111, po111⟩ := hw111
              have i306111 : 0 ≤ (u112.1 0 306).toInt ∧ (u112.1 0 306).toInt ≤ 40 := i306111
              have i321111 : 0 ≤ (u112.1 0 321).toInt ∧ (u112.1 0 321).toInt ≤ 501 := i321111
              have i326111 : 0 ≤ (u112.1 0 326).toInt ∧ (u112.1 0 326).toInt ≤ 420 := i326111
              have i381111 : 0 ≤ (u112.1 0 381).toInt ∧ (u112.1 0 381).toInt ≤ 3008 := i381111
              have po111 : (u112.1 0 306).toInt = (u101.1 0 306).toInt := po111
              refine lv_aload_n hx hb dX2_operand_218 rfl (lv_at hl 0 rfl) ?_
              refine va_get (D := (dC, dI)) (ci := 6) (fs := oF_X2 ad pr u112) (v := .ref (ad 900)) (C := RX2) (T := TX2) (N := 5) hx hb ht itX2 hown hK hP 2 rfl rfl 0 (by decide) (ht _ tw_509) (fun _ h9 => h9) rfl dX2_operand_219 ?_
              refine lv_bipush (v := 31) hx hb dX2_operand_222 (by decide) ?_
              have q114 : (u112.1 0 304).toInt = (u101.1 0 304).toInt := congrArg Int32.toInt ((fr111.2.1 304 (by decide)).trans (show u101.1 0 304 = (u101.1 0 304) by rfl))
              have q115 : (u112.1 0 373).toInt = (u101.1 0 373).toInt := congrArg Int32.toInt ((fr111.2.1 373 (by decide)).trans (show u101.1 0 373 = (u101.1 0 373) by rfl))
              refine W.sz (fun hz9 => ?_)
              refine czx_v (rx_Vk (n := 1) (As := [.int 31]) (rest := []) hx hb hml hown ht hKK hFx hP hD hS hA (c_x_X9_expect l dC dI cI cB cZ cJ cR tb H.size ad pr N L1 L2 u112 (31 : Int32) ps (show 0 ≤ (u112.1 0 304).toInt ∧ (u112.1 0 304).toInt ≤ 1503 from (om_dd87ee851a z304 q105 q114)) (show 0 ≤ (u112.1 0 373).toInt ∧ (u112.1 0 373).toInt ≤ 4000 from (om_03cd8767ac z373 q109 q115)) (show pr ps = ad 908 from hps) (show (u112.1 0 300) = ps from (Eq.trans (fr111.2.1 300 (by decide)) (Eq.trans (fr100.2.1 300 (by decide)) es300))) (show l.stackTraces = false from hst)) tw_526 tw_527 (by decide +kernel) rfl rfl ⟨show 7 + 1 ≤ 8 * n + 16 from om_80738ea86d, show 8 + (2 + 11) + 104 ≤ 28 * (8 * n + 16) from om_6c7d6f0de2⟩ (List.range (cW ad pr N cI cR L1 L2 u112).length) (rg_map _) (nd_range _) 0 rfl rfl rfl rfl hl.1 rfl (Nat.le_of_ble_eq_true rfl) dX2_operand_224 ⟨Nat.le_of_ble_eq_true rfl, Nat.le_of_ble_eq_true rfl⟩) hP hD hS hA (fun u9 ce9 q9 H locs hx9 hP hD hS hc9 hv9 hf9 => ?_) (fun u117 H locs hw116 hP hD hS hz8 => ?_)
              · exact vx_out (fun x h9 => (hnt x h9).elim) hlocks hc9 hv9 hf9 (fun t9 ht9 hv8 => ⟨u9, ⟨FC.tr (FC.tr (FC.tr (FC.rf _) (FC.up fr100 (by decide) (by decide))) (FC.up fr111 (by decide) (by decide))) hx9.1, hx9.2⟩, ⟨rfl, by rw [ht9]; exact hP, hD⟩, hS.F ht9⟩) hS.2.2 (Nat.le_refl _) (Nat.le_refl _)
              refine W.shrink (hz8.trans hz9) ?_
              have fr116 := hw116
              refine lv_aload_n hx hb dX2_operand_227 rfl (lv_at hl 0 rfl) ?_
              refine va_get (D := (dC, dI)) (ci := 6) (fs := oF_X2 ad pr u117) (v := .ref (ad 900)) (C := RX2) (T := TX2) (N := 5) hx hb ht itX2 hown hK hP 2 rfl rfl 0 (by decide) (ht _ tw_509) (fun _ h9 => h9) rfl dX2_operand_228 ?_
              have q119 : (u117.1 0 306).toInt = (u112.1 0 306).toInt := congrArg Int32.toInt ((fr116.2.1 306 (by decide)).trans (show u112.1 0 306 = (u112.1 0 306) by rfl))
              refine cu_v (rn_Vk (n := 0) (As := []) (rest := []) hx hb hml hown ht hKK hFx hP hD hS hA (c_x_X9_close l dC dI cI cB cZ cJ cR tb H.size ad pr N L1 L2 u117  (show 0 ≤ (u117.1 0 306).toInt ∧ (u117.1 0 306).toInt ≤ 40 from (om_d6433c88a8 z306 pj100 i306111 po111 q119)) (show 1 ≤ (u117.1 0 306).toInt from (om_22aff8ea1a z306 pj100 po111 q119))) tw_528 tw_529 (by decide +kernel) rfl rfl ⟨show 0 + 1 ≤ 8 * n + 16 from om_ae1d63f123, show 8 + (1 + 11) + 0 ≤ 28 * (8 * n + 16) from om_e9b1f44c62⟩ (List.range (cW ad pr N cI cR L1 L2 u117).length) (rg_map _) (nd_range _) 0 rfl rfl rfl rfl hl.1 rfl (Nat.le_of_ble_eq_true rfl) dX2_operand_231 ⟨Nat.le_of_ble_eq_true rfl, Nat.le_of_ble_eq_true rfl⟩) hP hD hS hA (fun u121 H locs hw120 hP hD hS => ?_)
              obtain ⟨fr120, i306120, pj120⟩ := hw120
              have i306120 : 0 ≤ (u121.1 0 306).toInt ∧ (u121.1 0 306).toInt ≤ 40 := i306120
              have pj120 : (u121.1 0 306).toInt = (u117.1 0 306).toInt - 1 := pj120
              refine W.widen (k := 0) (n := 0) (Nat.le_refl _) (Nat.le_refl _) ?_
              refine lv_iconst (v := 0) hx hb dX2_operand_234 (by decide) ?_
              have q123 : (u117.1 0 321).toInt = (u112.1 0 321).toInt := congrArg Int32.toInt ((fr116.2.1 321 (by decide)).trans (show u112.1 0 321 = (u112.1 0 321) by rfl))
              have q124 : (u121.1 0 321).toInt = (u117.1 0 321).toInt := congrArg Int32.toInt ((fr120.2.1 321 (by decide)).trans (show u117.1 0 321 = (u117.1 0 321) by rfl))
              have q125 : (u117.1 0 326).toInt = (u112.1 0 326).toInt := congrArg Int32.toInt ((fr116.2.1 326 (by decide)).trans (show u112.1 0 326 = (u112.1 0 326) by rfl))
              have q126 : (u121.1 0 326).toInt = (u117.1 0 326).toInt := congrArg Int32.toInt ((fr120.2.1 326 (by decide)).trans (show u117.1 0 326 = (u117.1 0 326) by rfl))
              have q127 : (u117.1 0 381).toInt = (u112.1 0 381).toInt := congrArg Int32.toInt ((fr116.2.1 381 (by decide)).trans (show u112.1 0 381 = (u112.1 0 381) by rfl))
              have q128 : (u121.1 0 381).toInt = (u117.1 0 381).toInt := congrArg Int32.toInt ((fr120.2.1 381 (by decide)).trans (show u117.1 0 381 = (u117.1 0 381) by rfl))
              refine W.sz (fun hz => ?_)
              refine vx_ret ?_
              refine W.widen (k := 1) (n := 6) (Nat.le_of_ble_eq_true rfl) (Nat.le_of_ble_eq_true rfl) ?_
              exact W.zret (v := 0) hx hb hr rfl (fun t ht9 hW => ⟨⟨0, u121, rfl, ⟨(FC.tr (FC.tr (FC.tr (FC.tr (FC.rf _) (FC.up fr100 (by decide) (by decide))) (FC.up fr111 (by decide) (by decide))) (FC.up fr116 (by decide) (by decide))) (FC.up fr120 (by decide) (by decide))), (show 0 ≤ (u121.1 0 306).toInt ∧ (u121.1 0 306).toInt ≤ 40 from (om_7eaf33e007 i306120)), (show 0 ≤ (u121.1 0 321).toInt ∧ (u121.1 0 321).toInt ≤ 501 from (om_4dfa815534 i321111 q123 q124)), (show 0 ≤ (u121.1 0 326).toInt ∧ (u121.1 0 326).toInt ≤ 420 from (om_9591dea625 i326111 q125 q126)), (show 0 ≤ (u121.1 0 381).toInt ∧ (u121.1 0 381).toInt ≤ 3008 from (om_769192f2a4 i381111 q127 q128)), (show (u121.1 0 306).toInt = (v.1 0 306).toInt from (om_4fee7d990b pj100 po111 q119 pj120)), (Or.inl rfl)⟩, ⟨by rw [ht9]; exact hP, hD⟩, by rw [ht9]; exact hz⟩, hS.F ht9⟩) hS.2.2 dX2_operand_235
            ·
              by_cases h129 : r3 = 40
              · refine lv_lookup (off := 89) (tgt := 96) hx hb dX2_operand_7 (by decide) (by rw [h129]; decide) (by decide) ?_
                refine lv_aload_n hx hb dX2_operand_96 rfl (lv_at hl 0 rfl) ?_
                refine lv_bipush (v := 13) hx hb dX2_operand_97 (by decide) ?_
                refine W.sz (fun hz9 => ?_)
                refine czx_v (rx_Vk (n := 1) (As := [.int 13]) (rest := []) hx hb hml hown ht hKK hFx hP hD hS hA (c_x_X2_unary l n ihO dC dI cI cB cZ cJ cR tb H.size ad pr N L1 L2 v (13 : Int32) ps (show 0 ≤ (v.1 0 304).toInt ∧ (v.1 0 304).toInt ≤ 1503 from (om_c99648273b z304)) (show 0 ≤ (v.1 0 306).toInt ∧ (v.1 0 306).toInt ≤ 40 from (om_7eaf33e007 z306)) (show 0 ≤ (v.1 0 312).toInt ∧ (v.1 0 312).toInt ≤ 500 from (om_9861e69da5 z312)) (show 0 ≤ (v.1 0 321).toInt ∧ (v.1 0 321).toInt ≤ 501 from (om_e1d35f5faf z321)) (show 0 ≤ (v.1 0 326).toInt ∧ (v.1 0 326).toInt ≤ 420 from (om_839d7ed7dd z326)) (show 0 ≤ (v.1 0 373).toInt ∧ (v.1 0 373).toInt ≤ 4000 from (om_c74a68af25 z373)) (show 0 ≤ (v.1 0 381).toInt ∧ (v.1 0 381).toInt ≤ 3008 from (om_e78eec72e1 z381)) (show L1.length = 40 from hL1) (show L2.length = 60 from hL2) (show RP v from rp) (show pr ps = ad 908 from hps) (show (v.1 0 300) = ps from es300) (show (v.1 0 310) = ps from es310) (show l.stackTraces = false from hst) (show 40 ≤ (v.1 0 306).toInt + (n : Int) from (om_a9150ae9b6 zn))) tw_561 tw_562 (by decide +kernel) rfl rfl ⟨show (8 * n + 14) + 1 ≤ 8 * n + 16 from om_05cf7bd78c, show 8 + (2 + 11) + 28 * (8 * n + 14) ≤ 28 * (8 * n + 16) from om_e3c8a2a66c⟩ (List.range (cW ad pr N cI cR L1 L2 v).length) (rg_map _) (nd_range _) 2 rfl rfl rfl rfl hl.1 rfl (Nat.le_of_ble_eq_true rfl) dX2_operand_99 ⟨Nat.le_of_ble_eq_true rfl, Nat.le_of_ble_eq_true rfl⟩) hP hD hS hA (fun u9 ce9 q9 H locs hx9 hP hD hS hc9 hv9 hf9 => ?_) (fun u131 H locs hw130 hP hD hS hz8 => ?_)
                · exact vx_out (fun x h9 => (hnt x h9).elim) hlocks hc9 hv9 hf9 (fun t9 ht9 hv8 => ⟨u9, ⟨FC.tr (FC.rf _) hx9.1, hx9.2⟩, ⟨rfl, by rw [ht9]; exact hP, hD⟩, hS.F ht9⟩) hS.2.2 (Nat.le_refl _) (Nat.le_refl _)
                refine W.shrink (hz8.trans hz9) ?_
                obtain ⟨fr130, i306130, i321130, i326130, i381130, po130⟩ := hw130
                refine lv_iconst (v := 0) hx hb dX2_operand_102 (by decide) ?_
                refine W.sz (fun hz => ?_)
                refine vx_ret ?_
                refine W.widen (k := 1) (n := 6) (Nat.le_of_ble_eq_true rfl) (Nat.le_of_ble_eq_true rfl) ?_
                exact W.zret (v := 0) hx hb hr rfl (fun t ht9 hW => ⟨⟨0, u131, rfl, ⟨(FC.tr (FC.rf _) (FC.up fr130 (by decide) (by decide))), (show 0 ≤ (u131.1 0 306).toInt ∧ (u131.1 0 306).toInt ≤ 40 from (om_7eaf33e007 i306130)), (show 0 ≤ (u131.1 0 321).toInt ∧ (u131.1 0 321).toInt ≤ 501 from (om_e1d35f5faf i321130)), (show 0 ≤ (u131.1 0 326).toInt ∧ (u131.1 0 326).toInt ≤ 420 from (om_839d7ed7dd i326130)), (show 0 ≤ (u131.1 0 381).toInt ∧ (u131.1 0 381).toInt ≤ 3008 from (om_e78eec72e1 i381130)), (show (u131.1 0 306).toInt = (v.1 0 306).toInt from (om_5049cbdce5 po130)), (Or.inl rfl)⟩, ⟨by rw [ht9]; exact hP, hD⟩, by rw [ht9]; exact hz⟩, hS.F ht9⟩) hS.2.2 dX2_operand_103
              ·
                by_cases h133 : r3 = 41
                · refine lv_lookup (off := 97) (tgt := 104) hx hb dX2_operand_7 (by decide) (by rw [h133]; decide) (by decide) ?_
                  refine lv_aload_n hx hb dX2_operand_104 rfl (lv_at hl 0 rfl) ?_
                  refine lv_bipush (v := 14) hx hb dX2_operand_105 (by decide) ?_
                  refine W.sz (fun hz9 => ?_)
                  refine czx_v (rx_Vk (n := 1) (As := [.int 14]) (rest := []) hx hb hml hown ht hKK hFx hP hD hS hA (c_x_X2_unary l n ihO dC dI cI cB cZ cJ cR tb H.size ad pr N L1 L2 v (14 : Int32) ps (show 0 ≤ (v.1 0 304).toInt ∧ (v.1 0 304).toInt ≤ 1503 from (om_c99648273b z304)) (show 0 ≤ (v.1 0 306).toInt ∧ (v.1 0 306).toInt ≤ 40 from (om_7eaf33e007 z306)) (show 0 ≤ (v.1 0 312).toInt ∧ (v.1 0 312).toInt ≤ 500 from (om_9861e69da5 z312)) (show 0 ≤ (v.1 0 321).toInt ∧ (v.1 0 321).toInt ≤ 501 from (om_e1d35f5faf z321)) (show 0 ≤ (v.1 0 326).toInt ∧ (v.1 0 326).toInt ≤ 420 from (om_839d7ed7dd z326)) (show 0 ≤ (v.1 0 373).toInt ∧ (v.1 0 373).toInt ≤ 4000 from (om_c74a68af25 z373)) (show 0 ≤ (v.1 0 381).toInt ∧ (v.1 0 381).toInt ≤ 3008 from (om_e78eec72e1 z381)) (show L1.length = 40 from hL1) (show L2.length = 60 from hL2) (show RP v from rp) (show pr ps = ad 908 from hps) (show (v.1 0 300) = ps from es300) (show (v.1 0 310) = ps from es310) (show l.stackTraces = false from hst) (show 40 ≤ (v.1 0 306).toInt + (n : Int) from (om_a9150ae9b6 zn))) tw_561 tw_562 (by decide +kernel) rfl rfl ⟨show (8 * n + 14) + 1 ≤ 8 * n + 16 from om_05cf7bd78c, show 8 + (2 + 11) + 28 * (8 * n + 14) ≤ 28 * (8 * n + 16) from om_e3c8a2a66c⟩ (List.range (cW ad pr N cI cR L1 L2 v).length) (rg_map _) (nd_range _) 2 rfl rfl rfl rfl hl.1 rfl (Nat.le_of_ble_eq_true rfl) dX2_operand_107 ⟨Nat.le_of_ble_eq_true rfl, Nat.le_of_ble_eq_true rfl⟩) hP hD hS hA (fun u9 ce9 q9 H locs hx9 hP hD hS hc9 hv9 hf9 => ?_) (fun u135 H locs hw134 hP hD hS hz8 => ?_)
                  · exact vx_out (fun x h9 => (hnt x h9).elim) hlocks hc9 hv9 hf9 (fun t9 ht9 hv8 => ⟨u9, ⟨FC.tr (FC.rf _) hx9.1, hx9.2⟩, ⟨rfl, by rw [ht9]; exact hP, hD⟩, hS.F ht9⟩) hS.2.2 (Nat.le_refl _) (Nat.le_refl _)
                  refine W.shrink (hz8.trans hz9) ?_
                  obtain ⟨fr134, i306134, i321134, i326134, i381134, po134⟩ := hw134
                  refine lv_iconst (v := 0) hx hb dX2_operand_110 (by decide) ?_
                  refine W.sz (fun hz => ?_)
                  refine vx_ret ?_
                  refine W.widen (k := 1) (n := 6) (Nat.le_of_ble_eq_true rfl) (Nat.le_of_ble_eq_true rfl) ?_
                  exact W.zret (v := 0) hx hb hr rfl (fun t ht9 hW => ⟨⟨0, u135, rfl, ⟨(FC.tr (FC.rf _) (FC.up fr134 (by decide) (by decide))), (show 0 ≤ (u135.1 0 306).toInt ∧ (u135.1 0 306).toInt ≤ 40 from (om_7eaf33e007 i306134)), (show 0 ≤ (u135.1 0 321).toInt ∧ (u135.1 0 321).toInt ≤ 501 from (om_e1d35f5faf i321134)), (show 0 ≤ (u135.1 0 326).toInt ∧ (u135.1 0 326).toInt ≤ 420 from (om_839d7ed7dd i326134)), (show 0 ≤ (u135.1 0 381).toInt ∧ (u135.1 0 381).toInt ≤ 3008 from (om_e78eec72e1 i381134)), (show (u135.1 0 306).toInt = (v.1 0 306).toInt from (om_5049cbdce5 po134)), (Or.inl rfl)⟩, ⟨by rw [ht9]; exact hP, hD⟩, by rw [ht9]; exact hz⟩, hS.F ht9⟩) hS.2.2 dX2_operand_111
                ·
                  by_cases h137 : r3 = 54
                  · refine lv_lookup (off := 81) (tgt := 88) hx hb dX2_operand_7 (by decide) (by rw [h137]; decide) (by decide) ?_
                    refine lv_aload_n hx hb dX2_operand_88 rfl (lv_at hl 0 rfl) ?_
                    refine lv_bipush (v := 12) hx hb dX2_operand_89 (by decide) ?_
                    refine W.sz (fun hz9 => ?_)
                    refine czx_v (rx_Vk (n := 1) (As := [.int 12]) (rest := []) hx hb hml hown ht hKK hFx hP hD hS hA (c_x_X2_unary l n ihO dC dI cI cB cZ cJ cR tb H.size ad pr N L1 L2 v (12 : Int32) ps (show 0 ≤ (v.1 0 304).toInt ∧ (v.1 0 304).toInt ≤ 1503 from (om_c99648273b z304)) (show 0 ≤ (v.1 0 306).toInt ∧ (v.1 0 306).toInt ≤ 40 from (om_7eaf33e007 z306)) (show 0 ≤ (v.1 0 312).toInt ∧ (v.1 0 312).toInt ≤ 500 from (om_9861e69da5 z312)) (show 0 ≤ (v.1 0 321).toInt ∧ (v.1 0 321).toInt ≤ 501 from (om_e1d35f5faf z321)) (show 0 ≤ (v.1 0 326).toInt ∧ (v.1 0 326).toInt ≤ 420 from (om_839d7ed7dd z326)) (show 0 ≤ (v.1 0 373).toInt ∧ (v.1 0 373).toInt ≤ 4000 from (om_c74a68af25 z373)) (show 0 ≤ (v.1 0 381).toInt ∧ (v.1 0 381).toInt ≤ 3008 from (om_e78eec72e1 z381)) (show L1.length = 40 from hL1) (show L2.length = 60 from hL2) (show RP v from rp) (show pr ps = ad 908 from hps) (show (v.1 0 300) = ps from es300) (show (v.1 0 310) = ps from es310) (show l.stackTraces = false from hst) (show 40 ≤ (v.1 0 306).toInt + (n : Int) from (om_a9150ae9b6 zn))) tw_561 tw_562 (by decide +kernel) rfl rfl ⟨show (8 * n + 14) + 1 ≤ 8 * n + 16 from om_05cf7bd78c, show 8 + (2 + 11) + 28 * (8 * n + 14) ≤ 28 * (8 * n + 16) from om_e3c8a2a66c⟩ (List.range (cW ad pr N cI cR L1 L2 v).length) (rg_map _) (nd_range _) 2 rfl rfl rfl rfl hl.1 rfl (Nat.le_of_ble_eq_true rfl) dX2_operand_91 ⟨Nat.le_of_ble_eq_true rfl, Nat.le_of_ble_eq_true rfl⟩) hP hD hS hA (fun u9 ce9 q9 H locs hx9 hP hD hS hc9 hv9 hf9 => ?_) (fun u139 H locs hw138 hP hD hS hz8 => ?_)
                    · exact vx_out (fun x h9 => (hnt x h9).elim) hlocks hc9 hv9 hf9 (fun t9 ht9 hv8 => ⟨u9, ⟨FC.tr (FC.rf _) hx9.1, hx9.2⟩, ⟨rfl, by rw [ht9]; exact hP, hD⟩, hS.F ht9⟩) hS.2.2 (Nat.le_refl _) (Nat.le_refl _)
                    refine W.shrink (hz8.trans hz9) ?_
                    obtain ⟨fr138, i306138, i321138, i326138, i381138, po138⟩ := hw138
                    refine lv_iconst (v := 0) hx hb dX2_operand_94 (by decide) ?_
                    refine W.sz (fun hz => ?_)
                    refine vx_ret ?_
                    refine W.widen (k := 1) (n := 6) (Nat.le_of_ble_eq_true rfl) (Nat.le_of_ble_eq_true rfl) ?_
                    exact W.zret (v := 0) hx hb hr rfl (fun t ht9 hW => ⟨⟨0, u139, rfl, ⟨(FC.tr (FC.rf _) (FC.up fr138 (by decide) (by decide))), (show 0 ≤ (u139.1 0 306).toInt ∧ (u139.1 0 306).toInt ≤ 40 from (om_7eaf33e007 i306138)), (show 0 ≤ (u139.1 0 321).toInt ∧ (u139.1 0 321).toInt ≤ 501 from (om_e1d35f5faf i321138)), (show 0 ≤ (u139.1 0 326).toInt ∧ (u139.1 0 326).toInt ≤ 420 from (om_839d7ed7dd i326138)), (show 0 ≤ (u139.1 0 381).toInt ∧ (u139.1 0 381).toInt ≤ 3008 from (om_e78eec72e1 i381138)), (show (u139.1 0 306).toInt = (v.1 0 306).toInt from (om_5049cbdce5 po138)), (Or.inl rfl)⟩, ⟨by rw [ht9]; exact hP, hD⟩, by rw [ht9]; exact hz⟩, hS.F ht9⟩) hS.2.2 dX2_operand_95
                  ·
                    refine lv_lookup (off := 235) (tgt := 242) hx hb dX2_operand_7 (by decide) (by show Op.lookupswitch.offset [(2, 229), (3, 105), (4, 130), (5, 105), (20, 147), (30, 199), (40, 89), (41, 97), (54, 81)] 235 _ = 235; rw [lv_osw h4 (by decide), lv_osw h8 (by decide), lv_osw h27 (by decide), lv_osw h34 (by decide), lv_osw h53 (by decide), lv_osw h99 (by decide), lv_osw h129 (by decide), lv_osw h133 (by decide), lv_osw h137 (by decide)]; rfl) (by decide) ?_
                    refine lv_aload_n hx hb dX2_operand_242 rfl (lv_at hl 0 rfl) ?_
                    refine va_get (D := (dC, dI)) (ci := 6) (fs := oF_X2 ad pr v) (v := .ref (ad 900)) (C := RX2) (T := TX2) (N := 5) hx hb ht itX2 hown hK hP 2 rfl rfl 0 (by decide) (ht _ tw_509) (fun _ h9 => h9) rfl dX2_operand_243 ?_
                    refine W.sz (fun hz9 => ?_)
                    refine czx_v (rx_Vk (n := 0) (As := []) (rest := []) hx hb hml hown ht hKK hFx hP hD hS hA (c_x_X9_refuseMisfit l dC dI cI cB cZ cJ cR tb H.size ad pr N L1 L2 v ps (show 0 ≤ (v.1 0 304).toInt ∧ (v.1 0 304).toInt ≤ 1503 from (om_c99648273b z304)) (show 0 ≤ (v.1 0 373).toInt ∧ (v.1 0 373).toInt ≤ 4000 from (om_c74a68af25 z373)) (show pr ps = ad 908 from hps) (show (v.1 0 300) = ps from es300) (show l.stackTraces = false from hst)) tw_563 tw_564 (by decide +kernel) rfl rfl ⟨show 7 + 1 ≤ 8 * n + 16 from om_80738ea86d, show 8 + (1 + 11) + 104 ≤ 28 * (8 * n + 16) from om_4c5be64de3⟩ (List.range (cW ad pr N cI cR L1 L2 v).length) (rg_map _) (nd_range _) 0 rfl rfl rfl rfl hl.1 rfl (Nat.le_of_ble_eq_true rfl) dX2_operand_246 ⟨Nat.le_of_ble_eq_true rfl, Nat.le_of_ble_eq_true rfl⟩) hP hD hS hA (fun u9 ce9 q9 H locs hx9 hP hD hS hc9 hv9 hf9 => ?_) (fun u142 H locs hw141 hP hD hS hz8 => ?_)
                    · exact vx_out (fun x h9 => (hnt x h9).elim) hlocks hc9 hv9 hf9 (fun t9 ht9 hv8 => ⟨u9, ⟨FC.tr (FC.rf _) hx9.1, hx9.2⟩, ⟨rfl, by rw [ht9]; exact hP, hD⟩, hS.F ht9⟩) hS.2.2 (Nat.le_refl _) (Nat.le_refl _)
                    refine W.shrink (hz8.trans hz9) ?_
                    obtain ⟨fr141, no141⟩ := hw141
                    exact no141.elim
theorem om_4ff9781bd1 {n0 : Nat} : (8 * n0 + 16) + 1 ≤ 8 * n0 + 20 := by omega
theorem om_52ba07afcf {n0 : Nat} : 8 + (2 + 11) + 28 * (8 * n0 + 16) ≤ 28 * (8 * n0 + 20) := by omega
theorem om_b1c23a1f42 : 0 ≤ (0 : Int) ∧ (0 : Int) ≤ 1500 := by omega
theorem om_95d2db956e {x0 x1 : Int} (h0 : x0 = x1) : x0 = x1 + 0 := by omega
theorem om_d74c35fdfa {n0 : Nat} : 1 + 1 ≤ 8 * n0 + 20 := by omega
theorem om_76e6510f9d {n0 : Nat} : 8 + (4 + 11) + 24 ≤ 28 * (8 * n0 + 20) := by omega
theorem om_52416184a9 {n0 : Nat} : 0 + 1 ≤ 8 * n0 + 20 := by omega
theorem om_8bb6315d7c {n0 : Nat} : 8 + (1 + 11) + 0 ≤ 28 * (8 * n0 + 20) := by omega
theorem om_4ae332b5e1 {x0 x1 x2 : Int} (h0 : x0 = x1 + 0) (h1 : x2 = x0) : x2 = x1 := by omega
theorem om_9af853d7c7 {x0 x2 x3 : Int} {n1 : Nat} (h0 : 40 ≤ x0 + (n1 : Int)) (h1 : x2 = x0 + 0) (h2 : x3 = x2) : 40 ≤ x3 + (n1 : Int) := by omega
theorem om_638aefdadf {n0 : Nat} : (8 * n0 + 14) + 1 ≤ 8 * n0 + 20 := by omega
theorem om_1d4958472f {n0 : Nat} : 8 + (3 + 11) + 28 * (8 * n0 + 14) ≤ 28 * (8 * n0 + 20) := by omega
theorem om_5fe66bf18b {x0 x1 x2 x3 : Int} (h0 : x0 = x1 + 0) (h1 : x2 = x0) (h2 : x3 = x2) : x3 = x1 := by omega
theorem om_a7220f1dc9 {n0 : Nat} : 8 + (2 + 11) + 0 ≤ 28 * (8 * n0 + 20) := by omega
theorem om_24732090af {n0 : Nat} : 7 + 1 ≤ 8 * n0 + 20 := by omega
theorem om_fe0555df1d {n0 : Nat} : 8 + (3 + 11) + 104 ≤ 28 * (8 * n0 + 20) := by omega
theorem om_762fffe21e {n0 : Nat} : 8 + (1 + 11) + 104 ≤ 28 * (8 * n0 + 20) := by omega
theorem om_b90ca6a272 {x0 x2 x3 x4 x5 : Int} {n1 : Nat} (h0 : 40 ≤ x0 + (n1 : Int)) (h1 : x2 = x0 + 0) (h2 : x3 = x2) (h3 : x4 = x3) (h4 : x5 = x4) : 40 ≤ x5 + (n1 : Int) := by omega
theorem om_8a2b73c54c {x0 : Int} (h0 : 0 ≤ x0 ∧ x0 ≤ 1500) : -2147483648 ≤ x0 + (1 : Int) := by omega
theorem om_3176a8b66b {x0 : Int} (h0 : 0 ≤ x0 ∧ x0 ≤ 1500) : x0 + (1 : Int) < 2147483648 := by omega
theorem om_46db715386 {x0 x1 : Int} (h0 : 0 ≤ x0 ∧ x0 ≤ 1500) (h1 : x0 < (1500 : Int)) (h2 : x1 = x0 + (1 : Int)) : 0 ≤ x1 ∧ x1 ≤ 1500 := by omega
theorem om_44f95a3b0a {x0 x1 x2 x3 x4 x5 : Int} (h0 : x0 = x1 + 0) (h1 : x2 = x0) (h2 : x3 = x2) (h3 : x4 = x3) (h4 : x5 = x4) : x5 = x1 + 0 := by omega
set_option maxHeartbeats 16000000 in
set_option maxRecDepth 100000 in
theorem c_x_X2_expression (l : Launch) (n : Nat) (ihE : ∀ m, n = m + 1 → Cq_expression l m) (O : Cq_operand l n) (dC : Nat → ClassId) (dI : Nat → Nat → Nat) (cI cB cZ cJ cR : ClassId) (tb : Nat → Nat) (sz : Nat) (ad : Nat → Nat) (pr : Int32 → Nat) (N : Nat) (L1 L2 : List Nat) (v : MS) (pa : Int32) (ps : Int32) (z304 : 0 ≤ (v.1 0 304).toInt ∧ (v.1 0 304).toInt ≤ 1503) (z306 : 0 ≤ (v.1 0 306).toInt ∧ (v.1 0 306).toInt ≤ 40) (z312 : 0 ≤ (v.1 0 312).toInt ∧ (v.1 0 312).toInt ≤ 500) (z321 : 0 ≤ (v.1 0 321).toInt ∧ (v.1 0 321).toInt ≤ 501) (z326 : 0 ≤ (v.1 0 326).toInt ∧ (v.1 0 326).toInt ≤ 420) (z373 : 0 ≤ (v.1 0 373).toInt ∧ (v.1 0 373).toInt ≤ 4000) (z381 : 0 ≤ (v.1 0 381).toInt ∧ (v.1 0 381).toInt ≤ 3008) (hL1 : L1.length = 40) (hL2 : L2.length = 60) (rp : RP v) (hps : pr ps = ad 908) (es300 : (v.1 0 300) = ps) (es310 : (v.1 0 310) = ps) (hst : l.stackTraces = false) (zn : 40 ≤ (v.1 0 306).toInt + (n : Int)) : vx_Met l yX2_expression (Cond.code yX2_expression cX2_expression 5 none :: tw_W) ({ frames := 8 * n + 20, cells := 1, slots := 6, locals := 28 * (8 * n + 20) }) (pc_ (dC, dI) (tyS cI cB cZ cJ cR) tb (cW ad pr N cI cR L1 L2 v) sz [.ref (ad 902), .int pa]) (qvz_ (dC, dI) (cW ad pr N cI cR L1 L2 v) sz (fun (u : MS) => FC [305, 306, 307, 314, 315, 317, 321, 326, 381] [0, 316, 318, 319, 320, 324, 325, 378, 379, 380] v u ∧ (0 ≤ (u.1 0 306).toInt ∧ (u.1 0 306).toInt ≤ 40) ∧ (0 ≤ (u.1 0 321).toInt ∧ (u.1 0 321).toInt ≤ 501) ∧ (0 ≤ (u.1 0 326).toInt ∧ (u.1 0 326).toInt ≤ 420) ∧ (0 ≤ (u.1 0 381).toInt ∧ (u.1 0 381).toInt ≤ 3008) ∧ ((u.1 0 306).toInt = (v.1 0 306).toInt)) (fun (u : MS) => (cW ad pr N cI cR L1 L2 u))) (qxc (dC, dI) (cW ad pr N cI cR L1 L2 v) sz (fun (u : MS) => (cW ad pr N cI cR L1 L2 u)) (fun (u : MS) => FC xfl xal v u ∧ (u.1 0 308).toInt ≠ 0)) 1 6 (va_A (cW ad pr N cI cR L1 L2 v) sz) := by
  refine vx_ofW (cc := cX2_expression) (maxL := 5) (ret := none) (by decide) rfl ?_
  intro p e s m args below meth c s₁ B hml hnt hv
  obtain ⟨rfl, hsz, hP, hKK, hD0, hFx⟩ := hv
  have hK := hKK.1
  have hx := B.exec
  have hb := B.bytes
  have hr := B.returns
  have ht : ∀ w ∈ tw_W, w.before _ s = true := fun w h => atoms_spec (ws := Cond.code yX2_expression cX2_expression 5 none :: tw_W) B.pre w (List.mem_cons_of_mem _ h)
  have hown : s.vm.findClass RX2 = some m.cls := findClass_of_methodNamed B.named
  have hlocks := B.notSynchronized
  subst hsz
  unfold qvz_ qxc
  have hD := hD0.self (sz := s.heap.size)
  generalize hAe : va_A (cW ad pr N cI cR L1 L2 v) s.heap.size = A at hD hFx ⊢
  have hA : ∀ q : Nat, s.heap.size ≤ q → A q := fun q h => by rw [← hAe]; exact Or.inr h
  have hS : va_S A s.heap s.heap [] := va_S.rf
  have hl := lv_entry ([.ref (ad 902), .int pa]) (n := 5) (Nat.le_of_ble_eq_true rfl)
  rw [lg_entry_eq]
  generalize (lg_sl ([.ref (ad 902), .int pa]) ++ List.replicate (5 - (lg_sl ([.ref (ad 902), .int pa])).length) Slot.unset).toArray = ls at hl ⊢
  have hl : lv_has ls 5 [(0, .ref (ad 902)), (1, .int pa)] := hl
  refine lv_aload_n hx hb dX2_expression_0 rfl (lv_at hl 0 rfl) ?_
  refine va_get (D := (dC, dI)) (ci := 6) (fs := oF_X2 ad pr v) (v := .int (v.1 0 326)) (C := RX2) (T := TX2) (N := 5) hx hb ht itX2 hown hK hP 2 rfl rfl 4 (by decide) (ht _ tw_495) (fun _ h9 => h9) rfl dX2_expression_1 ?_
  refine lv_istore_n (lv' := [(2, .int (v.1 0 326)), (0, .ref (ad 902)), (1, .int pa)]) hx hb dX2_expression_4 rfl hl (by decide) rfl (fun ls hl => ?_)
  refine lv_aload_n hx hb dX2_expression_5 rfl (lv_at hl 1 rfl) ?_
  refine lv_iload_n hx hb dX2_expression_6 rfl (lv_at hl 2 rfl) ?_
  refine W.sz (fun hz9 => ?_)
  refine czx_i (rx_Vk (n := 1) (As := [.int pa]) (rest := []) hx hb hml hown ht hKK hFx hP hD hS hA (O dC dI cI cB cZ cJ cR tb s.heap.size ad pr N L1 L2 v pa ps (show 0 ≤ (v.1 0 304).toInt ∧ (v.1 0 304).toInt ≤ 1503 from (om_c99648273b z304)) (show 0 ≤ (v.1 0 306).toInt ∧ (v.1 0 306).toInt ≤ 40 from (om_7eaf33e007 z306)) (show 0 ≤ (v.1 0 312).toInt ∧ (v.1 0 312).toInt ≤ 500 from (om_9861e69da5 z312)) (show 0 ≤ (v.1 0 321).toInt ∧ (v.1 0 321).toInt ≤ 501 from (om_e1d35f5faf z321)) (show 0 ≤ (v.1 0 326).toInt ∧ (v.1 0 326).toInt ≤ 420 from (om_839d7ed7dd z326)) (show 0 ≤ (v.1 0 373).toInt ∧ (v.1 0 373).toInt ≤ 4000 from (om_c74a68af25 z373)) (show 0 ≤ (v.1 0 381).toInt ∧ (v.1 0 381).toInt ≤ 3008 from (om_e78eec72e1 z381)) (show L1.length = 40 from hL1) (show L2.length = 60 from hL2) (show RP v from rp) (show pr ps = ad 908 from hps) (show (v.1 0 300) = ps from es300) (show (v.1 0 310) = ps from es310) (show l.stackTraces = false from hst) (show 40 ≤ (v.1 0 306).toInt + (n : Int) from (om_a9150ae9b6 zn))) tw_530 tw_531 (by decide +kernel) rfl rfl ⟨show (8 * n + 16) + 1 ≤ 8 * n + 20 from om_4ff9781bd1, show 8 + (2 + 11) + 28 * (8 * n + 16) ≤ 28 * (8 * n + 20) from om_52ba07afcf⟩ (List.range (cW ad pr N cI cR L1 L2 v).length) (rg_map _) (nd_range _) 2 rfl rfl rfl rfl hl.1 rfl (Nat.le_of_ble_eq_true rfl) dX2_expression_7 ⟨Nat.le_of_ble_eq_true rfl, Nat.le_of_ble_eq_true rfl⟩) hP hD hS hA (fun u9 ce9 q9 H locs hx9 hP hD hS hc9 hv9 hf9 => ?_) (fun r3 u2 H locs hw1 hP hD hS hz8 => ?_)
  · exact vx_out (fun x h9 => (hnt x h9).elim) hlocks hc9 hv9 hf9 (fun t9 ht9 hv8 => ⟨u9, ⟨FC.tr (FC.rf _) hx9.1, hx9.2⟩, ⟨rfl, by rw [ht9]; exact hP, hD⟩, hS.F ht9⟩) hS.2.2 (Nat.le_refl _) (Nat.le_refl _)
  refine W.shrink (hz8.trans hz9) ?_
  obtain ⟨fr1, i3061, i3211, i3261, i3811, po1, bz1⟩ := hw1
  refine lv_if_eq (tgt := 14) hx hb dX2_expression_10 (by decide) (fun h4 => ?_) (fun h4 => ?_)
  · have z5 : r3.toInt = (0 : Int) := eq_z rfl (show (0 : Int32).toInt = (0 : Int) by decide) h4
    refine lv_iconst (v := 0) hx hb dX2_expression_14 (by decide) ?_
    refine lv_istore_n (lv' := [(3, .int 0), (2, .int (v.1 0 326)), (0, .ref (ad 902)), (1, .int pa)]) hx hb dX2_expression_15 rfl hl (by decide) rfl (fun ls hl => ?_)
    refine lpm_ (X := Int32 × MS) (P := (fun (x9 : Int32 × MS) (H : Heap) (locs : List Loc) (ls : Array Slot) => (FC [305, 306, 307, 314, 315, 317, 321, 326, 381] [0, 316, 318, 319, 320, 324, 325, 378, 379, 380] v x9.2) ∧ (0 ≤ (x9.2.1 0 306).toInt ∧ (x9.2.1 0 306).toInt ≤ 40) ∧ (0 ≤ (x9.2.1 0 321).toInt ∧ (x9.2.1 0 321).toInt ≤ 501) ∧ (0 ≤ (x9.2.1 0 326).toInt ∧ (x9.2.1 0 326).toInt ≤ 420) ∧ (0 ≤ (x9.2.1 0 381).toInt ∧ (x9.2.1 0 381).toInt ≤ 3008) ∧ (0 ≤ x9.1.toInt ∧ x9.1.toInt ≤ 1500) ∧ ((x9.2.1 0 306).toInt = (v.1 0 306).toInt + 0) ∧ va_P (dC, dI) vwCl (cW ad pr N cI cR L1 L2 x9.2) H ∧ va_D A (cW ad pr N cI cR L1 L2 x9.2) ∧ va_S A s.heap H locs ∧ lv_has ls 5 [(3, .int x9.1), (2, .int (v.1 0 326)), (0, .ref (ad 902)), (1, .int pa)])) (fun x9 => (1500 - x9.1.toInt).toNat) 16 (fun x9 H locs ls hh ih16 => ?_) (0, u2) _ _ _ ⟨(show FC [305, 306, 307, 314, 315, 317, 321, 326, 381] [0, 316, 318, 319, 320, 324, 325, 378, 379, 380] v u2 from (FC.tr (FC.rf _) (FC.up fr1 (by decide) (by decide)))), (show 0 ≤ (u2.1 0 306).toInt ∧ (u2.1 0 306).toInt ≤ 40 from (om_7eaf33e007 i3061)), (show 0 ≤ (u2.1 0 321).toInt ∧ (u2.1 0 321).toInt ≤ 501 from (om_e1d35f5faf i3211)), (show 0 ≤ (u2.1 0 326).toInt ∧ (u2.1 0 326).toInt ≤ 420 from (om_839d7ed7dd i3261)), (show 0 ≤ (u2.1 0 381).toInt ∧ (u2.1 0 381).toInt ≤ 3008 from (om_e78eec72e1 i3811)), (show 0 ≤ (0 : Int) ∧ (0 : Int) ≤ 1500 from om_b1c23a1f42), (show (u2.1 0 306).toInt = (v.1 0 306).toInt + 0 from (om_95d2db956e po1)), hP, hD, hS, lv_sub hl [0, 1, 2, 3] rfl⟩
    obtain ⟨ka, w16⟩ := x9
    obtain ⟨fwL16, i306L16, i321L16, i326L16, i381L16, f1L16, poL16, hP, hD, hS, hl⟩ := hh
    have fwL16 : FC [305, 306, 307, 314, 315, 317, 321, 326, 381] [0, 316, 318, 319, 320, 324, 325, 378, 379, 380] v w16 := fwL16
    have i306L16 : 0 ≤ (w16.1 0 306).toInt ∧ (w16.1 0 306).toInt ≤ 40 := i306L16
    have i321L16 : 0 ≤ (w16.1 0 321).toInt ∧ (w16.1 0 321).toInt ≤ 501 := i321L16
    have i326L16 : 0 ≤ (w16.1 0 326).toInt ∧ (w16.1 0 326).toInt ≤ 420 := i326L16
    have i381L16 : 0 ≤ (w16.1 0 381).toInt ∧ (w16.1 0 381).toInt ≤ 3008 := i381L16
    have f1L16 : 0 ≤ ka.toInt ∧ ka.toInt ≤ 1500 := f1L16
    have poL16 : (w16.1 0 306).toInt = (v.1 0 306).toInt + 0 := poL16
    have hP : va_P (dC, dI) vwCl (cW ad pr N cI cR L1 L2 w16) H := hP
    have hD : va_D A (cW ad pr N cI cR L1 L2 w16) := hD
    have hl : lv_has ls 5 [(3, .int ka), (2, .int (v.1 0 326)), (0, .ref (ad 902)), (1, .int pa)] := hl
    refine lv_iload_n hx hb dX2_expression_16 rfl (lv_at hl 0 rfl) ?_
    refine lv_sipush (v := 1500) hx hb dX2_expression_17 (by decide) ?_
    refine lv_icmp_ge (tgt := 80) hx hb dX2_expression_20 (by decide) (fun h6 => ?_) (fun h6 => ?_)
    · have z7 : (1500 : Int) ≤ ka.toInt := le_z (show (1500 : Int32).toInt = (1500 : Int) by decide) rfl h6
      refine lv_aload_n hx hb dX2_expression_80 rfl (lv_at hl 2 rfl) ?_
      refine lv_iload_n hx hb dX2_expression_81 rfl (lv_at hl 1 rfl) ?_
      refine lv_iconst (v := 0) hx hb dX2_expression_82 (by decide) ?_
      refine cu_v (rn_Vk (n := 2) (As := [.int (v.1 0 326), .int 0]) (rest := []) hx hb hml hown ht hKK hFx hP hD hS hA (c_x_X2_finishSigns l dC dI cI cB cZ cJ cR tb H.size ad pr N L1 L2 w16 (v.1 0 326) (0 : Int32) ps (show 0 ≤ (w16.1 0 326).toInt ∧ (w16.1 0 326).toInt ≤ 420 from (om_839d7ed7dd i326L16)) (show 0 ≤ (w16.1 0 381).toInt ∧ (w16.1 0 381).toInt ≤ 3008 from (om_e78eec72e1 i381L16)) (show pr ps = ad 908 from hps) (show (w16.1 0 310) = ps from (Eq.trans (fwL16.2.1 310 (by decide)) es310))) tw_565 tw_566 (by decide +kernel) rfl rfl ⟨show 1 + 1 ≤ 8 * n + 20 from om_d74c35fdfa, show 8 + (4 + 11) + 24 ≤ 28 * (8 * n + 20) from om_76e6510f9d⟩ (List.range (cW ad pr N cI cR L1 L2 w16).length) (rg_map _) (nd_range _) 2 rfl rfl rfl rfl hl.1 rfl (Nat.le_of_ble_eq_true rfl) dX2_expression_83 ⟨Nat.le_of_ble_eq_true rfl, Nat.le_of_ble_eq_true rfl⟩) hP hD hS hA (fun u9 H locs hw8 hP hD hS => ?_)
      obtain ⟨fr8, i3268, i3818⟩ := hw8
      have i3268 : 0 ≤ (u9.1 0 326).toInt ∧ (u9.1 0 326).toInt ≤ 420 := i3268
      have i3818 : 0 ≤ (u9.1 0 381).toInt ∧ (u9.1 0 381).toInt ≤ 3008 := i3818
      refine W.widen (k := 0) (n := 0) (Nat.le_refl _) (Nat.le_refl _) ?_
      refine lv_aload_n hx hb dX2_expression_86 rfl (lv_at hl 2 rfl) ?_
      refine va_get (D := (dC, dI)) (ci := 6) (fs := oF_X2 ad pr u9) (v := .ref (ad 900)) (C := RX2) (T := TX2) (N := 5) hx hb ht itX2 hown hK hP 2 rfl rfl 0 (by decide) (ht _ tw_509) (fun _ h9 => h9) rfl dX2_expression_87 ?_
      have q11 : (w16.1 0 304).toInt = (v.1 0 304).toInt := congrArg Int32.toInt ((fwL16.2.1 304 (by decide)).trans (show v.1 0 304 = (v.1 0 304) by rfl))
      have q12 : (u9.1 0 304).toInt = (w16.1 0 304).toInt := congrArg Int32.toInt ((fr8.2.1 304 (by decide)).trans (show w16.1 0 304 = (w16.1 0 304) by rfl))
      refine cu_i (rn_Vk (n := 0) (As := []) (rest := []) hx hb hml hown ht hKK hFx hP hD hS hA (c_x_X9_kind l dC dI cI cB cZ cJ cR tb H.size ad pr N L1 L2 u9  (show 0 ≤ (u9.1 0 304).toInt ∧ (u9.1 0 304).toInt ≤ 1503 from (om_dd87ee851a z304 q11 q12))) tw_455 tw_532 (by decide +kernel) rfl rfl ⟨show 0 + 1 ≤ 8 * n + 20 from om_52416184a9, show 8 + (1 + 11) + 0 ≤ 28 * (8 * n + 20) from om_8bb6315d7c⟩ (List.range (cW ad pr N cI cR L1 L2 u9).length) (rg_map _) (nd_range _) 0 rfl rfl rfl rfl hl.1 rfl (Nat.le_of_ble_eq_true rfl) dX2_expression_90 ⟨Nat.le_of_ble_eq_true rfl, Nat.le_of_ble_eq_true rfl⟩) hP hD hS hA (fun r15 u14 H locs hw13 hP hD hS => ?_)
      obtain rfl := hw13
      refine W.widen (k := 0) (n := 0) (Nat.le_refl _) (Nat.le_refl _) ?_
      refine lv_bipush (v := 38) hx hb dX2_expression_93 (by decide) ?_
      refine lv_icmp_ne (tgt := 102) hx hb dX2_expression_95 (by decide) (fun h16 => ?_) (fun h16 => ?_)
      · have z17 : r15.toInt ≠ (38 : Int) := ne_z rfl (show (38 : Int32).toInt = (38 : Int) by decide) h16
        have q18 : (u9.1 0 306).toInt = (w16.1 0 306).toInt := congrArg Int32.toInt ((fr8.2.1 306 (by decide)).trans (show w16.1 0 306 = (w16.1 0 306) by rfl))
        have q19 : (u9.1 0 321).toInt = (w16.1 0 321).toInt := congrArg Int32.toInt ((fr8.2.1 321 (by decide)).trans (show w16.1 0 321 = (w16.1 0 321) by rfl))
        refine W.sz (fun hz => ?_)
        refine vx_ret ?_
        refine W.widen (k := 1) (n := 6) (Nat.le_of_ble_eq_true rfl) (Nat.le_of_ble_eq_true rfl) ?_
        exact W.vret hx hb hr (fun t ht9 hW => ⟨⟨u9, rfl, ⟨(FC.tr (FC.tr (FC.rf _) (FC.up fwL16 (by decide) (by decide))) (FC.up fr8 (by decide) (by decide))), (show 0 ≤ (u9.1 0 306).toInt ∧ (u9.1 0 306).toInt ≤ 40 from (om_99e115f631 i306L16 q18)), (show 0 ≤ (u9.1 0 321).toInt ∧ (u9.1 0 321).toInt ≤ 501 from (om_ff27494c0e i321L16 q19)), (show 0 ≤ (u9.1 0 326).toInt ∧ (u9.1 0 326).toInt ≤ 420 from (om_839d7ed7dd i3268)), (show 0 ≤ (u9.1 0 381).toInt ∧ (u9.1 0 381).toInt ≤ 3008 from (om_e78eec72e1 i3818)), (show (u9.1 0 306).toInt = (v.1 0 306).toInt from (om_4ae332b5e1 poL16 q18))⟩, ⟨by rw [ht9]; exact hP, hD⟩, by rw [ht9]; exact hz⟩, hS.F ht9⟩) hS.2.2 dX2_expression_102
      · have z20 : r15.toInt = (38 : Int) := eq_z rfl (show (38 : Int32).toInt = (38 : Int) by decide) h16
        refine lv_aload_n hx hb dX2_expression_98 rfl (lv_at hl 2 rfl) ?_
        have q21 : (u9.1 0 306).toInt = (w16.1 0 306).toInt := congrArg Int32.toInt ((fr8.2.1 306 (by decide)).trans (show w16.1 0 306 = (w16.1 0 306) by rfl))
        have q22 : (w16.1 0 312).toInt = (v.1 0 312).toInt := congrArg Int32.toInt ((fwL16.2.1 312 (by decide)).trans (show v.1 0 312 = (v.1 0 312) by rfl))
        have q23 : (u9.1 0 312).toInt = (w16.1 0 312).toInt := congrArg Int32.toInt ((fr8.2.1 312 (by decide)).trans (show w16.1 0 312 = (w16.1 0 312) by rfl))
        have q24 : (u9.1 0 321).toInt = (w16.1 0 321).toInt := congrArg Int32.toInt ((fr8.2.1 321 (by decide)).trans (show w16.1 0 321 = (w16.1 0 321) by rfl))
        have q25 : (w16.1 0 373).toInt = (v.1 0 373).toInt := congrArg Int32.toInt ((fwL16.2.1 373 (by decide)).trans (show v.1 0 373 = (v.1 0 373) by rfl))
        have q26 : (u9.1 0 373).toInt = (w16.1 0 373).toInt := congrArg Int32.toInt ((fr8.2.1 373 (by decide)).trans (show w16.1 0 373 = (w16.1 0 373) by rfl))
        refine W.sz (fun hz9 => ?_)
        refine czx_v (rx_Vk (n := 0) (As := []) (rest := []) hx hb hml hown ht hKK hFx hP hD hS hA (c_x_X2_choice l n ihE dC dI cI cB cZ cJ cR tb H.size ad pr N L1 L2 u9 ps (show 0 ≤ (u9.1 0 304).toInt ∧ (u9.1 0 304).toInt ≤ 1503 from (om_dd87ee851a z304 q11 q12)) (show 0 ≤ (u9.1 0 306).toInt ∧ (u9.1 0 306).toInt ≤ 40 from (om_99e115f631 i306L16 q21)) (show 0 ≤ (u9.1 0 312).toInt ∧ (u9.1 0 312).toInt ≤ 500 from (om_8a5975ec21 z312 q22 q23)) (show 0 ≤ (u9.1 0 321).toInt ∧ (u9.1 0 321).toInt ≤ 501 from (om_ff27494c0e i321L16 q24)) (show 0 ≤ (u9.1 0 326).toInt ∧ (u9.1 0 326).toInt ≤ 420 from (om_839d7ed7dd i3268)) (show 0 ≤ (u9.1 0 373).toInt ∧ (u9.1 0 373).toInt ≤ 4000 from (om_03cd8767ac z373 q25 q26)) (show 0 ≤ (u9.1 0 381).toInt ∧ (u9.1 0 381).toInt ≤ 3008 from (om_e78eec72e1 i3818)) (show L1.length = 40 from hL1) (show L2.length = 60 from hL2) (show RP u9 from ((show FC [305, 306, 307, 314, 315, 317, 321, 326, 381] [0, 316, 318, 319, 320, 324, 325, 378, 379, 380] v u9 from (FC.tr (FC.tr (FC.rf _) (FC.up fwL16 (by decide) (by decide))) (FC.up fr8 (by decide) (by decide)))).1 rp)) (show pr ps = ad 908 from hps) (show (u9.1 0 300) = ps from (Eq.trans (fr8.2.1 300 (by decide)) (Eq.trans (fwL16.2.1 300 (by decide)) es300))) (show (u9.1 0 310) = ps from (Eq.trans (fr8.2.1 310 (by decide)) (Eq.trans (fwL16.2.1 310 (by decide)) es310))) (show l.stackTraces = false from hst) (show 40 ≤ (u9.1 0 306).toInt + (n : Int) from (om_9af853d7c7 zn poL16 q21))) tw_567 tw_568 (by decide +kernel) rfl rfl ⟨show (8 * n + 14) + 1 ≤ 8 * n + 20 from om_638aefdadf, show 8 + (3 + 11) + 28 * (8 * n + 14) ≤ 28 * (8 * n + 20) from om_1d4958472f⟩ (List.range (cW ad pr N cI cR L1 L2 u9).length) (rg_map _) (nd_range _) 2 rfl rfl rfl rfl hl.1 rfl (Nat.le_of_ble_eq_true rfl) dX2_expression_99 ⟨Nat.le_of_ble_eq_true rfl, Nat.le_of_ble_eq_true rfl⟩) hP hD hS hA (fun u9 ce9 q9 H locs hx9 hP hD hS hc9 hv9 hf9 => ?_) (fun u28 H locs hw27 hP hD hS hz8 => ?_)
        · exact vx_out (fun x h9 => (hnt x h9).elim) hlocks hc9 hv9 hf9 (fun t9 ht9 hv8 => ⟨u9, ⟨FC.tr (FC.tr (FC.tr (FC.rf _) (FC.up fwL16 (by decide) (by decide))) (FC.up fr8 (by decide) (by decide))) hx9.1, hx9.2⟩, ⟨rfl, by rw [ht9]; exact hP, hD⟩, hS.F ht9⟩) hS.2.2 (Nat.le_refl _) (Nat.le_refl _)
        refine W.shrink (hz8.trans hz9) ?_
        obtain ⟨fr27, i30627, i32127, i32627, i38127, po27⟩ := hw27
        have i30627 : 0 ≤ (u28.1 0 306).toInt ∧ (u28.1 0 306).toInt ≤ 40 := i30627
        have i32127 : 0 ≤ (u28.1 0 321).toInt ∧ (u28.1 0 321).toInt ≤ 501 := i32127
        have i32627 : 0 ≤ (u28.1 0 326).toInt ∧ (u28.1 0 326).toInt ≤ 420 := i32627
        have i38127 : 0 ≤ (u28.1 0 381).toInt ∧ (u28.1 0 381).toInt ≤ 3008 := i38127
        have po27 : (u28.1 0 306).toInt = (u9.1 0 306).toInt := po27
        refine W.sz (fun hz => ?_)
        refine vx_ret ?_
        refine W.widen (k := 1) (n := 6) (Nat.le_of_ble_eq_true rfl) (Nat.le_of_ble_eq_true rfl) ?_
        exact W.vret hx hb hr (fun t ht9 hW => ⟨⟨u28, rfl, ⟨(FC.tr (FC.tr (FC.tr (FC.rf _) (FC.up fwL16 (by decide) (by decide))) (FC.up fr8 (by decide) (by decide))) (FC.up fr27 (by decide) (by decide))), (show 0 ≤ (u28.1 0 306).toInt ∧ (u28.1 0 306).toInt ≤ 40 from (om_7eaf33e007 i30627)), (show 0 ≤ (u28.1 0 321).toInt ∧ (u28.1 0 321).toInt ≤ 501 from (om_e1d35f5faf i32127)), (show 0 ≤ (u28.1 0 326).toInt ∧ (u28.1 0 326).toInt ≤ 420 from (om_839d7ed7dd i32627)), (show 0 ≤ (u28.1 0 381).toInt ∧ (u28.1 0 381).toInt ≤ 3008 from (om_e78eec72e1 i38127)), (show (u28.1 0 306).toInt = (v.1 0 306).toInt from (om_5fe66bf18b poL16 q21 po27))⟩, ⟨by rw [ht9]; exact hP, hD⟩, by rw [ht9]; exact hz⟩, hS.F ht9⟩) hS.2.2 dX2_expression_102
    · have z30 : ka.toInt < (1500 : Int) := nle_z (show (1500 : Int32).toInt = (1500 : Int) by decide) rfl h6
      refine lv_aload_n hx hb dX2_expression_23 rfl (lv_at hl 2 rfl) ?_
      refine va_get (D := (dC, dI)) (ci := 6) (fs := oF_X2 ad pr w16) (v := .ref (ad 900)) (C := RX2) (T := TX2) (N := 5) hx hb ht itX2 hown hK hP 2 rfl rfl 0 (by decide) (ht _ tw_509) (fun _ h9 => h9) rfl dX2_expression_24 ?_
      have q31 : (w16.1 0 304).toInt = (v.1 0 304).toInt := congrArg Int32.toInt ((fwL16.2.1 304 (by decide)).trans (show v.1 0 304 = (v.1 0 304) by rfl))
      refine cu_i (rn_Vk (n := 0) (As := []) (rest := []) hx hb hml hown ht hKK hFx hP hD hS hA (c_x_X9_kind l dC dI cI cB cZ cJ cR tb H.size ad pr N L1 L2 w16  (show 0 ≤ (w16.1 0 304).toInt ∧ (w16.1 0 304).toInt ≤ 1503 from (om_73002589c1 z304 q31))) tw_455 tw_532 (by decide +kernel) rfl rfl ⟨show 0 + 1 ≤ 8 * n + 20 from om_52416184a9, show 8 + (1 + 11) + 0 ≤ 28 * (8 * n + 20) from om_8bb6315d7c⟩ (List.range (cW ad pr N cI cR L1 L2 w16).length) (rg_map _) (nd_range _) 0 rfl rfl rfl rfl hl.1 rfl (Nat.le_of_ble_eq_true rfl) dX2_expression_27 ⟨Nat.le_of_ble_eq_true rfl, Nat.le_of_ble_eq_true rfl⟩) hP hD hS hA (fun r34 u33 H locs hw32 hP hD hS => ?_)
      obtain rfl := hw32
      refine W.widen (k := 0) (n := 0) (Nat.le_refl _) (Nat.le_refl _) ?_
      refine cu_s (nd_range _) (rn_S (n := 1) (As := [.int r34]) (rest := []) hx hb hml hown ht hKK hFx hP hD hS hA (c_x_X9_strength l dC dI cI cB cZ cJ cR tb H.size r34 ) tw_512 tw_513 (by decide +kernel) rfl rfl ⟨show 0 + 1 ≤ 8 * n + 20 from om_52416184a9, show 8 + (2 + 11) + 0 ≤ 28 * (8 * n + 20) from om_a7220f1dc9⟩ [] rfl rfl rfl hl.1 rfl (Nat.le_of_ble_eq_true rfl) dX2_expression_30 ⟨Nat.le_of_ble_eq_true rfl, Nat.le_of_ble_eq_true rfl⟩) hP hD hS hA (fun r37 H locs hw35 hP hD hS => ?_)
      have c35 := hw35
      have c35 : (0 ≤ r37.toInt ∧ r37.toInt ≤ 40) := c35
      refine W.widen (k := 0) (n := 0) (Nat.le_refl _) (Nat.le_refl _) ?_
      refine lv_if_le (tgt := 80) hx hb dX2_expression_33 (by decide) (fun h38 => ?_) (fun h38 => ?_)
      · have z39 : r37.toInt ≤ (0 : Int) := le_z rfl (show (0 : Int32).toInt = (0 : Int) by decide) h38
        refine lv_aload_n hx hb dX2_expression_80 rfl (lv_at hl 2 rfl) ?_
        refine lv_iload_n hx hb dX2_expression_81 rfl (lv_at hl 1 rfl) ?_
        refine lv_iconst (v := 0) hx hb dX2_expression_82 (by decide) ?_
        refine cu_v (rn_Vk (n := 2) (As := [.int (v.1 0 326), .int 0]) (rest := []) hx hb hml hown ht hKK hFx hP hD hS hA (c_x_X2_finishSigns l dC dI cI cB cZ cJ cR tb H.size ad pr N L1 L2 w16 (v.1 0 326) (0 : Int32) ps (show 0 ≤ (w16.1 0 326).toInt ∧ (w16.1 0 326).toInt ≤ 420 from (om_839d7ed7dd i326L16)) (show 0 ≤ (w16.1 0 381).toInt ∧ (w16.1 0 381).toInt ≤ 3008 from (om_e78eec72e1 i381L16)) (show pr ps = ad 908 from hps) (show (w16.1 0 310) = ps from (Eq.trans (fwL16.2.1 310 (by decide)) es310))) tw_565 tw_566 (by decide +kernel) rfl rfl ⟨show 1 + 1 ≤ 8 * n + 20 from om_d74c35fdfa, show 8 + (4 + 11) + 24 ≤ 28 * (8 * n + 20) from om_76e6510f9d⟩ (List.range (cW ad pr N cI cR L1 L2 w16).length) (rg_map _) (nd_range _) 2 rfl rfl rfl rfl hl.1 rfl (Nat.le_of_ble_eq_true rfl) dX2_expression_83 ⟨Nat.le_of_ble_eq_true rfl, Nat.le_of_ble_eq_true rfl⟩) hP hD hS hA (fun u41 H locs hw40 hP hD hS => ?_)
        obtain ⟨fr40, i32640, i38140⟩ := hw40
        have i32640 : 0 ≤ (u41.1 0 326).toInt ∧ (u41.1 0 326).toInt ≤ 420 := i32640
        have i38140 : 0 ≤ (u41.1 0 381).toInt ∧ (u41.1 0 381).toInt ≤ 3008 := i38140
        refine W.widen (k := 0) (n := 0) (Nat.le_refl _) (Nat.le_refl _) ?_
        refine lv_aload_n hx hb dX2_expression_86 rfl (lv_at hl 2 rfl) ?_
        refine va_get (D := (dC, dI)) (ci := 6) (fs := oF_X2 ad pr u41) (v := .ref (ad 900)) (C := RX2) (T := TX2) (N := 5) hx hb ht itX2 hown hK hP 2 rfl rfl 0 (by decide) (ht _ tw_509) (fun _ h9 => h9) rfl dX2_expression_87 ?_
        have q43 : (u41.1 0 304).toInt = (w16.1 0 304).toInt := congrArg Int32.toInt ((fr40.2.1 304 (by decide)).trans (show w16.1 0 304 = (w16.1 0 304) by rfl))
        refine cu_i (rn_Vk (n := 0) (As := []) (rest := []) hx hb hml hown ht hKK hFx hP hD hS hA (c_x_X9_kind l dC dI cI cB cZ cJ cR tb H.size ad pr N L1 L2 u41  (show 0 ≤ (u41.1 0 304).toInt ∧ (u41.1 0 304).toInt ≤ 1503 from (om_dd87ee851a z304 q31 q43))) tw_455 tw_532 (by decide +kernel) rfl rfl ⟨show 0 + 1 ≤ 8 * n + 20 from om_52416184a9, show 8 + (1 + 11) + 0 ≤ 28 * (8 * n + 20) from om_8bb6315d7c⟩ (List.range (cW ad pr N cI cR L1 L2 u41).length) (rg_map _) (nd_range _) 0 rfl rfl rfl rfl hl.1 rfl (Nat.le_of_ble_eq_true rfl) dX2_expression_90 ⟨Nat.le_of_ble_eq_true rfl, Nat.le_of_ble_eq_true rfl⟩) hP hD hS hA (fun r46 u45 H locs hw44 hP hD hS => ?_)
        obtain rfl := hw44
        refine W.widen (k := 0) (n := 0) (Nat.le_refl _) (Nat.le_refl _) ?_
        refine lv_bipush (v := 38) hx hb dX2_expression_93 (by decide) ?_
        refine lv_icmp_ne (tgt := 102) hx hb dX2_expression_95 (by decide) (fun h47 => ?_) (fun h47 => ?_)
        · have z48 : r46.toInt ≠ (38 : Int) := ne_z rfl (show (38 : Int32).toInt = (38 : Int) by decide) h47
          have q49 : (u41.1 0 306).toInt = (w16.1 0 306).toInt := congrArg Int32.toInt ((fr40.2.1 306 (by decide)).trans (show w16.1 0 306 = (w16.1 0 306) by rfl))
          have q50 : (u41.1 0 321).toInt = (w16.1 0 321).toInt := congrArg Int32.toInt ((fr40.2.1 321 (by decide)).trans (show w16.1 0 321 = (w16.1 0 321) by rfl))
          refine W.sz (fun hz => ?_)
          refine vx_ret ?_
          refine W.widen (k := 1) (n := 6) (Nat.le_of_ble_eq_true rfl) (Nat.le_of_ble_eq_true rfl) ?_
          exact W.vret hx hb hr (fun t ht9 hW => ⟨⟨u41, rfl, ⟨(FC.tr (FC.tr (FC.rf _) (FC.up fwL16 (by decide) (by decide))) (FC.up fr40 (by decide) (by decide))), (show 0 ≤ (u41.1 0 306).toInt ∧ (u41.1 0 306).toInt ≤ 40 from (om_99e115f631 i306L16 q49)), (show 0 ≤ (u41.1 0 321).toInt ∧ (u41.1 0 321).toInt ≤ 501 from (om_ff27494c0e i321L16 q50)), (show 0 ≤ (u41.1 0 326).toInt ∧ (u41.1 0 326).toInt ≤ 420 from (om_839d7ed7dd i32640)), (show 0 ≤ (u41.1 0 381).toInt ∧ (u41.1 0 381).toInt ≤ 3008 from (om_e78eec72e1 i38140)), (show (u41.1 0 306).toInt = (v.1 0 306).toInt from (om_4ae332b5e1 poL16 q49))⟩, ⟨by rw [ht9]; exact hP, hD⟩, by rw [ht9]; exact hz⟩, hS.F ht9⟩) hS.2.2 dX2_expression_102
        · have z51 : r46.toInt = (38 : Int) := eq_z rfl (show (38 : Int32).toInt = (38 : Int) by decide) h47
          refine lv_aload_n hx hb dX2_expression_98 rfl (lv_at hl 2 rfl) ?_
          have q52 : (u41.1 0 306).toInt = (w16.1 0 306).toInt := congrArg Int32.toInt ((fr40.2.1 306 (by decide)).trans (show w16.1 0 306 = (w16.1 0 306) by rfl))
          have q53 : (w16.1 0 312).toInt = (v.1 0 312).toInt := congrArg Int32.toInt ((fwL16.2.1 312 (by decide)).trans (show v.1 0 312 = (v.1 0 312) by rfl))
          have q54 : (u41.1 0 312).toInt = (w16.1 0 312).toInt := congrArg Int32.toInt ((fr40.2.1 312 (by decide)).trans (show w16.1 0 312 = (w16.1 0 312) by rfl))
          have q55 : (u41.1 0 321).toInt = (w16.1 0 321).toInt := congrArg Int32.toInt ((fr40.2.1 321 (by decide)).trans (show w16.1 0 321 = (w16.1 0 321) by rfl))
          have q56 : (w16.1 0 373).toInt = (v.1 0 373).toInt := congrArg Int32.toInt ((fwL16.2.1 373 (by decide)).trans (show v.1 0 373 = (v.1 0 373) by rfl))
          have q57 : (u41.1 0 373).toInt = (w16.1 0 373).toInt := congrArg Int32.toInt ((fr40.2.1 373 (by decide)).trans (show w16.1 0 373 = (w16.1 0 373) by rfl))
          refine W.sz (fun hz9 => ?_)
          refine czx_v (rx_Vk (n := 0) (As := []) (rest := []) hx hb hml hown ht hKK hFx hP hD hS hA (c_x_X2_choice l n ihE dC dI cI cB cZ cJ cR tb H.size ad pr N L1 L2 u41 ps (show 0 ≤ (u41.1 0 304).toInt ∧ (u41.1 0 304).toInt ≤ 1503 from (om_dd87ee851a z304 q31 q43)) (show 0 ≤ (u41.1 0 306).toInt ∧ (u41.1 0 306).toInt ≤ 40 from (om_99e115f631 i306L16 q52)) (show 0 ≤ (u41.1 0 312).toInt ∧ (u41.1 0 312).toInt ≤ 500 from (om_8a5975ec21 z312 q53 q54)) (show 0 ≤ (u41.1 0 321).toInt ∧ (u41.1 0 321).toInt ≤ 501 from (om_ff27494c0e i321L16 q55)) (show 0 ≤ (u41.1 0 326).toInt ∧ (u41.1 0 326).toInt ≤ 420 from (om_839d7ed7dd i32640)) (show 0 ≤ (u41.1 0 373).toInt ∧ (u41.1 0 373).toInt ≤ 4000 from (om_03cd8767ac z373 q56 q57)) (show 0 ≤ (u41.1 0 381).toInt ∧ (u41.1 0 381).toInt ≤ 3008 from (om_e78eec72e1 i38140)) (show L1.length = 40 from hL1) (show L2.length = 60 from hL2) (show RP u41 from ((show FC [305, 306, 307, 314, 315, 317, 321, 326, 381] [0, 316, 318, 319, 320, 324, 325, 378, 379, 380] v u41 from (FC.tr (FC.tr (FC.rf _) (FC.up fwL16 (by decide) (by decide))) (FC.up fr40 (by decide) (by decide)))).1 rp)) (show pr ps = ad 908 from hps) (show (u41.1 0 300) = ps from (Eq.trans (fr40.2.1 300 (by decide)) (Eq.trans (fwL16.2.1 300 (by decide)) es300))) (show (u41.1 0 310) = ps from (Eq.trans (fr40.2.1 310 (by decide)) (Eq.trans (fwL16.2.1 310 (by decide)) es310))) (show l.stackTraces = false from hst) (show 40 ≤ (u41.1 0 306).toInt + (n : Int) from (om_9af853d7c7 zn poL16 q52))) tw_567 tw_568 (by decide +kernel) rfl rfl ⟨show (8 * n + 14) + 1 ≤ 8 * n + 20 from om_638aefdadf, show 8 + (3 + 11) + 28 * (8 * n + 14) ≤ 28 * (8 * n + 20) from om_1d4958472f⟩ (List.range (cW ad pr N cI cR L1 L2 u41).length) (rg_map _) (nd_range _) 2 rfl rfl rfl rfl hl.1 rfl (Nat.le_of_ble_eq_true rfl) dX2_expression_99 ⟨Nat.le_of_ble_eq_true rfl, Nat.le_of_ble_eq_true rfl⟩) hP hD hS hA (fun u9 ce9 q9 H locs hx9 hP hD hS hc9 hv9 hf9 => ?_) (fun u59 H locs hw58 hP hD hS hz8 => ?_)
          · exact vx_out (fun x h9 => (hnt x h9).elim) hlocks hc9 hv9 hf9 (fun t9 ht9 hv8 => ⟨u9, ⟨FC.tr (FC.tr (FC.tr (FC.rf _) (FC.up fwL16 (by decide) (by decide))) (FC.up fr40 (by decide) (by decide))) hx9.1, hx9.2⟩, ⟨rfl, by rw [ht9]; exact hP, hD⟩, hS.F ht9⟩) hS.2.2 (Nat.le_refl _) (Nat.le_refl _)
          refine W.shrink (hz8.trans hz9) ?_
          obtain ⟨fr58, i30658, i32158, i32658, i38158, po58⟩ := hw58
          have i30658 : 0 ≤ (u59.1 0 306).toInt ∧ (u59.1 0 306).toInt ≤ 40 := i30658
          have i32158 : 0 ≤ (u59.1 0 321).toInt ∧ (u59.1 0 321).toInt ≤ 501 := i32158
          have i32658 : 0 ≤ (u59.1 0 326).toInt ∧ (u59.1 0 326).toInt ≤ 420 := i32658
          have i38158 : 0 ≤ (u59.1 0 381).toInt ∧ (u59.1 0 381).toInt ≤ 3008 := i38158
          have po58 : (u59.1 0 306).toInt = (u41.1 0 306).toInt := po58
          refine W.sz (fun hz => ?_)
          refine vx_ret ?_
          refine W.widen (k := 1) (n := 6) (Nat.le_of_ble_eq_true rfl) (Nat.le_of_ble_eq_true rfl) ?_
          exact W.vret hx hb hr (fun t ht9 hW => ⟨⟨u59, rfl, ⟨(FC.tr (FC.tr (FC.tr (FC.rf _) (FC.up fwL16 (by decide) (by decide))) (FC.up fr40 (by decide) (by decide))) (FC.up fr58 (by decide) (by decide))), (show 0 ≤ (u59.1 0 306).toInt ∧ (u59.1 0 306).toInt ≤ 40 from (om_7eaf33e007 i30658)), (show 0 ≤ (u59.1 0 321).toInt ∧ (u59.1 0 321).toInt ≤ 501 from (om_e1d35f5faf i32158)), (show 0 ≤ (u59.1 0 326).toInt ∧ (u59.1 0 326).toInt ≤ 420 from (om_839d7ed7dd i32658)), (show 0 ≤ (u59.1 0 381).toInt ∧ (u59.1 0 381).toInt ≤ 3008 from (om_e78eec72e1 i38158)), (show (u59.1 0 306).toInt = (v.1 0 306).toInt from (om_5fe66bf18b poL16 q52 po58))⟩, ⟨by rw [ht9]; exact hP, hD⟩, by rw [ht9]; exact hz⟩, hS.F ht9⟩) hS.2.2 dX2_expression_102
      · have z61 : (0 : Int) < r37.toInt := nle_z rfl (show (0 : Int32).toInt = (0 : Int) by decide) h38
        refine lv_aload_n hx hb dX2_expression_36 rfl (lv_at hl 2 rfl) ?_
        refine va_get (D := (dC, dI)) (ci := 6) (fs := oF_X2 ad pr w16) (v := .ref (ad 900)) (C := RX2) (T := TX2) (N := 5) hx hb ht itX2 hown hK hP 2 rfl rfl 0 (by decide) (ht _ tw_509) (fun _ h9 => h9) rfl dX2_expression_37 ?_
        refine cu_i (rn_Vk (n := 0) (As := []) (rest := []) hx hb hml hown ht hKK hFx hP hD hS hA (c_x_X9_kind l dC dI cI cB cZ cJ cR tb H.size ad pr N L1 L2 w16  (show 0 ≤ (w16.1 0 304).toInt ∧ (w16.1 0 304).toInt ≤ 1503 from (om_73002589c1 z304 q31))) tw_455 tw_532 (by decide +kernel) rfl rfl ⟨show 0 + 1 ≤ 8 * n + 20 from om_52416184a9, show 8 + (1 + 11) + 0 ≤ 28 * (8 * n + 20) from om_8bb6315d7c⟩ (List.range (cW ad pr N cI cR L1 L2 w16).length) (rg_map _) (nd_range _) 0 rfl rfl rfl rfl hl.1 rfl (Nat.le_of_ble_eq_true rfl) dX2_expression_40 ⟨Nat.le_of_ble_eq_true rfl, Nat.le_of_ble_eq_true rfl⟩) hP hD hS hA (fun r64 u63 H locs hw62 hP hD hS => ?_)
        obtain rfl := hw62
        refine W.widen (k := 0) (n := 0) (Nat.le_refl _) (Nat.le_refl _) ?_
        refine lv_istore (lv' := [(4, .int r64), (3, .int ka), (2, .int (v.1 0 326)), (0, .ref (ad 902)), (1, .int pa)]) hx hb dX2_expression_43 hl (by decide) rfl (fun ls hl => ?_)
        refine lv_aload_n hx hb dX2_expression_45 rfl (lv_at hl 3 rfl) ?_
        refine lv_iload_n hx hb dX2_expression_46 rfl (lv_at hl 2 rfl) ?_
        refine lv_iload hx hb dX2_expression_47 (lv_at hl 0 rfl) ?_
        refine cu_s (nd_range _) (rn_S (n := 1) (As := [.int r64]) (rest := [.int (v.1 0 326), .ref (ad 902)]) hx hb hml hown ht hKK hFx hP hD hS hA (c_x_X9_strength l dC dI cI cB cZ cJ cR tb H.size r64 ) tw_512 tw_513 (by decide +kernel) rfl rfl ⟨show 0 + 1 ≤ 8 * n + 20 from om_52416184a9, show 8 + (2 + 11) + 0 ≤ 28 * (8 * n + 20) from om_a7220f1dc9⟩ [] rfl rfl rfl hl.1 rfl (Nat.le_of_ble_eq_true rfl) dX2_expression_49 ⟨Nat.le_of_ble_eq_true rfl, Nat.le_of_ble_eq_true rfl⟩) hP hD hS hA (fun r67 H locs hw65 hP hD hS => ?_)
        have c65 := hw65
        have c65 : (0 ≤ r67.toInt ∧ r67.toInt ≤ 40) := c65
        refine W.widen (k := 0) (n := 0) (Nat.le_refl _) (Nat.le_refl _) ?_
        refine cu_v (rn_Vk (n := 2) (As := [.int (v.1 0 326), .int r67]) (rest := []) hx hb hml hown ht hKK hFx hP hD hS hA (c_x_X2_finishSigns l dC dI cI cB cZ cJ cR tb H.size ad pr N L1 L2 w16 (v.1 0 326) r67 ps (show 0 ≤ (w16.1 0 326).toInt ∧ (w16.1 0 326).toInt ≤ 420 from (om_839d7ed7dd i326L16)) (show 0 ≤ (w16.1 0 381).toInt ∧ (w16.1 0 381).toInt ≤ 3008 from (om_e78eec72e1 i381L16)) (show pr ps = ad 908 from hps) (show (w16.1 0 310) = ps from (Eq.trans (fwL16.2.1 310 (by decide)) es310))) tw_565 tw_566 (by decide +kernel) rfl rfl ⟨show 1 + 1 ≤ 8 * n + 20 from om_d74c35fdfa, show 8 + (4 + 11) + 24 ≤ 28 * (8 * n + 20) from om_76e6510f9d⟩ (List.range (cW ad pr N cI cR L1 L2 w16).length) (rg_map _) (nd_range _) 2 rfl rfl rfl rfl hl.1 rfl (Nat.le_of_ble_eq_true rfl) dX2_expression_52 ⟨Nat.le_of_ble_eq_true rfl, Nat.le_of_ble_eq_true rfl⟩) hP hD hS hA (fun u69 H locs hw68 hP hD hS => ?_)
        obtain ⟨fr68, i32668, i38168⟩ := hw68
        have i32668 : 0 ≤ (u69.1 0 326).toInt ∧ (u69.1 0 326).toInt ≤ 420 := i32668
        have i38168 : 0 ≤ (u69.1 0 381).toInt ∧ (u69.1 0 381).toInt ≤ 3008 := i38168
        refine W.widen (k := 0) (n := 0) (Nat.le_refl _) (Nat.le_refl _) ?_
        refine lv_aload_n hx hb dX2_expression_55 rfl (lv_at hl 3 rfl) ?_
        refine lv_iload hx hb dX2_expression_56 (lv_at hl 0 rfl) ?_
        have q71 : (u69.1 0 304).toInt = (w16.1 0 304).toInt := congrArg Int32.toInt ((fr68.2.1 304 (by decide)).trans (show w16.1 0 304 = (w16.1 0 304) by rfl))
        have q72 : (w16.1 0 312).toInt = (v.1 0 312).toInt := congrArg Int32.toInt ((fwL16.2.1 312 (by decide)).trans (show v.1 0 312 = (v.1 0 312) by rfl))
        have q73 : (u69.1 0 312).toInt = (w16.1 0 312).toInt := congrArg Int32.toInt ((fr68.2.1 312 (by decide)).trans (show w16.1 0 312 = (w16.1 0 312) by rfl))
        have q74 : (w16.1 0 373).toInt = (v.1 0 373).toInt := congrArg Int32.toInt ((fwL16.2.1 373 (by decide)).trans (show v.1 0 373 = (v.1 0 373) by rfl))
        have q75 : (u69.1 0 373).toInt = (w16.1 0 373).toInt := congrArg Int32.toInt ((fr68.2.1 373 (by decide)).trans (show w16.1 0 373 = (w16.1 0 373) by rfl))
        refine W.sz (fun hz9 => ?_)
        refine czx_v (rx_Vk (n := 1) (As := [.int r64]) (rest := []) hx hb hml hown ht hKK hFx hP hD hS hA (c_x_X2_beginSign l dC dI cI cB cZ cJ cR tb H.size ad pr N L1 L2 u69 r64 ps (show 0 ≤ (u69.1 0 304).toInt ∧ (u69.1 0 304).toInt ≤ 1503 from (om_dd87ee851a z304 q31 q71)) (show 0 ≤ (u69.1 0 312).toInt ∧ (u69.1 0 312).toInt ≤ 500 from (om_8a5975ec21 z312 q72 q73)) (show 0 ≤ (u69.1 0 326).toInt ∧ (u69.1 0 326).toInt ≤ 420 from (om_839d7ed7dd i32668)) (show 0 ≤ (u69.1 0 373).toInt ∧ (u69.1 0 373).toInt ≤ 4000 from (om_03cd8767ac z373 q74 q75)) (show 0 ≤ (u69.1 0 381).toInt ∧ (u69.1 0 381).toInt ≤ 3008 from (om_e78eec72e1 i38168)) (show pr ps = ad 908 from hps) (show (u69.1 0 300) = ps from (Eq.trans (fr68.2.1 300 (by decide)) (Eq.trans (fwL16.2.1 300 (by decide)) es300))) (show (u69.1 0 310) = ps from (Eq.trans (fr68.2.1 310 (by decide)) (Eq.trans (fwL16.2.1 310 (by decide)) es310))) (show l.stackTraces = false from hst)) tw_569 tw_570 (by decide +kernel) rfl rfl ⟨show 7 + 1 ≤ 8 * n + 20 from om_24732090af, show 8 + (3 + 11) + 104 ≤ 28 * (8 * n + 20) from om_fe0555df1d⟩ (List.range (cW ad pr N cI cR L1 L2 u69).length) (rg_map _) (nd_range _) 2 rfl rfl rfl rfl hl.1 rfl (Nat.le_of_ble_eq_true rfl) dX2_expression_58 ⟨Nat.le_of_ble_eq_true rfl, Nat.le_of_ble_eq_true rfl⟩) hP hD hS hA (fun u9 ce9 q9 H locs hx9 hP hD hS hc9 hv9 hf9 => ?_) (fun u77 H locs hw76 hP hD hS hz8 => ?_)
        · exact vx_out (fun x h9 => (hnt x h9).elim) hlocks hc9 hv9 hf9 (fun t9 ht9 hv8 => ⟨u9, ⟨FC.tr (FC.tr (FC.tr (FC.rf _) (FC.up fwL16 (by decide) (by decide))) (FC.up fr68 (by decide) (by decide))) hx9.1, hx9.2⟩, ⟨rfl, by rw [ht9]; exact hP, hD⟩, hS.F ht9⟩) hS.2.2 (Nat.le_refl _) (Nat.le_refl _)
        refine W.shrink (hz8.trans hz9) ?_
        obtain ⟨fr76, i32676, i38176⟩ := hw76
        have i32676 : 0 ≤ (u77.1 0 326).toInt ∧ (u77.1 0 326).toInt ≤ 420 := i32676
        have i38176 : 0 ≤ (u77.1 0 381).toInt ∧ (u77.1 0 381).toInt ≤ 3008 := i38176
        refine lv_aload_n hx hb dX2_expression_61 rfl (lv_at hl 3 rfl) ?_
        refine va_get (D := (dC, dI)) (ci := 6) (fs := oF_X2 ad pr u77) (v := .ref (ad 900)) (C := RX2) (T := TX2) (N := 5) hx hb ht itX2 hown hK hP 2 rfl rfl 0 (by decide) (ht _ tw_509) (fun _ h9 => h9) rfl dX2_expression_62 ?_
        have q79 : (u77.1 0 304).toInt = (u69.1 0 304).toInt := congrArg Int32.toInt ((fr76.2.1 304 (by decide)).trans (show u69.1 0 304 = (u69.1 0 304) by rfl))
        have q80 : (u77.1 0 373).toInt = (u69.1 0 373).toInt := congrArg Int32.toInt ((fr76.2.1 373 (by decide)).trans (show u69.1 0 373 = (u69.1 0 373) by rfl))
        refine W.sz (fun hz9 => ?_)
        refine czx_v (rx_Vk (n := 0) (As := []) (rest := []) hx hb hml hown ht hKK hFx hP hD hS hA (c_x_X9_take l dC dI cI cB cZ cJ cR tb H.size ad pr N L1 L2 u77 ps (show 0 ≤ (u77.1 0 304).toInt ∧ (u77.1 0 304).toInt ≤ 1503 from (om_57e3d9ffbd z304 q31 q71 q79)) (show 0 ≤ (u77.1 0 373).toInt ∧ (u77.1 0 373).toInt ≤ 4000 from (om_282c7f458f z373 q74 q75 q80)) (show pr ps = ad 908 from hps) (show (u77.1 0 300) = ps from (Eq.trans (fr76.2.1 300 (by decide)) (Eq.trans (fr68.2.1 300 (by decide)) (Eq.trans (fwL16.2.1 300 (by decide)) es300)))) (show l.stackTraces = false from hst)) tw_539 tw_540 (by decide +kernel) rfl rfl ⟨show 7 + 1 ≤ 8 * n + 20 from om_24732090af, show 8 + (1 + 11) + 104 ≤ 28 * (8 * n + 20) from om_762fffe21e⟩ (List.range (cW ad pr N cI cR L1 L2 u77).length) (rg_map _) (nd_range _) 0 rfl rfl rfl rfl hl.1 rfl (Nat.le_of_ble_eq_true rfl) dX2_expression_65 ⟨Nat.le_of_ble_eq_true rfl, Nat.le_of_ble_eq_true rfl⟩) hP hD hS hA (fun u9 ce9 q9 H locs hx9 hP hD hS hc9 hv9 hf9 => ?_) (fun u82 H locs hw81 hP hD hS hz8 => ?_)
        · exact vx_out (fun x h9 => (hnt x h9).elim) hlocks hc9 hv9 hf9 (fun t9 ht9 hv8 => ⟨u9, ⟨FC.tr (FC.tr (FC.tr (FC.tr (FC.rf _) (FC.up fwL16 (by decide) (by decide))) (FC.up fr68 (by decide) (by decide))) (FC.up fr76 (by decide) (by decide))) hx9.1, hx9.2⟩, ⟨rfl, by rw [ht9]; exact hP, hD⟩, hS.F ht9⟩) hS.2.2 (Nat.le_refl _) (Nat.le_refl _)
        refine W.shrink (hz8.trans hz9) ?_
        have fr81 := hw81
        refine lv_aload_n hx hb dX2_expression_68 rfl (lv_at hl 3 rfl) ?_
        refine lv_iconst (v := 0) hx hb dX2_expression_69 (by decide) ?_
        have q84 : (u82.1 0 304).toInt = (u77.1 0 304).toInt := congrArg Int32.toInt ((fr81.2.1 304 (by decide)).trans (show u77.1 0 304 = (u77.1 0 304) by rfl))
        have q85 : (u69.1 0 306).toInt = (w16.1 0 306).toInt := congrArg Int32.toInt ((fr68.2.1 306 (by decide)).trans (show w16.1 0 306 = (w16.1 0 306) by rfl))
        have q86 : (u77.1 0 306).toInt = (u69.1 0 306).toInt := congrArg Int32.toInt ((fr76.2.1 306 (by decide)).trans (show u69.1 0 306 = (u69.1 0 306) by rfl))
        have q87 : (u82.1 0 306).toInt = (u77.1 0 306).toInt := congrArg Int32.toInt ((fr81.2.1 306 (by decide)).trans (show u77.1 0 306 = (u77.1 0 306) by rfl))
        have q88 : (u77.1 0 312).toInt = (u69.1 0 312).toInt := congrArg Int32.toInt ((fr76.2.1 312 (by decide)).trans (show u69.1 0 312 = (u69.1 0 312) by rfl))
        have q89 : (u82.1 0 312).toInt = (u77.1 0 312).toInt := congrArg Int32.toInt ((fr81.2.1 312 (by decide)).trans (show u77.1 0 312 = (u77.1 0 312) by rfl))
        have q90 : (u69.1 0 321).toInt = (w16.1 0 321).toInt := congrArg Int32.toInt ((fr68.2.1 321 (by decide)).trans (show w16.1 0 321 = (w16.1 0 321) by rfl))
        have q91 : (u77.1 0 321).toInt = (u69.1 0 321).toInt := congrArg Int32.toInt ((fr76.2.1 321 (by decide)).trans (show u69.1 0 321 = (u69.1 0 321) by rfl))
        have q92 : (u82.1 0 321).toInt = (u77.1 0 321).toInt := congrArg Int32.toInt ((fr81.2.1 321 (by decide)).trans (show u77.1 0 321 = (u77.1 0 321) by rfl))
        have q93 : (u82.1 0 326).toInt = (u77.1 0 326).toInt := congrArg Int32.toInt ((fr81.2.1 326 (by decide)).trans (show u77.1 0 326 = (u77.1 0 326) by rfl))
        have q94 : (u82.1 0 373).toInt = (u77.1 0 373).toInt := congrArg Int32.toInt ((fr81.2.1 373 (by decide)).trans (show u77.1 0 373 = (u77.1 0 373) by rfl))
        have q95 : (u82.1 0 381).toInt = (u77.1 0 381).toInt := congrArg Int32.toInt ((fr81.2.1 381 (by decide)).trans (show u77.1 0 381 = (u77.1 0 381) by rfl))
        refine W.sz (fun hz9 => ?_)
        refine czx_i (rx_Vk (n := 1) (As := [.int 0]) (rest := []) hx hb hml hown ht hKK hFx hP hD hS hA (O dC dI cI cB cZ cJ cR tb H.size ad pr N L1 L2 u82 (0 : Int32) ps (show 0 ≤ (u82.1 0 304).toInt ∧ (u82.1 0 304).toInt ≤ 1503 from (om_8044691ca6 z304 q31 q71 q79 q84)) (show 0 ≤ (u82.1 0 306).toInt ∧ (u82.1 0 306).toInt ≤ 40 from (om_91b0537b40 i306L16 q85 q86 q87)) (show 0 ≤ (u82.1 0 312).toInt ∧ (u82.1 0 312).toInt ≤ 500 from (om_31e0c91fb9 z312 q72 q73 q88 q89)) (show 0 ≤ (u82.1 0 321).toInt ∧ (u82.1 0 321).toInt ≤ 501 from (om_ca65317fd6 i321L16 q90 q91 q92)) (show 0 ≤ (u82.1 0 326).toInt ∧ (u82.1 0 326).toInt ≤ 420 from (om_8ed0dedb19 i32676 q93)) (show 0 ≤ (u82.1 0 373).toInt ∧ (u82.1 0 373).toInt ≤ 4000 from (om_fdcbb58227 z373 q74 q75 q80 q94)) (show 0 ≤ (u82.1 0 381).toInt ∧ (u82.1 0 381).toInt ≤ 3008 from (om_6e4eb11ad3 i38176 q95)) (show L1.length = 40 from hL1) (show L2.length = 60 from hL2) (show RP u82 from ((show FC [305, 306, 307, 314, 315, 317, 321, 326, 381] [0, 316, 318, 319, 320, 324, 325, 378, 379, 380] v u82 from (FC.tr (FC.tr (FC.tr (FC.tr (FC.rf _) (FC.up fwL16 (by decide) (by decide))) (FC.up fr68 (by decide) (by decide))) (FC.up fr76 (by decide) (by decide))) (FC.up fr81 (by decide) (by decide)))).1 rp)) (show pr ps = ad 908 from hps) (show (u82.1 0 300) = ps from (Eq.trans (fr81.2.1 300 (by decide)) (Eq.trans (fr76.2.1 300 (by decide)) (Eq.trans (fr68.2.1 300 (by decide)) (Eq.trans (fwL16.2.1 300 (by decide)) es300))))) (show (u82.1 0 310) = ps from (Eq.trans (fr81.2.1 310 (by decide)) (Eq.trans (fr76.2.1 310 (by decide)) (Eq.trans (fr68.2.1 310 (by decide)) (Eq.trans (fwL16.2.1 310 (by decide)) es310))))) (show l.stackTraces = false from hst) (show 40 ≤ (u82.1 0 306).toInt + (n : Int) from (om_b90ca6a272 zn poL16 q85 q86 q87))) tw_530 tw_531 (by decide +kernel) rfl rfl ⟨show (8 * n + 16) + 1 ≤ 8 * n + 20 from om_4ff9781bd1, show 8 + (2 + 11) + 28 * (8 * n + 16) ≤ 28 * (8 * n + 20) from om_52ba07afcf⟩ (List.range (cW ad pr N cI cR L1 L2 u82).length) (rg_map _) (nd_range _) 2 rfl rfl rfl rfl hl.1 rfl (Nat.le_of_ble_eq_true rfl) dX2_expression_70 ⟨Nat.le_of_ble_eq_true rfl, Nat.le_of_ble_eq_true rfl⟩) hP hD hS hA (fun u9 ce9 q9 H locs hx9 hP hD hS hc9 hv9 hf9 => ?_) (fun r98 u97 H locs hw96 hP hD hS hz8 => ?_)
        · exact vx_out (fun x h9 => (hnt x h9).elim) hlocks hc9 hv9 hf9 (fun t9 ht9 hv8 => ⟨u9, ⟨FC.tr (FC.tr (FC.tr (FC.tr (FC.tr (FC.rf _) (FC.up fwL16 (by decide) (by decide))) (FC.up fr68 (by decide) (by decide))) (FC.up fr76 (by decide) (by decide))) (FC.up fr81 (by decide) (by decide))) hx9.1, hx9.2⟩, ⟨rfl, by rw [ht9]; exact hP, hD⟩, hS.F ht9⟩) hS.2.2 (Nat.le_refl _) (Nat.le_refl _)
        refine W.shrink (hz8.trans hz9) ?_
        obtain ⟨fr96, i30696, i32196, i32696, i38196, po96, bz96⟩ := hw96
        have i30696 : 0 ≤ (u97.1 0 306).toInt ∧ (u97.1 0 306).toInt ≤ 40 := i30696
        have i32196 : 0 ≤ (u97.1 0 321).toInt ∧ (u97.1 0 321).toInt ≤ 501 := i32196
        have i32696 : 0 ≤ (u97.1 0 326).toInt ∧ (u97.1 0 326).toInt ≤ 420 := i32696
        have i38196 : 0 ≤ (u97.1 0 381).toInt ∧ (u97.1 0 381).toInt ≤ 3008 := i38196
        have po96 : (u97.1 0 306).toInt = (u82.1 0 306).toInt := po96
        have bz96 : r98 = 0 ∨ r98 = 1 := bz96
        refine lv_pop hx hb dX2_expression_73 rfl ?_
        refine lv_iinc (v := (ka + (1 : Int32))) (lv' := [(3, .int (ka + (1 : Int32))), (4, .int r64), (2, .int (v.1 0 326)), (0, .ref (ad 902)), (1, .int pa)]) hx hb dX2_expression_74 hl (k := 1) rfl (rfl) (by decide) rfl (fun ls hl => ?_)
        have z99 : (ka + (1 : Int32)).toInt = ka.toInt + (1 : Int) := add_z rfl (show (1 : Int32).toInt = (1 : Int) by decide) (om_8a2b73c54c f1L16) (om_3176a8b66b f1L16)
        refine lv_goto (tgt := 16) hx hb dX2_expression_77 (by decide) ?_
        exact ih16 ((ka + (1 : Int32)), u97) _ _ _ (show (1500 - (ka + (1 : Int32)).toInt).toNat < (1500 - ka.toInt).toNat from tn_z (om_f107c3c51d z99) (om_1cb5cb4f43 z30)) ⟨(show FC [305, 306, 307, 314, 315, 317, 321, 326, 381] [0, 316, 318, 319, 320, 324, 325, 378, 379, 380] v u97 from (FC.tr (FC.tr (FC.tr (FC.tr (FC.tr (FC.rf _) (FC.up fwL16 (by decide) (by decide))) (FC.up fr68 (by decide) (by decide))) (FC.up fr76 (by decide) (by decide))) (FC.up fr81 (by decide) (by decide))) (FC.up fr96 (by decide) (by decide)))), (show 0 ≤ (u97.1 0 306).toInt ∧ (u97.1 0 306).toInt ≤ 40 from (om_7eaf33e007 i30696)), (show 0 ≤ (u97.1 0 321).toInt ∧ (u97.1 0 321).toInt ≤ 501 from (om_e1d35f5faf i32196)), (show 0 ≤ (u97.1 0 326).toInt ∧ (u97.1 0 326).toInt ≤ 420 from (om_839d7ed7dd i32696)), (show 0 ≤ (u97.1 0 381).toInt ∧ (u97.1 0 381).toInt ≤ 3008 from (om_e78eec72e1 i38196)), (show 0 ≤ (ka + (1 : Int32)).toInt ∧ (ka + (1 : Int32)).toInt ≤ 1500 from (om_46db715386 f1L16 z30 z99)), (show (u97.1 0 306).toInt = (v.1 0 306).toInt + 0 from (om_44f95a3b0a poL16 q85 q86 q87 po96)), hP, hD, hS, lv_sub hl [0, 2, 3, 4] rfl⟩
  · have z100 : r3.toInt ≠ (0 : Int) := ne_z rfl (show (0 : Int32).toInt = (0 : Int) by decide) h4
    refine W.sz (fun hz => ?_)
    refine vx_ret ?_
    refine W.widen (k := 1) (n := 6) (Nat.le_of_ble_eq_true rfl) (Nat.le_of_ble_eq_true rfl) ?_
    exact W.vret hx hb hr (fun t ht9 hW => ⟨⟨u2, rfl, ⟨(FC.tr (FC.rf _) (FC.up fr1 (by decide) (by decide))), (show 0 ≤ (u2.1 0 306).toInt ∧ (u2.1 0 306).toInt ≤ 40 from (om_7eaf33e007 i3061)), (show 0 ≤ (u2.1 0 321).toInt ∧ (u2.1 0 321).toInt ≤ 501 from (om_e1d35f5faf i3211)), (show 0 ≤ (u2.1 0 326).toInt ∧ (u2.1 0 326).toInt ≤ 420 from (om_839d7ed7dd i3261)), (show 0 ≤ (u2.1 0 381).toInt ∧ (u2.1 0 381).toInt ≤ 3008 from (om_e78eec72e1 i3811)), (show (u2.1 0 306).toInt = (v.1 0 306).toInt from (om_5049cbdce5 po1))⟩, ⟨by rw [ht9]; exact hP, hD⟩, by rw [ht9]; exact hz⟩, hS.F ht9⟩) hS.2.2 dX2_expression_13
theorem cq_all (l : Launch) : ∀ n, Cq_expression l n ∧ Cq_operand l n := by
  intro n
  induction n with
  | zero =>
    have ihE : ∀ m, 0 = m + 1 → Cq_expression l m := fun m h => by omega
    have O : Cq_operand l 0 := c_x_X2_operand l 0 ihE (fun m h => by omega)
    exact ⟨c_x_X2_expression l 0 ihE O, O⟩
  | succ n ih =>
    have ihE : ∀ m, n + 1 = m + 1 → Cq_expression l m := fun m h => (show n = m by omega) ▸ ih.1
    have O : Cq_operand l (n + 1) := c_x_X2_operand l (n + 1) ihE (fun m h => (show n = m by omega) ▸ ih.2)
    exact ⟨c_x_X2_expression l (n + 1) ihE O, O⟩
