theorem dX2_named_0 : decode cX2_named 0 = .ok (.aload_n 0, 1) := by decide +kernel
theorem dX2_named_1 : decode cX2_named 1 = .ok (.getfield 18, 3) := by decide +kernel
theorem dX2_named_4 : decode cX2_named 4 = .ok (.invokevirtual 119, 3) := by decide +kernel
theorem tw_543 : (.code yX9_kindBehind cX9_kindBehind 1 (some .int) : Cond) ∈ tw_W := tw_in (t8_3 (List.mem_of_getElem? (i := 228) rfl)) rfl
theorem tw_544 : ∀ w ∈ ([.methodLink RX2 119 yX9_kindBehind, .instanceMethod yX9_kindBehind, .selects RX9 yX9_kindBehind yX9_kindBehind, .initialized RX9] : List Cond), w ∈ tw_W := al_c (tw_in (t8_4 (List.mem_of_getElem? (i := 106) rfl)) rfl) (al_c (tw_in (t8_3 (List.mem_of_getElem? (i := 226) rfl)) rfl) (al_c (tw_in (t8_3 (List.mem_of_getElem? (i := 227) rfl)) rfl) (al_c (tw_in (t8_1 (List.mem_of_getElem? (i := 10) rfl)) rfl) al_n)))
theorem dX2_named_7 : decode cX2_named 7 = .ok (.istore_n 2, 1) := by decide +kernel
theorem dX2_named_8 : decode cX2_named 8 = .ok (.aload_n 0, 1) := by decide +kernel
theorem dX2_named_9 : decode cX2_named 9 = .ok (.getfield 22, 3) := by decide +kernel
theorem dX2_named_12 : decode cX2_named 12 = .ok (.aload_n 0, 1) := by decide +kernel
theorem dX2_named_13 : decode cX2_named 13 = .ok (.getfield 18, 3) := by decide +kernel
theorem dX2_named_16 : decode cX2_named 16 = .ok (.invokevirtual 107, 3) := by decide +kernel
theorem dX2_named_19 : decode cX2_named 19 = .ok (.invokevirtual 122, 3) := by decide +kernel
theorem tw_545 : ∀ w ∈ ([.methodLink RX2 122 yX1_slotNamed, .instanceMethod yX1_slotNamed, .selects RX1 yX1_slotNamed yX1_slotNamed, .initialized RX1] : List Cond), w ∈ tw_W := al_c (tw_in (t8_4 (List.mem_of_getElem? (i := 107) rfl)) rfl) (al_c (tw_in (t8_4 (List.mem_of_getElem? (i := 26) rfl)) rfl) (al_c (tw_in (t8_4 (List.mem_of_getElem? (i := 27) rfl)) rfl) (al_c (tw_in (t8_1 (List.mem_of_getElem? (i := 11) rfl)) rfl) al_n)))
theorem dX2_named_22 : decode cX2_named 22 = .ok (.istore_n 3, 1) := by decide +kernel
theorem dX2_named_23 : decode cX2_named 23 = .ok (.iload_n 3, 1) := by decide +kernel
theorem dX2_named_24 : decode cX2_named 24 = .ok (.iconst (-1), 1) := by decide +kernel
theorem dX2_named_25 : decode cX2_named 25 = .ok (.if_icmp .ne 23, 3) := by decide +kernel
theorem dX2_named_48 : decode cX2_named 48 = .ok (.iconst (-1), 1) := by decide +kernel
theorem dX2_named_49 : decode cX2_named 49 = .ok (.istore 4, 2) := by decide +kernel
theorem dX2_named_51 : decode cX2_named 51 = .ok (.iload_n 3, 1) := by decide +kernel
theorem dX2_named_52 : decode cX2_named 52 = .ok (.iconst (-1), 1) := by decide +kernel
theorem dX2_named_53 : decode cX2_named 53 = .ok (.if_icmp .ne 9, 3) := by decide +kernel
theorem dX2_named_62 : decode cX2_named 62 = .ok (.iconst 1, 1) := by decide +kernel
theorem dX2_named_63 : decode cX2_named 63 = .ok (.goto 4, 3) := by decide +kernel
theorem dX2_named_67 : decode cX2_named 67 = .ok (.istore 5, 2) := by decide +kernel
theorem dX2_named_69 : decode cX2_named 69 = .ok (.iload_n 2, 1) := by decide +kernel
theorem dX2_named_70 : decode cX2_named 70 = .ok (.bipush 30, 2) := by decide +kernel
theorem dX2_named_72 : decode cX2_named 72 = .ok (.if_icmp .ne 29, 3) := by decide +kernel
theorem dX2_named_101 : decode cX2_named 101 = .ok (.aload_n 0, 1) := by decide +kernel
theorem dX2_named_102 : decode cX2_named 102 = .ok (.getfield 22, 3) := by decide +kernel
theorem dX2_named_105 : decode cX2_named 105 = .ok (.getfield 125, 3) := by decide +kernel
theorem dX2_named_108 : decode cX2_named 108 = .ok (.iload 4, 2) := by decide +kernel
theorem dX2_named_110 : decode cX2_named 110 = .ok (.iconst 2, 1) := by decide +kernel
theorem dX2_named_111 : decode cX2_named 111 = .ok (.invokevirtual 135, 3) := by decide +kernel
theorem tw_546 : ∀ w ∈ ([.methodLink RX2 135 yX7_globalFact, .instanceMethod yX7_globalFact, .selects RX7 yX7_globalFact yX7_globalFact, .initialized RX7] : List Cond), w ∈ tw_W := al_c (tw_in (t8_4 (List.mem_of_getElem? (i := 131) rfl)) rfl) (al_c (tw_in (t8_3 (List.mem_of_getElem? (i := 220) rfl)) rfl) (al_c (tw_in (t8_3 (List.mem_of_getElem? (i := 221) rfl)) rfl) (al_c (tw_in (t8_1 (List.mem_of_getElem? (i := 8) rfl)) rfl) al_n)))
theorem dX2_named_114 : decode cX2_named 114 = .ok (.iconst 1, 1) := by decide +kernel
theorem dX2_named_115 : decode cX2_named 115 = .ok (.if_icmp .ne 7, 3) := by decide +kernel
theorem dX2_named_122 : decode cX2_named 122 = .ok (.iconst 0, 1) := by decide +kernel
theorem dX2_named_123 : decode cX2_named 123 = .ok (.istore 6, 2) := by decide +kernel
theorem dX2_named_125 : decode cX2_named 125 = .ok (.iload 5, 2) := by decide +kernel
theorem dX2_named_127 : decode cX2_named 127 = .ok (.ifCond .eq 19, 3) := by decide +kernel
theorem dX2_named_130 : decode cX2_named 130 = .ok (.iload 6, 2) := by decide +kernel
theorem dX2_named_132 : decode cX2_named 132 = .ok (.iload_n 2, 1) := by decide +kernel
theorem dX2_named_133 : decode cX2_named 133 = .ok (.bipush 34, 2) := by decide +kernel
theorem dX2_named_135 : decode cX2_named 135 = .ok (.if_icmp .ne 7, 3) := by decide +kernel
theorem dX2_named_142 : decode cX2_named 142 = .ok (.iconst 0, 1) := by decide +kernel
theorem dX2_named_143 : decode cX2_named 143 = .ok (.if_icmp .eq 18, 3) := by decide +kernel
theorem dX2_named_161 : decode cX2_named 161 = .ok (.aload_n 0, 1) := by decide +kernel
theorem dX2_named_162 : decode cX2_named 162 = .ok (.getfield 18, 3) := by decide +kernel
theorem dX2_named_165 : decode cX2_named 165 = .ok (.invokevirtual 52, 3) := by decide +kernel
theorem dX2_named_168 : decode cX2_named 168 = .ok (.iload 6, 2) := by decide +kernel
theorem dX2_named_170 : decode cX2_named 170 = .ok (.ifCond .eq 9, 3) := by decide +kernel
theorem dX2_named_179 : decode cX2_named 179 = .ok (.iload_n 1, 1) := by decide +kernel
theorem dX2_named_180 : decode cX2_named 180 = .ok (.ifCond .eq 27, 3) := by decide +kernel
theorem dX2_named_207 : decode cX2_named 207 = .ok (.iload 6, 2) := by decide +kernel
theorem dX2_named_209 : decode cX2_named 209 = .ok (.ifCond .eq 18, 3) := by decide +kernel
theorem dX2_named_227 : decode cX2_named 227 = .ok (.aload_n 0, 1) := by decide +kernel
theorem dX2_named_228 : decode cX2_named 228 = .ok (.iload_n 3, 1) := by decide +kernel
theorem dX2_named_229 : decode cX2_named 229 = .ok (.iload 4, 2) := by decide +kernel
theorem dX2_named_231 : decode cX2_named 231 = .ok (.invokevirtual 149, 3) := by decide +kernel
theorem dX2_named_234 : decode cX2_named 234 = .ok (.iconst 0, 1) := by decide +kernel
theorem dX2_named_235 : decode cX2_named 235 = .ok (.ireturn, 1) := by decide +kernel
theorem dX2_named_183 : decode cX2_named 183 = .ok (.aload_n 0, 1) := by decide +kernel
theorem dX2_named_184 : decode cX2_named 184 = .ok (.getfield 18, 3) := by decide +kernel
theorem dX2_named_187 : decode cX2_named 187 = .ok (.invokevirtual 34, 3) := by decide +kernel
theorem dX2_named_190 : decode cX2_named 190 = .ok (.invokestatic 142, 3) := by decide +kernel
theorem tw_547 : (.code yX9_isSet cX9_isSet 1 (some .boolean) : Cond) ∈ tw_W := tw_in (t8_4 (List.mem_of_getElem? (i := 138) rfl)) rfl
theorem tw_548 : ∀ w ∈ ([.methodLink RX2 142 yX9_isSet, .static yX9_isSet, .initialized yX9_isSet.cls] : List Cond), w ∈ tw_W := al_c (tw_in (t8_4 (List.mem_of_getElem? (i := 136) rfl)) rfl) (al_c (tw_in (t8_4 (List.mem_of_getElem? (i := 137) rfl)) rfl) (al_c (tw_in (t8_1 (List.mem_of_getElem? (i := 10) rfl)) rfl) al_n))
theorem dX2_named_193 : decode cX2_named 193 = .ok (.ifCond .eq 14, 3) := by decide +kernel
theorem dX2_named_196 : decode cX2_named 196 = .ok (.aload_n 0, 1) := by decide +kernel
theorem dX2_named_197 : decode cX2_named 197 = .ok (.iload_n 3, 1) := by decide +kernel
theorem dX2_named_198 : decode cX2_named 198 = .ok (.iload 4, 2) := by decide +kernel
theorem dX2_named_200 : decode cX2_named 200 = .ok (.iload 6, 2) := by decide +kernel
theorem dX2_named_202 : decode cX2_named 202 = .ok (.invokevirtual 145, 3) := by decide +kernel
theorem tw_549 : (.code yX2_change cX2_change 7 none : Cond) ∈ tw_W := tw_in (t8_4 (List.mem_of_getElem? (i := 142) rfl)) rfl
theorem tw_550 : ∀ w ∈ ([.methodLink RX2 145 yX2_change, .instanceMethod yX2_change, .selects RX2 yX2_change yX2_change, .initialized RX2] : List Cond), w ∈ tw_W := al_c (tw_in (t8_4 (List.mem_of_getElem? (i := 139) rfl)) rfl) (al_c (tw_in (t8_4 (List.mem_of_getElem? (i := 141) rfl)) rfl) (al_c (tw_in (t7_2 (q := (yX2_change, 5)) (List.mem_of_getElem? (i := 12) rfl)) rfl) (al_c (tw_in (t8_1 (List.mem_of_getElem? (i := 12) rfl)) rfl) al_n)))
theorem dX2_named_205 : decode cX2_named 205 = .ok (.iconst 1, 1) := by decide +kernel
theorem dX2_named_206 : decode cX2_named 206 = .ok (.ireturn, 1) := by decide +kernel
theorem dX2_named_138 : decode cX2_named 138 = .ok (.iconst 1, 1) := by decide +kernel
theorem dX2_named_139 : decode cX2_named 139 = .ok (.goto 4, 3) := by decide +kernel
theorem dX2_named_146 : decode cX2_named 146 = .ok (.aload_n 0, 1) := by decide +kernel
theorem dX2_named_147 : decode cX2_named 147 = .ok (.getfield 18, 3) := by decide +kernel
theorem dX2_named_150 : decode cX2_named 150 = .ok (.iconst 3, 1) := by decide +kernel
theorem dX2_named_151 : decode cX2_named 151 = .ok (.aload_n 0, 1) := by decide +kernel
theorem dX2_named_152 : decode cX2_named 152 = .ok (.getfield 18, 3) := by decide +kernel
theorem dX2_named_155 : decode cX2_named 155 = .ok (.invokevirtual 79, 3) := by decide +kernel
theorem dX2_named_158 : decode cX2_named 158 = .ok (.invokevirtual 82, 3) := by decide +kernel
theorem dX2_named_118 : decode cX2_named 118 = .ok (.iconst 1, 1) := by decide +kernel
theorem dX2_named_119 : decode cX2_named 119 = .ok (.goto 4, 3) := by decide +kernel
theorem dX2_named_173 : decode cX2_named 173 = .ok (.aload_n 0, 1) := by decide +kernel
theorem dX2_named_174 : decode cX2_named 174 = .ok (.iload 4, 2) := by decide +kernel
theorem dX2_named_176 : decode cX2_named 176 = .ok (.invokevirtual 139, 3) := by decide +kernel
theorem tw_551 : (.code yX2_index cX2_index 2 none : Cond) ∈ tw_W := tw_in (t8_4 (List.mem_of_getElem? (i := 135) rfl)) rfl
theorem tw_552 : ∀ w ∈ ([.methodLink RX2 139 yX2_index, .instanceMethod yX2_index, .selects RX2 yX2_index yX2_index, .initialized RX2] : List Cond), w ∈ tw_W := al_c (tw_in (t8_4 (List.mem_of_getElem? (i := 132) rfl)) rfl) (al_c (tw_in (t8_4 (List.mem_of_getElem? (i := 134) rfl)) rfl) (al_c (tw_in (t7_2 (q := (yX2_index, 5)) (List.mem_of_getElem? (i := 11) rfl)) rfl) (al_c (tw_in (t8_1 (List.mem_of_getElem? (i := 12) rfl)) rfl) al_n)))
theorem dX2_named_212 : decode cX2_named 212 = .ok (.aload_n 0, 1) := by decide +kernel
theorem dX2_named_213 : decode cX2_named 213 = .ok (.getfield 22, 3) := by decide +kernel
theorem dX2_named_216 : decode cX2_named 216 = .ok (.bipush 8, 2) := by decide +kernel
theorem dX2_named_218 : decode cX2_named 218 = .ok (.iload 4, 2) := by decide +kernel
theorem dX2_named_220 : decode cX2_named 220 = .ok (.iconst 0, 1) := by decide +kernel
theorem dX2_named_221 : decode cX2_named 221 = .ok (.invokevirtual 65, 3) := by decide +kernel
theorem dX2_named_224 : decode cX2_named 224 = .ok (.goto 10, 3) := by decide +kernel
theorem dX2_named_75 : decode cX2_named 75 = .ok (.iload 5, 2) := by decide +kernel
theorem dX2_named_77 : decode cX2_named 77 = .ok (.ifCond .eq 18, 3) := by decide +kernel
theorem dX2_named_80 : decode cX2_named 80 = .ok (.aload_n 0, 1) := by decide +kernel
theorem dX2_named_81 : decode cX2_named 81 = .ok (.getfield 18, 3) := by decide +kernel
theorem dX2_named_84 : decode cX2_named 84 = .ok (.iconst 3, 1) := by decide +kernel
theorem dX2_named_85 : decode cX2_named 85 = .ok (.aload_n 0, 1) := by decide +kernel
theorem dX2_named_86 : decode cX2_named 86 = .ok (.getfield 18, 3) := by decide +kernel
theorem dX2_named_89 : decode cX2_named 89 = .ok (.invokevirtual 79, 3) := by decide +kernel
theorem dX2_named_92 : decode cX2_named 92 = .ok (.invokevirtual 82, 3) := by decide +kernel
theorem dX2_named_28 : decode cX2_named 28 = .ok (.aload_n 0, 1) := by decide +kernel
theorem dX2_named_29 : decode cX2_named 29 = .ok (.getfield 22, 3) := by decide +kernel
theorem dX2_named_32 : decode cX2_named 32 = .ok (.getfield 125, 3) := by decide +kernel
theorem dX2_named_35 : decode cX2_named 35 = .ok (.aload_n 0, 1) := by decide +kernel
theorem dX2_named_36 : decode cX2_named 36 = .ok (.getfield 18, 3) := by decide +kernel
theorem dX2_named_39 : decode cX2_named 39 = .ok (.invokevirtual 107, 3) := by decide +kernel
theorem dX2_named_42 : decode cX2_named 42 = .ok (.invokevirtual 129, 3) := by decide +kernel
theorem tw_553 : (.code yX7_globalNamed cX7_globalNamed 3 (some .int) : Cond) ∈ tw_W := tw_in (t8_3 (List.mem_of_getElem? (i := 218) rfl)) rfl
theorem tw_554 : ∀ w ∈ ([.methodLink RX2 129 yX7_globalNamed, .instanceMethod yX7_globalNamed, .selects RX7 yX7_globalNamed yX7_globalNamed, .initialized RX7] : List Cond), w ∈ tw_W := al_c (tw_in (t8_4 (List.mem_of_getElem? (i := 108) rfl)) rfl) (al_c (tw_in (t8_3 (List.mem_of_getElem? (i := 216) rfl)) rfl) (al_c (tw_in (t8_3 (List.mem_of_getElem? (i := 217) rfl)) rfl) (al_c (tw_in (t8_1 (List.mem_of_getElem? (i := 8) rfl)) rfl) al_n)))
theorem dX2_named_45 : decode cX2_named 45 = .ok (.goto 4, 3) := by decide +kernel
theorem dX2_named_56 : decode cX2_named 56 = .ok (.iload 4, 2) := by decide +kernel
theorem dX2_named_58 : decode cX2_named 58 = .ok (.iconst (-1), 1) := by decide +kernel
theorem dX2_named_59 : decode cX2_named 59 = .ok (.if_icmp .eq 7, 3) := by decide +kernel
theorem dX2_named_66 : decode cX2_named 66 = .ok (.iconst 0, 1) := by decide +kernel
theorem dX2_named_95 : decode cX2_named 95 = .ok (.aload_n 0, 1) := by decide +kernel
theorem dX2_named_96 : decode cX2_named 96 = .ok (.invokevirtual 132, 3) := by decide +kernel
theorem tw_555 : (.code yX2_callFunction cX2_callFunction 5 none : Cond) ∈ tw_W := tw_in (t8_4 (List.mem_of_getElem? (i := 112) rfl)) rfl
theorem tw_556 : ∀ w ∈ ([.methodLink RX2 132 yX2_callFunction, .instanceMethod yX2_callFunction, .selects RX2 yX2_callFunction yX2_callFunction, .initialized RX2] : List Cond), w ∈ tw_W := al_c (tw_in (t8_4 (List.mem_of_getElem? (i := 109) rfl)) rfl) (al_c (tw_in (t8_4 (List.mem_of_getElem? (i := 111) rfl)) rfl) (al_c (tw_in (t7_2 (q := (yX2_callFunction, 5)) (List.mem_of_getElem? (i := 9) rfl)) rfl) (al_c (tw_in (t8_1 (List.mem_of_getElem? (i := 12) rfl)) rfl) al_n)))
theorem dX2_named_99 : decode cX2_named 99 = .ok (.iconst 0, 1) := by decide +kernel
theorem dX2_named_100 : decode cX2_named 100 = .ok (.ireturn, 1) := by decide +kernel
theorem dX2_operand_0 : decode cX2_operand 0 = .ok (.aload_n 0, 1) := by decide +kernel
theorem dX2_operand_1 : decode cX2_operand 1 = .ok (.getfield 18, 3) := by decide +kernel
theorem dX2_operand_4 : decode cX2_operand 4 = .ok (.invokevirtual 34, 3) := by decide +kernel
theorem dX2_operand_7 : decode cX2_operand 7 = .ok (.lookupswitch 235 #[(2, 229), (3, 105), (4, 130), (5, 105), (20, 147), (30, 199), (40, 89), (41, 97), (54, 81)], 81) := by decide +kernel
theorem dX2_operand_236 : decode cX2_operand 236 = .ok (.aload_n 0, 1) := by decide +kernel
theorem dX2_operand_237 : decode cX2_operand 237 = .ok (.iload_n 1, 1) := by decide +kernel
theorem dX2_operand_238 : decode cX2_operand 238 = .ok (.invokevirtual 113, 3) := by decide +kernel
theorem tw_557 : (.code yX2_named cX2_named 7 (some .boolean) : Cond) ∈ tw_W := tw_in (t8_4 (List.mem_of_getElem? (i := 105) rfl)) rfl
theorem tw_558 : ∀ w ∈ ([.methodLink RX2 113 yX2_named, .instanceMethod yX2_named, .selects RX2 yX2_named yX2_named, .initialized RX2] : List Cond), w ∈ tw_W := al_c (tw_in (t8_4 (List.mem_of_getElem? (i := 102) rfl)) rfl) (al_c (tw_in (t8_4 (List.mem_of_getElem? (i := 104) rfl)) rfl) (al_c (tw_in (t7_2 (q := (yX2_named, 5)) (List.mem_of_getElem? (i := 8) rfl)) rfl) (al_c (tw_in (t8_1 (List.mem_of_getElem? (i := 12) rfl)) rfl) al_n)))
theorem dX2_operand_241 : decode cX2_operand 241 = .ok (.ireturn, 1) := by decide +kernel
theorem dX2_operand_112 : decode cX2_operand 112 = .ok (.aload_n 0, 1) := by decide +kernel
theorem dX2_operand_113 : decode cX2_operand 113 = .ok (.getfield 22, 3) := by decide +kernel
theorem dX2_operand_116 : decode cX2_operand 116 = .ok (.iconst 2, 1) := by decide +kernel
theorem dX2_operand_117 : decode cX2_operand 117 = .ok (.aload_n 0, 1) := by decide +kernel
theorem dX2_operand_118 : decode cX2_operand 118 = .ok (.getfield 18, 3) := by decide +kernel
theorem dX2_operand_121 : decode cX2_operand 121 = .ok (.invokevirtual 107, 3) := by decide +kernel
theorem dX2_operand_124 : decode cX2_operand 124 = .ok (.iconst 0, 1) := by decide +kernel
theorem dX2_operand_125 : decode cX2_operand 125 = .ok (.invokevirtual 65, 3) := by decide +kernel
theorem dX2_operand_128 : decode cX2_operand 128 = .ok (.aload_n 0, 1) := by decide +kernel
theorem dX2_operand_129 : decode cX2_operand 129 = .ok (.getfield 18, 3) := by decide +kernel
theorem dX2_operand_132 : decode cX2_operand 132 = .ok (.invokevirtual 52, 3) := by decide +kernel
theorem dX2_operand_135 : decode cX2_operand 135 = .ok (.iconst 0, 1) := by decide +kernel
theorem dX2_operand_136 : decode cX2_operand 136 = .ok (.ireturn, 1) := by decide +kernel
theorem dX2_operand_137 : decode cX2_operand 137 = .ok (.aload_n 0, 1) := by decide +kernel
theorem dX2_operand_138 : decode cX2_operand 138 = .ok (.getfield 18, 3) := by decide +kernel
theorem dX2_operand_141 : decode cX2_operand 141 = .ok (.iconst 5, 1) := by decide +kernel
theorem dX2_operand_142 : decode cX2_operand 142 = .ok (.aload_n 0, 1) := by decide +kernel
theorem dX2_operand_143 : decode cX2_operand 143 = .ok (.getfield 18, 3) := by decide +kernel
theorem dX2_operand_146 : decode cX2_operand 146 = .ok (.invokevirtual 79, 3) := by decide +kernel
theorem dX2_operand_149 : decode cX2_operand 149 = .ok (.invokevirtual 82, 3) := by decide +kernel
theorem dX2_operand_154 : decode cX2_operand 154 = .ok (.aload_n 0, 1) := by decide +kernel
theorem dX2_operand_155 : decode cX2_operand 155 = .ok (.getfield 18, 3) := by decide +kernel
theorem dX2_operand_158 : decode cX2_operand 158 = .ok (.invokevirtual 52, 3) := by decide +kernel
theorem dX2_operand_161 : decode cX2_operand 161 = .ok (.aload_n 0, 1) := by decide +kernel
theorem dX2_operand_162 : decode cX2_operand 162 = .ok (.getfield 18, 3) := by decide +kernel
theorem dX2_operand_165 : decode cX2_operand 165 = .ok (.bipush 30, 2) := by decide +kernel
theorem dX2_operand_167 : decode cX2_operand 167 = .ok (.invokevirtual 110, 3) := by decide +kernel
theorem tw_559 : (.code yX9_need cX9_need 2 none : Cond) ∈ tw_W := tw_in (t8_3 (List.mem_of_getElem? (i := 202) rfl)) rfl
theorem tw_560 : ∀ w ∈ ([.methodLink RX2 110 yX9_need, .instanceMethod yX9_need, .selects RX9 yX9_need yX9_need, .initialized RX9] : List Cond), w ∈ tw_W := al_c (tw_in (t8_4 (List.mem_of_getElem? (i := 99) rfl)) rfl) (al_c (tw_in (t8_3 (List.mem_of_getElem? (i := 200) rfl)) rfl) (al_c (tw_in (t8_3 (List.mem_of_getElem? (i := 201) rfl)) rfl) (al_c (tw_in (t8_1 (List.mem_of_getElem? (i := 10) rfl)) rfl) al_n)))
theorem dX2_operand_170 : decode cX2_operand 170 = .ok (.aload_n 0, 1) := by decide +kernel
theorem dX2_operand_171 : decode cX2_operand 171 = .ok (.getfield 18, 3) := by decide +kernel
theorem dX2_operand_174 : decode cX2_operand 174 = .ok (.invokevirtual 91, 3) := by decide +kernel
theorem dX2_operand_177 : decode cX2_operand 177 = .ok (.aload_n 0, 1) := by decide +kernel
theorem dX2_operand_178 : decode cX2_operand 178 = .ok (.getfield 18, 3) := by decide +kernel
theorem dX2_operand_181 : decode cX2_operand 181 = .ok (.bipush 31, 2) := by decide +kernel
theorem dX2_operand_183 : decode cX2_operand 183 = .ok (.invokevirtual 98, 3) := by decide +kernel
theorem dX2_operand_186 : decode cX2_operand 186 = .ok (.aload_n 0, 1) := by decide +kernel
theorem dX2_operand_187 : decode cX2_operand 187 = .ok (.getfield 18, 3) := by decide +kernel
theorem dX2_operand_190 : decode cX2_operand 190 = .ok (.invokevirtual 101, 3) := by decide +kernel
theorem dX2_operand_193 : decode cX2_operand 193 = .ok (.aload_n 0, 1) := by decide +kernel
theorem dX2_operand_194 : decode cX2_operand 194 = .ok (.getfield 22, 3) := by decide +kernel
theorem dX2_operand_197 : decode cX2_operand 197 = .ok (.bipush 23, 2) := by decide +kernel
theorem dX2_operand_199 : decode cX2_operand 199 = .ok (.iconst 0, 1) := by decide +kernel
theorem dX2_operand_200 : decode cX2_operand 200 = .ok (.iconst 0, 1) := by decide +kernel
theorem dX2_operand_201 : decode cX2_operand 201 = .ok (.invokevirtual 65, 3) := by decide +kernel
theorem dX2_operand_204 : decode cX2_operand 204 = .ok (.iconst 0, 1) := by decide +kernel
theorem dX2_operand_205 : decode cX2_operand 205 = .ok (.ireturn, 1) := by decide +kernel
theorem dX2_operand_206 : decode cX2_operand 206 = .ok (.aload_n 0, 1) := by decide +kernel
theorem dX2_operand_207 : decode cX2_operand 207 = .ok (.getfield 18, 3) := by decide +kernel
theorem dX2_operand_210 : decode cX2_operand 210 = .ok (.invokevirtual 91, 3) := by decide +kernel
theorem dX2_operand_213 : decode cX2_operand 213 = .ok (.aload_n 0, 1) := by decide +kernel
theorem dX2_operand_214 : decode cX2_operand 214 = .ok (.iconst 1, 1) := by decide +kernel
theorem dX2_operand_215 : decode cX2_operand 215 = .ok (.invokevirtual 94, 3) := by decide +kernel
theorem dX2_operand_218 : decode cX2_operand 218 = .ok (.aload_n 0, 1) := by decide +kernel
theorem dX2_operand_219 : decode cX2_operand 219 = .ok (.getfield 18, 3) := by decide +kernel
theorem dX2_operand_222 : decode cX2_operand 222 = .ok (.bipush 31, 2) := by decide +kernel
theorem dX2_operand_224 : decode cX2_operand 224 = .ok (.invokevirtual 98, 3) := by decide +kernel
theorem dX2_operand_227 : decode cX2_operand 227 = .ok (.aload_n 0, 1) := by decide +kernel
theorem dX2_operand_228 : decode cX2_operand 228 = .ok (.getfield 18, 3) := by decide +kernel
theorem dX2_operand_231 : decode cX2_operand 231 = .ok (.invokevirtual 101, 3) := by decide +kernel
theorem dX2_operand_234 : decode cX2_operand 234 = .ok (.iconst 0, 1) := by decide +kernel
theorem dX2_operand_235 : decode cX2_operand 235 = .ok (.ireturn, 1) := by decide +kernel
theorem dX2_operand_96 : decode cX2_operand 96 = .ok (.aload_n 0, 1) := by decide +kernel
theorem dX2_operand_97 : decode cX2_operand 97 = .ok (.bipush 13, 2) := by decide +kernel
theorem dX2_operand_99 : decode cX2_operand 99 = .ok (.invokevirtual 104, 3) := by decide +kernel
theorem tw_561 : (.code yX2_unary cX2_unary 2 none : Cond) ∈ tw_W := tw_in (t8_4 (List.mem_of_getElem? (i := 91) rfl)) rfl
theorem tw_562 : ∀ w ∈ ([.methodLink RX2 104 yX2_unary, .instanceMethod yX2_unary, .selects RX2 yX2_unary yX2_unary, .initialized RX2] : List Cond), w ∈ tw_W := al_c (tw_in (t8_4 (List.mem_of_getElem? (i := 88) rfl)) rfl) (al_c (tw_in (t8_4 (List.mem_of_getElem? (i := 90) rfl)) rfl) (al_c (tw_in (t7_2 (q := (yX2_unary, 5)) (List.mem_of_getElem? (i := 7) rfl)) rfl) (al_c (tw_in (t8_1 (List.mem_of_getElem? (i := 12) rfl)) rfl) al_n)))
theorem dX2_operand_102 : decode cX2_operand 102 = .ok (.iconst 0, 1) := by decide +kernel
theorem dX2_operand_103 : decode cX2_operand 103 = .ok (.ireturn, 1) := by decide +kernel
theorem dX2_operand_104 : decode cX2_operand 104 = .ok (.aload_n 0, 1) := by decide +kernel
theorem dX2_operand_105 : decode cX2_operand 105 = .ok (.bipush 14, 2) := by decide +kernel
theorem dX2_operand_107 : decode cX2_operand 107 = .ok (.invokevirtual 104, 3) := by decide +kernel
theorem dX2_operand_110 : decode cX2_operand 110 = .ok (.iconst 0, 1) := by decide +kernel
theorem dX2_operand_111 : decode cX2_operand 111 = .ok (.ireturn, 1) := by decide +kernel
theorem dX2_operand_88 : decode cX2_operand 88 = .ok (.aload_n 0, 1) := by decide +kernel
theorem dX2_operand_89 : decode cX2_operand 89 = .ok (.bipush 12, 2) := by decide +kernel
theorem dX2_operand_91 : decode cX2_operand 91 = .ok (.invokevirtual 104, 3) := by decide +kernel
theorem dX2_operand_94 : decode cX2_operand 94 = .ok (.iconst 0, 1) := by decide +kernel
theorem dX2_operand_95 : decode cX2_operand 95 = .ok (.ireturn, 1) := by decide +kernel
theorem dX2_operand_242 : decode cX2_operand 242 = .ok (.aload_n 0, 1) := by decide +kernel
theorem dX2_operand_243 : decode cX2_operand 243 = .ok (.getfield 18, 3) := by decide +kernel
theorem dX2_operand_246 : decode cX2_operand 246 = .ok (.invokevirtual 116, 3) := by decide +kernel
theorem tw_563 : (.code yX9_refuseMisfit cX9_refuseMisfit 1 none : Cond) ∈ tw_W := tw_in (t8_4 (List.mem_of_getElem? (i := 154) rfl)) rfl
theorem tw_564 : ∀ w ∈ ([.methodLink RX2 116 yX9_refuseMisfit, .instanceMethod yX9_refuseMisfit, .selects RX9 yX9_refuseMisfit yX9_refuseMisfit, .initialized RX9] : List Cond), w ∈ tw_W := al_c (tw_in (t8_4 (List.mem_of_getElem? (i := 151) rfl)) rfl) (al_c (tw_in (t8_4 (List.mem_of_getElem? (i := 152) rfl)) rfl) (al_c (tw_in (t8_4 (List.mem_of_getElem? (i := 153) rfl)) rfl) (al_c (tw_in (t8_1 (List.mem_of_getElem? (i := 10) rfl)) rfl) al_n)))
theorem dX2_expression_0 : decode cX2_expression 0 = .ok (.aload_n 0, 1) := by decide +kernel
theorem dX2_expression_1 : decode cX2_expression 1 = .ok (.getfield 26, 3) := by decide +kernel
theorem dX2_expression_4 : decode cX2_expression 4 = .ok (.istore_n 2, 1) := by decide +kernel
theorem dX2_expression_5 : decode cX2_expression 5 = .ok (.aload_n 0, 1) := by decide +kernel
theorem dX2_expression_6 : decode cX2_expression 6 = .ok (.iload_n 1, 1) := by decide +kernel
theorem dX2_expression_7 : decode cX2_expression 7 = .ok (.invokevirtual 30, 3) := by decide +kernel
theorem dX2_expression_10 : decode cX2_expression 10 = .ok (.ifCond .eq 4, 3) := by decide +kernel
theorem dX2_expression_14 : decode cX2_expression 14 = .ok (.iconst 0, 1) := by decide +kernel
theorem dX2_expression_15 : decode cX2_expression 15 = .ok (.istore_n 3, 1) := by decide +kernel
theorem dX2_expression_16 : decode cX2_expression 16 = .ok (.iload_n 3, 1) := by decide +kernel
theorem dX2_expression_17 : decode cX2_expression 17 = .ok (.sipush 1500, 3) := by decide +kernel
theorem dX2_expression_20 : decode cX2_expression 20 = .ok (.if_icmp .ge 60, 3) := by decide +kernel
theorem dX2_expression_80 : decode cX2_expression 80 = .ok (.aload_n 0, 1) := by decide +kernel
theorem dX2_expression_81 : decode cX2_expression 81 = .ok (.iload_n 2, 1) := by decide +kernel
theorem dX2_expression_82 : decode cX2_expression 82 = .ok (.iconst 0, 1) := by decide +kernel
theorem dX2_expression_83 : decode cX2_expression 83 = .ok (.invokevirtual 44, 3) := by decide +kernel
theorem tw_565 : (.code yX2_finishSigns cX2_finishSigns 4 none : Cond) ∈ tw_W := tw_in (t8_4 (List.mem_of_getElem? (i := 163) rfl)) rfl
theorem tw_566 : ∀ w ∈ ([.methodLink RX2 44 yX2_finishSigns, .instanceMethod yX2_finishSigns, .selects RX2 yX2_finishSigns yX2_finishSigns, .initialized RX2] : List Cond), w ∈ tw_W := al_c (tw_in (t8_4 (List.mem_of_getElem? (i := 160) rfl)) rfl) (al_c (tw_in (t8_4 (List.mem_of_getElem? (i := 162) rfl)) rfl) (al_c (tw_in (t7_2 (q := (yX2_finishSigns, 5)) (List.mem_of_getElem? (i := 15) rfl)) rfl) (al_c (tw_in (t8_1 (List.mem_of_getElem? (i := 12) rfl)) rfl) al_n)))
theorem dX2_expression_86 : decode cX2_expression 86 = .ok (.aload_n 0, 1) := by decide +kernel
theorem dX2_expression_87 : decode cX2_expression 87 = .ok (.getfield 18, 3) := by decide +kernel
theorem dX2_expression_90 : decode cX2_expression 90 = .ok (.invokevirtual 34, 3) := by decide +kernel
theorem dX2_expression_93 : decode cX2_expression 93 = .ok (.bipush 38, 2) := by decide +kernel
theorem dX2_expression_95 : decode cX2_expression 95 = .ok (.if_icmp .ne 7, 3) := by decide +kernel
theorem dX2_expression_102 : decode cX2_expression 102 = .ok (.return_, 1) := by decide +kernel
theorem dX2_expression_98 : decode cX2_expression 98 = .ok (.aload_n 0, 1) := by decide +kernel
theorem dX2_expression_99 : decode cX2_expression 99 = .ok (.invokevirtual 55, 3) := by decide +kernel
theorem tw_567 : (.code yX2_choice cX2_choice 3 none : Cond) ∈ tw_W := tw_in (t8_4 (List.mem_of_getElem? (i := 180) rfl)) rfl
theorem tw_568 : ∀ w ∈ ([.methodLink RX2 55 yX2_choice, .instanceMethod yX2_choice, .selects RX2 yX2_choice yX2_choice, .initialized RX2] : List Cond), w ∈ tw_W := al_c (tw_in (t8_4 (List.mem_of_getElem? (i := 177) rfl)) rfl) (al_c (tw_in (t8_4 (List.mem_of_getElem? (i := 179) rfl)) rfl) (al_c (tw_in (t7_3 (q := (yX2_choice, 5)) (List.mem_of_getElem? (i := 2) rfl)) rfl) (al_c (tw_in (t8_1 (List.mem_of_getElem? (i := 12) rfl)) rfl) al_n)))
theorem dX2_expression_23 : decode cX2_expression 23 = .ok (.aload_n 0, 1) := by decide +kernel
theorem dX2_expression_24 : decode cX2_expression 24 = .ok (.getfield 18, 3) := by decide +kernel
theorem dX2_expression_27 : decode cX2_expression 27 = .ok (.invokevirtual 34, 3) := by decide +kernel
theorem dX2_expression_30 : decode cX2_expression 30 = .ok (.invokestatic 40, 3) := by decide +kernel
theorem dX2_expression_33 : decode cX2_expression 33 = .ok (.ifCond .le 47, 3) := by decide +kernel
theorem dX2_expression_36 : decode cX2_expression 36 = .ok (.aload_n 0, 1) := by decide +kernel
theorem dX2_expression_37 : decode cX2_expression 37 = .ok (.getfield 18, 3) := by decide +kernel
theorem dX2_expression_40 : decode cX2_expression 40 = .ok (.invokevirtual 34, 3) := by decide +kernel
theorem dX2_expression_43 : decode cX2_expression 43 = .ok (.istore 4, 2) := by decide +kernel
theorem dX2_expression_45 : decode cX2_expression 45 = .ok (.aload_n 0, 1) := by decide +kernel
theorem dX2_expression_46 : decode cX2_expression 46 = .ok (.iload_n 2, 1) := by decide +kernel
theorem dX2_expression_47 : decode cX2_expression 47 = .ok (.iload 4, 2) := by decide +kernel
theorem dX2_expression_49 : decode cX2_expression 49 = .ok (.invokestatic 40, 3) := by decide +kernel
theorem dX2_expression_52 : decode cX2_expression 52 = .ok (.invokevirtual 44, 3) := by decide +kernel
theorem dX2_expression_55 : decode cX2_expression 55 = .ok (.aload_n 0, 1) := by decide +kernel
theorem dX2_expression_56 : decode cX2_expression 56 = .ok (.iload 4, 2) := by decide +kernel
theorem dX2_expression_58 : decode cX2_expression 58 = .ok (.invokevirtual 48, 3) := by decide +kernel
theorem tw_569 : (.code yX2_beginSign cX2_beginSign 3 none : Cond) ∈ tw_W := tw_in (t8_4 (List.mem_of_getElem? (i := 171) rfl)) rfl
theorem tw_570 : ∀ w ∈ ([.methodLink RX2 48 yX2_beginSign, .instanceMethod yX2_beginSign, .selects RX2 yX2_beginSign yX2_beginSign, .initialized RX2] : List Cond), w ∈ tw_W := al_c (tw_in (t8_4 (List.mem_of_getElem? (i := 168) rfl)) rfl) (al_c (tw_in (t8_4 (List.mem_of_getElem? (i := 170) rfl)) rfl) (al_c (tw_in (t7_3 (q := (yX2_beginSign, 5)) (List.mem_of_getElem? (i := 0) rfl)) rfl) (al_c (tw_in (t8_1 (List.mem_of_getElem? (i := 12) rfl)) rfl) al_n)))
theorem dX2_expression_61 : decode cX2_expression 61 = .ok (.aload_n 0, 1) := by decide +kernel
theorem dX2_expression_62 : decode cX2_expression 62 = .ok (.getfield 18, 3) := by decide +kernel
theorem dX2_expression_65 : decode cX2_expression 65 = .ok (.invokevirtual 52, 3) := by decide +kernel
theorem dX2_expression_68 : decode cX2_expression 68 = .ok (.aload_n 0, 1) := by decide +kernel
theorem dX2_expression_69 : decode cX2_expression 69 = .ok (.iconst 0, 1) := by decide +kernel
theorem dX2_expression_70 : decode cX2_expression 70 = .ok (.invokevirtual 30, 3) := by decide +kernel
theorem dX2_expression_73 : decode cX2_expression 73 = .ok (.pop, 1) := by decide +kernel
theorem dX2_expression_74 : decode cX2_expression 74 = .ok (.iinc 3 1, 3) := by decide +kernel
theorem dX2_expression_77 : decode cX2_expression 77 = .ok (.goto (-61), 3) := by decide +kernel
theorem dX2_expression_13 : decode cX2_expression 13 = .ok (.return_, 1) := by decide +kernel
theorem om_fce2c17b78 {n0 : Nat} : 0 + 1 ≤ 8 * n0 + 15 := by omega
theorem om_bca265e904 {n0 : Nat} : 8 + (1 + 11) + 0 ≤ 28 * (8 * n0 + 15) := by omega
theorem om_60a3ad0423 {n0 : Nat} : 1 + 1 ≤ 8 * n0 + 15 := by omega
theorem om_c7002dd5fa {n0 : Nat} : 8 + (3 + 11) + 14 ≤ 28 * (8 * n0 + 15) := by omega
theorem om_0eaa3b1b86 {n0 : Nat} : 8 + (3 + 11) + 0 ≤ 28 * (8 * n0 + 15) := by omega
theorem om_ec1f92c19e {n0 : Nat} : 7 + 1 ≤ 8 * n0 + 15 := by omega
theorem om_9d5a13a74b {n0 : Nat} : 8 + (1 + 11) + 104 ≤ 28 * (8 * n0 + 15) := by omega
theorem om_7b03affc19 {x0 x1 x2 x3 x4 x5 : Int} (h0 : x0 + x1 - 2 * x2 ≤ 0) (h1 : x3 = x1) (h2 : x4 = x0) (h3 : x5 = x2 + 1) : x4 + x3 - 2 * x5 ≤ 6 := by omega
theorem om_82dcfb3396 {n0 : Nat} : 8 + (3 + 11) + 24 ≤ 28 * (8 * n0 + 15) := by omega
theorem om_570f2378f1 {x0 x1 x2 : Int} (h0 : 0 ≤ x0 ∧ x0 ≤ 1500) (h1 : 0 ≤ x1 ∧ x1 ≤ 1500) (h2 : x1 = x0 + 1) (h3 : x2 = x1) : 0 ≤ x2 ∧ x2 ≤ 1500 := by omega
theorem om_488f1abd23 {x0 x1 x2 x3 x4 x5 x6 x7 x8 : Int} (h0 : x0 = x1) (h1 : x2 = x3) (h2 : x4 = x5 + 1) (h3 : x6 + x7 - 2 * x8 + (-1) ≤ x2 + x0 - 2 * x4) : x6 + x7 - 2 * x8 + (1) ≤ x3 + x1 - 2 * x5 := by omega
theorem om_c67b42e814 {x0 x1 x2 : Int} (h0 : x0 = x1 + 1) (h1 : x2 = x0) : x1 + 1 ≤ x2 := by omega
theorem om_f06027329d {x0 x1 x2 x3 x4 x5 : Int} (h0 : x0 = x1) (h1 : x2 = x3 + 1) (h2 : x4 = x2) (h3 : x5 = x0) : x1 ≤ x5 ∧ x5 - 4 * x4 ≤ x1 - 4 * x3 + 0 := by omega
theorem om_7cd3452ef7 {x0 x1 x2 x3 x4 x5 : Int} (h0 : x0 + x1 - 2 * x2 ≤ 0) (h1 : x3 = x1) (h2 : x4 = x0) (h3 : x5 = x2 + 1) : x4 + x3 - 2 * x5 ≤ -2 := by omega
theorem om_0b187384ea : 0 ≤ (0 : Int) ∧ (0 : Int) ≤ 1 := by omega
theorem om_c0c6541b93 {n0 : Nat} : (8 * n0 + 14) + 1 ≤ 8 * n0 + 15 := by omega
theorem om_fb93e872bb {n0 : Nat} : 8 + (7 + 11) + 28 * (8 * n0 + 14) ≤ 28 * (8 * n0 + 15) := by omega
theorem om_f321cbe231 {x0 x1 x2 x3 x4 x5 x6 x7 x8 : Int} (h0 : x0 + x1 - 2 * x2 ≤ 0) (h1 : x3 = x1) (h2 : x4 = x0) (h3 : x5 = x2 + 1) (h4 : 0 ≤ x6 ∧ x6 ≤ 1500) (h5 : 0 ≤ x7 ∧ x7 ≤ 420) (h6 : 0 ≤ x8 ∧ x8 ≤ 3008) (h7 : x8 + x7 - 2 * x6 + (-1 - (0 : Int)) ≤ x4 + x3 - 2 * x5) : 0 ≤ x8 ∧ x8 ≤ 3008 := by omega
theorem om_9e98ca684f {x0 x1 x2 x3 x4 x5 x6 x7 x8 : Int} (h0 : x0 = x1) (h1 : x2 = x3) (h2 : x4 = x5 + 1) (h3 : x6 + x7 - 2 * x8 + (-1 - (0 : Int)) ≤ x2 + x0 - 2 * x4) : x6 + x7 - 2 * x8 + (1) ≤ x3 + x1 - 2 * x5 := by omega
theorem om_999763a006 {x0 x1 x2 : Int} (h0 : x0 = x1 + 1) (h1 : x0 + 2 ≤ x2) : x1 + 1 ≤ x2 := by omega
theorem om_86ed8a939d {x0 x1 x2 x3 x4 x5 : Int} (h0 : x0 = x1) (h1 : x2 = x3 + 1) (h2 : x0 ≤ x4 ∧ x4 - 4 * x5 ≤ x0 - 4 * x2 + 0) : x1 ≤ x4 ∧ x4 - 4 * x5 ≤ x1 - 4 * x3 + 0 := by omega
theorem om_59881768ad : (3 : Int) ≠ 0 := by omega
theorem om_838586afae {n0 : Nat} : 6 + 1 ≤ 8 * n0 + 15 := by omega
theorem om_41a9d63453 {n0 : Nat} : 8 + (3 + 11) + 82 ≤ 28 * (8 * n0 + 15) := by omega
theorem om_4a6a2fe9b7 {x0 x1 x2 x3 x4 x5 : Int} (h0 : x0 + x1 - 2 * x2 ≤ 0) (h1 : x3 = x1) (h2 : x4 = x0) (h3 : x5 = x2 + 1) : x4 + x3 - 2 * x5 ≤ 2 := by omega
theorem om_c8e428155d {n0 : Nat} : 8 + (2 + 11) + 28 * (8 * n0 + 14) ≤ 28 * (8 * n0 + 15) := by omega
theorem om_4a41e7b354 {x0 x1 x2 x3 x4 x5 x6 x7 x8 : Int} (h0 : x0 + x1 - 2 * x2 ≤ 0) (h1 : x3 = x1) (h2 : x4 = x0) (h3 : x5 = x2 + 1) (h4 : 0 ≤ x6 ∧ x6 ≤ 1500) (h5 : 0 ≤ x7 ∧ x7 ≤ 420) (h6 : 0 ≤ x8 ∧ x8 ≤ 3008) (h7 : x8 + x7 - 2 * x6 + (4) ≤ x4 + x3 - 2 * x5) : 0 ≤ x8 ∧ x8 ≤ 3008 := by omega
theorem om_965160d414 {x0 x1 x2 x3 x4 x5 x6 x7 x8 : Int} (h0 : x0 + x1 - 2 * x2 ≤ 0) (h1 : x3 = x1) (h2 : x4 = x0) (h3 : x5 = x2 + 1) (h4 : 0 ≤ x6 ∧ x6 ≤ 1500) (h5 : 0 ≤ x7 ∧ x7 ≤ 420) (h6 : x8 + x7 - 2 * x6 + (4) ≤ x4 + x3 - 2 * x5) : x8 < 3008 := by omega
theorem om_bbd2f5c798 {n0 : Nat} : 8 + (5 + 11) + 0 ≤ 28 * (8 * n0 + 15) := by omega
theorem om_084377e3fa {x0 x1 x2 : Int} (h0 : 0 ≤ x0 ∧ x0 ≤ 1500) (h1 : 0 ≤ x1 ∧ x1 ≤ 1500) (h2 : x0 + 3 ≤ x1) (h3 : x2 = x1) : 0 ≤ x2 ∧ x2 ≤ 1500 := by omega
theorem om_a54fafc81a {x0 x1 x2 x3 x4 x5 x6 x7 x8 x9 : Int} (h0 : x0 + x1 - 2 * x2 ≤ 0) (h1 : x3 = x1) (h2 : x4 = x0) (h3 : x5 = x2 + 1) (h4 : 0 ≤ x6 ∧ x6 ≤ 1500) (h5 : 0 ≤ x7 ∧ x7 ≤ 420) (h6 : 0 ≤ x8 ∧ x8 ≤ 3008) (h7 : x8 + x7 - 2 * x6 + (4) ≤ x4 + x3 - 2 * x5) (h8 : x9 = x8 + 1) : 0 ≤ x9 ∧ x9 ≤ 3008 := by omega
theorem om_93d336dac2 {x0 x1 x2 x3 x4 x5 x6 x7 x8 x9 x10 x11 : Int} (h0 : x0 = x1) (h1 : x2 = x3) (h2 : x4 = x5 + 1) (h3 : x6 + x7 - 2 * x8 + (4) ≤ x2 + x0 - 2 * x4) (h4 : x9 = x8) (h5 : x10 = x7) (h6 : x11 = x6 + 1) : x11 + x10 - 2 * x9 + (1) ≤ x3 + x1 - 2 * x5 := by omega
theorem om_bfb949faf8 {x0 x1 x2 x3 : Int} (h0 : x0 = x1 + 1) (h1 : x0 + 3 ≤ x2) (h2 : x3 = x2) : x1 + 1 ≤ x3 := by omega
theorem om_fbd5167e72 {x0 x1 x2 x3 x4 x5 x6 x7 : Int} (h0 : x0 = x1) (h1 : x2 = x3 + 1) (h2 : x0 ≤ x4 ∧ x4 - 4 * x5 ≤ x0 - 4 * x2 + 0) (h3 : x6 = x5) (h4 : x7 = x4) : x1 ≤ x7 ∧ x7 - 4 * x6 ≤ x1 - 4 * x3 + 0 := by omega
theorem om_92b6e2629b {x0 x1 : Int} (h0 : 0 ≤ x0 ∧ x0 ≤ 1500) (h1 : 0 ≤ x1 ∧ x1 ≤ 1500) (h2 : x0 + 3 ≤ x1) : 0 ≤ x1 ∧ x1 ≤ 1500 := by omega
theorem om_98c4315a29 {x0 x1 x2 x3 x4 x5 x6 x7 x8 : Int} (h0 : x0 + x1 - 2 * x2 ≤ 0) (h1 : x3 = x1) (h2 : x4 = x0) (h3 : x5 = x2 + 1) (h4 : x6 + x7 - 2 * x8 + (4) ≤ x4 + x3 - 2 * x5) : x6 + x7 - 2 * x8 ≤ -2 := by omega
theorem om_ac625cfd8a {x0 x1 x2 x3 x4 x5 : Int} (h0 : 0 ≤ x0 ∧ x0 - 4 * x1 ≤ 8) (h1 : x2 = x0) (h2 : x3 = x1 + 1) (h3 : x2 ≤ x4 ∧ x4 - 4 * x5 ≤ x2 - 4 * x3 + 0) : 0 ≤ x4 ∧ x4 - 4 * x5 ≤ 8 := by omega
theorem om_4c024736fb {x0 x1 x2 : Int} (h0 : 0 ≤ x0 ∧ x0 ≤ 1500) (h1 : x0 + 3 ≤ x1) (h2 : 0 ≤ x2 ∧ x2 ≤ 1500) (h3 : x1 + 2 ≤ x2) : 0 ≤ x2 ∧ x2 ≤ 1500 := by omega
theorem om_47c7ea4719 {x0 x1 x2 x3 x4 x5 x6 x7 x8 x9 x10 x11 : Int} (h0 : x0 + x1 - 2 * x2 ≤ 0) (h1 : x3 = x1) (h2 : x4 = x0) (h3 : x5 = x2 + 1) (h4 : x6 + x7 - 2 * x8 + (4) ≤ x4 + x3 - 2 * x5) (h5 : 0 ≤ x9 ∧ x9 ≤ 1500) (h6 : 0 ≤ x10 ∧ x10 ≤ 420) (h7 : 0 ≤ x11 ∧ x11 ≤ 3008) (h8 : x11 + x10 - 2 * x9 + (-1 - (1 : Int)) ≤ x6 + x7 - 2 * x8) : 0 ≤ x11 ∧ x11 ≤ 3008 := by omega
theorem om_7eb2e82a0c {x0 x1 x2 x3 x4 x5 x6 x7 x8 x9 x10 x11 : Int} (h0 : x0 = x1) (h1 : x2 = x3) (h2 : x4 = x5 + 1) (h3 : x6 + x7 - 2 * x8 + (4) ≤ x2 + x0 - 2 * x4) (h4 : x9 + x10 - 2 * x11 + (-1 - (1 : Int)) ≤ x6 + x7 - 2 * x8) : x9 + x10 - 2 * x11 + (1) ≤ x3 + x1 - 2 * x5 := by omega
theorem om_f81c97fcfd {x0 x1 x2 x3 : Int} (h0 : x0 = x1 + 1) (h1 : x0 + 3 ≤ x2) (h2 : x2 + 2 ≤ x3) : x1 + 1 ≤ x3 := by omega
theorem om_7d74887e57 {x0 x1 x2 x3 x4 x5 x6 x7 : Int} (h0 : x0 = x1) (h1 : x2 = x3 + 1) (h2 : x0 ≤ x4 ∧ x4 - 4 * x5 ≤ x0 - 4 * x2 + 0) (h3 : x4 ≤ x6 ∧ x6 - 4 * x7 ≤ x4 - 4 * x5 + 0) : x1 ≤ x6 ∧ x6 - 4 * x7 ≤ x1 - 4 * x3 + 0 := by omega
theorem om_7af79ecf53 {x0 : Int} (h0 : (-1 ≤ x0)) (h1 : x0 ≠ (-1 : Int)) (h2 : x0 = (-1 : Int)) : False := by omega
theorem om_c23f94bcd4 {n0 : Nat} : 8 + (3 + 11) + 22 ≤ 28 * (8 * n0 + 15) := by omega
theorem om_fb4a63dff4 {x0 : Int} (h0 : (-1 ≤ x0)) (h1 : x0 = (-1 : Int)) (h2 : x0 ≠ (-1 : Int)) : False := by omega
theorem om_d5d375da37 {x0 x1 x2 : Int} (h0 : 0 ≤ x0 ∧ x0 ≤ 1500) (h1 : 0 ≤ x1 ∧ x1 ≤ 420) (h2 : 0 ≤ x2 ∧ x2 ≤ 3008) (h3 : x2 + x1 - 2 * x0 ≤ 0) : 0 ≤ x2 ∧ x2 ≤ 3008 := by omega
theorem om_53f6704e77 {x0 x1 x2 : Int} (h0 : x0 + x1 - 2 * x2 ≤ 0) : x0 + x1 - 2 * x2 ≤ 0 := by omega
theorem om_8c45074a6a {x0 x1 : Int} (h0 : 0 ≤ x0 ∧ x0 - 4 * x1 ≤ 8) : 0 ≤ x0 ∧ x0 - 4 * x1 ≤ 8 := by omega
theorem om_4fd16bceab {n0 : Nat} : 8 + (5 + 11) + 28 * (8 * n0 + 14) ≤ 28 * (8 * n0 + 15) := by omega
theorem om_bd19145ecd {x0 x1 x2 x3 x4 x5 : Int} (h0 : x0 + x1 - 2 * x2 ≤ 0) (h1 : 0 ≤ x3 ∧ x3 ≤ 1500) (h2 : 0 ≤ x4 ∧ x4 ≤ 420) (h3 : 0 ≤ x5 ∧ x5 ≤ 3008) (h4 : x5 + x4 - 2 * x3 + (5) ≤ x0 + x1 - 2 * x2) : 0 ≤ x5 ∧ x5 ≤ 3008 := by omega
theorem om_e6426e9c4a {x0 x1 x2 x3 x4 x5 : Int} (h0 : x0 + x1 - 2 * x2 + (5) ≤ x3 + x4 - 2 * x5) : x0 + x1 - 2 * x2 + (1) ≤ x3 + x4 - 2 * x5 := by omega
theorem om_f31c5bf719 {x0 x1 : Int} (h0 : x0 + 3 ≤ x1) : x0 + 1 ≤ x1 := by omega
theorem om_53a6d658c3 {x0 x1 x2 x3 : Int} (h0 : x0 ≤ x1 ∧ x1 - 4 * x2 ≤ x0 - 4 * x3 + 0) : x0 ≤ x1 ∧ x1 - 4 * x2 ≤ x0 - 4 * x3 + 0 := by omega
set_option maxHeartbeats 16000000 in
set_option maxRecDepth 100000 in
theorem c_x_X2_named (l : Launch) (n : Nat) (ihE : ∀ m, n = m + 1 → Cq_expression l m) (dC : Nat → ClassId) (dI : Nat → Nat → Nat) (cI cB cZ cJ cR : ClassId) (tb : Nat → Nat) (sz : Nat) (ad : Nat → Nat) (pr : Int32 → Nat) (N : Nat) (L1 L2 : List Nat) (v : MS) (pa : Int32) (ps : Int32) (z304 : 0 ≤ (v.1 0 304).toInt ∧ (v.1 0 304).toInt ≤ 1503) (z305 : 0 ≤ (v.1 0 305).toInt ∧ (v.1 0 305).toInt ≤ 1500) (z306 : 0 ≤ (v.1 0 306).toInt ∧ (v.1 0 306).toInt ≤ 40) (z312 : 0 ≤ (v.1 0 312).toInt ∧ (v.1 0 312).toInt ≤ 500) (z321 : 0 ≤ (v.1 0 321).toInt ∧ (v.1 0 321).toInt ≤ 501) (z326 : 0 ≤ (v.1 0 326).toInt ∧ (v.1 0 326).toInt ≤ 420) (z373 : 0 ≤ (v.1 0 373).toInt ∧ (v.1 0 373).toInt ≤ 4000) (z381 : 0 ≤ (v.1 0 381).toInt ∧ (v.1 0 381).toInt ≤ 3008) (hL1 : L1.length = 40) (hL2 : L2.length = 60) (rp : RP v) (hps : pr ps = ad 908) (es300 : (v.1 0 300) = ps) (es310 : (v.1 0 310) = ps) (hst : l.stackTraces = false) (zd : (v.1 0 381).toInt + (v.1 0 326).toInt - 2 * (v.1 0 305).toInt ≤ 0) (zlb : 0 ≤ (v.1 0 317).toInt ∧ (v.1 0 317).toInt - 4 * (v.1 0 305).toInt ≤ 8) (zn : 40 ≤ (v.1 0 306).toInt + (n : Int)) : vx_Met l yX2_named (Cond.code yX2_named cX2_named 7 (some .boolean) :: tw_W) ({ frames := 8 * n + 15, cells := 1, slots := 6, locals := 28 * (8 * n + 15) }) (pc_ (dC, dI) (tyS cI cB cZ cJ cR) tb (cW ad pr N cI cR L1 L2 v) sz [.ref (ad 902), .int pa]) (qiz_ (dC, dI) (cW ad pr N cI cR L1 L2 v) sz (fun (r : Int32) (u : MS) => FC [305, 306, 307, 314, 315, 317, 321, 326, 381] [0, 316, 318, 319, 320, 324, 325, 378, 379, 380] v u ∧ (Q_x_X2_named L1 L2 (pE L1 L2 n) v pa false r u) ∧ (0 ≤ (u.1 0 305).toInt ∧ (u.1 0 305).toInt ≤ 1500) ∧ (0 ≤ (u.1 0 306).toInt ∧ (u.1 0 306).toInt ≤ 40) ∧ (0 ≤ (u.1 0 321).toInt ∧ (u.1 0 321).toInt ≤ 501) ∧ (0 ≤ (u.1 0 326).toInt ∧ (u.1 0 326).toInt ≤ 420) ∧ (0 ≤ (u.1 0 381).toInt ∧ (u.1 0 381).toInt ≤ 3008) ∧ ((u.1 0 381).toInt + (u.1 0 326).toInt - 2 * (u.1 0 305).toInt + (1) ≤ (v.1 0 381).toInt + (v.1 0 326).toInt - 2 * (v.1 0 305).toInt) ∧ ((v.1 0 305).toInt + 1 ≤ (u.1 0 305).toInt) ∧ ((v.1 0 317).toInt ≤ (u.1 0 317).toInt ∧ (u.1 0 317).toInt - 4 * (u.1 0 305).toInt ≤ (v.1 0 317).toInt - 4 * (v.1 0 305).toInt + 0) ∧ ((u.1 0 306).toInt = (v.1 0 306).toInt) ∧ (RS v u) ∧ (r = 0 ∨ r = 1)) (fun (u : MS) => (cW ad pr N cI cR L1 L2 u))) (qxc (dC, dI) (cW ad pr N cI cR L1 L2 v) sz (fun (u : MS) => (cW ad pr N cI cR L1 L2 u)) (fun (u : MS) => FC xfl xal v u ∧ (u.1 0 308).toInt ≠ 0 ∧ (Q_x_X2_named L1 L2 (pE L1 L2 n) v pa true 0 u))) 1 6 (va_A (cW ad pr N cI cR L1 L2 v) sz) := by
  refine vx_ofW (cc := cX2_named) (maxL := 7) (ret := (some .boolean)) (by decide) rfl ?_
  intro p e s m args below meth c s₁ B hml hnt hv
  obtain ⟨rfl, hsz, hP, hKK, hD0, hFx⟩ := hv
  have hK := hKK.1
  have hx := B.exec
  have hb := B.bytes
  have hr := B.returns
  have ht : ∀ w ∈ tw_W, w.before _ s = true := fun w h => atoms_spec (ws := Cond.code yX2_named cX2_named 7 (some .boolean) :: tw_W) B.pre w (List.mem_cons_of_mem _ h)
  have hown : s.vm.findClass RX2 = some m.cls := findClass_of_methodNamed B.named
  have hlocks := B.notSynchronized
  subst hsz
  unfold qiz_ qxc
  have hD := hD0.self (sz := s.heap.size)
  generalize hAe : va_A (cW ad pr N cI cR L1 L2 v) s.heap.size = A at hD hFx ⊢
  have hA : ∀ q : Nat, s.heap.size ≤ q → A q := fun q h => by rw [← hAe]; exact Or.inr h
  have hS : va_S A s.heap s.heap [] := va_S.rf
  have hl := lv_entry ([.ref (ad 902), .int pa]) (n := 7) (Nat.le_of_ble_eq_true rfl)
  rw [lg_entry_eq]
  generalize (lg_sl ([.ref (ad 902), .int pa]) ++ List.replicate (7 - (lg_sl ([.ref (ad 902), .int pa])).length) Slot.unset).toArray = ls at hl ⊢
  have hl : lv_has ls 7 [(0, .ref (ad 902)), (1, .int pa)] := hl
  refine lv_aload_n hx hb dX2_named_0 rfl (lv_at hl 0 rfl) ?_
  refine va_get (D := (dC, dI)) (ci := 6) (fs := oF_X2 ad pr v) (v := .ref (ad 900)) (C := RX2) (T := TX2) (N := 5) hx hb ht itX2 hown hK hP 2 rfl rfl 0 (by decide) (ht _ tw_509) (fun _ h9 => h9) rfl dX2_named_1 ?_
  refine cu_i (rn_Vk (n := 0) (As := []) (rest := []) hx hb hml hown ht hKK hFx hP hD hS hA (c_x_X9_kindBehind l dC dI cI cB cZ cJ cR tb s.heap.size ad pr N L1 L2 v  (show 0 ≤ (v.1 0 304).toInt ∧ (v.1 0 304).toInt ≤ 1503 from (om_c99648273b z304)) (show 0 ≤ (v.1 0 305).toInt ∧ (v.1 0 305).toInt ≤ 1500 from (om_7897b4ccef z305))) tw_543 tw_544 (by decide +kernel) rfl rfl ⟨show 0 + 1 ≤ 8 * n + 15 from om_fce2c17b78, show 8 + (1 + 11) + 0 ≤ 28 * (8 * n + 15) from om_bca265e904⟩ (List.range (cW ad pr N cI cR L1 L2 v).length) (rg_map _) (nd_range _) 0 rfl rfl rfl rfl hl.1 rfl (Nat.le_of_ble_eq_true rfl) dX2_named_4 ⟨Nat.le_of_ble_eq_true rfl, Nat.le_of_ble_eq_true rfl⟩) hP hD hS hA (fun r3 u2 H locs hw1 hP hD hS => ?_)
  obtain ⟨rfl, ex1⟩ := hw1
  refine W.widen (k := 0) (n := 0) (Nat.le_refl _) (Nat.le_refl _) ?_
  refine lv_istore_n (lv' := [(2, .int r3), (0, .ref (ad 902)), (1, .int pa)]) hx hb dX2_named_7 rfl hl (by decide) rfl (fun ls hl => ?_)
  refine lv_aload_n hx hb dX2_named_8 rfl (lv_at hl 1 rfl) ?_
  refine va_get (D := (dC, dI)) (ci := 6) (fs := oF_X2 ad pr v) (v := .ref (ad 901)) (C := RX2) (T := TX2) (N := 5) hx hb ht itX2 hown hK hP 2 rfl rfl 1 (by decide) (ht _ tw_498) (fun _ h9 => h9) rfl dX2_named_9 ?_
  refine lv_aload_n hx hb dX2_named_12 rfl (lv_at hl 1 rfl) ?_
  refine va_get (D := (dC, dI)) (ci := 6) (fs := oF_X2 ad pr v) (v := .ref (ad 900)) (C := RX2) (T := TX2) (N := 5) hx hb ht itX2 hown hK hP 2 rfl rfl 0 (by decide) (ht _ tw_509) (fun _ h9 => h9) rfl dX2_named_13 ?_
  refine cu_i (rn_Vk (n := 0) (As := []) (rest := [.ref (ad 901)]) hx hb hml hown ht hKK hFx hP hD hS hA (c_x_X9_value l dC dI cI cB cZ cJ cR tb H.size ad pr N L1 L2 v  (show 0 ≤ (v.1 0 304).toInt ∧ (v.1 0 304).toInt ≤ 1503 from (om_c99648273b z304)) (show 0 ≤ (v.1 0 305).toInt ∧ (v.1 0 305).toInt ≤ 1500 from (om_7897b4ccef z305))) tw_535 tw_536 (by decide +kernel) rfl rfl ⟨show 0 + 1 ≤ 8 * n + 15 from om_fce2c17b78, show 8 + (1 + 11) + 0 ≤ 28 * (8 * n + 15) from om_bca265e904⟩ (List.range (cW ad pr N cI cR L1 L2 v).length) (rg_map _) (nd_range _) 0 rfl rfl rfl rfl hl.1 rfl (Nat.le_of_ble_eq_true rfl) dX2_named_16 ⟨Nat.le_of_ble_eq_true rfl, Nat.le_of_ble_eq_true rfl⟩) hP hD hS hA (fun r6 u5 H locs hw4 hP hD hS => ?_)
  obtain ⟨rfl, ex4⟩ := hw4
  refine W.widen (k := 0) (n := 0) (Nat.le_refl _) (Nat.le_refl _) ?_
  refine cu_i (rn_Vk (n := 1) (As := [.int r6]) (rest := []) hx hb hml hown ht hKK hFx hP hD hS hA (c_x_X1_slotNamed l dC dI cI cB cZ cJ cR tb H.size ad pr N L1 L2 v r6 (show 0 ≤ (v.1 0 312).toInt ∧ (v.1 0 312).toInt ≤ 500 from (om_9861e69da5 z312))) tw_481 tw_545 (by decide +kernel) rfl rfl ⟨show 1 + 1 ≤ 8 * n + 15 from om_60a3ad0423, show 8 + (3 + 11) + 14 ≤ 28 * (8 * n + 15) from om_c7002dd5fa⟩ (List.range (cW ad pr N cI cR L1 L2 v).length) (rg_map _) (nd_range _) 1 rfl rfl rfl rfl hl.1 rfl (Nat.le_of_ble_eq_true rfl) dX2_named_19 ⟨Nat.le_of_ble_eq_true rfl, Nat.le_of_ble_eq_true rfl⟩) hP hD hS hA (fun r9 u8 H locs hw7 hP hD hS => ?_)
  obtain ⟨rfl, ex7, c7⟩ := hw7
  refine W.widen (k := 0) (n := 0) (Nat.le_refl _) (Nat.le_refl _) ?_
  refine lv_istore_n (lv' := [(3, .int r9), (2, .int r3), (0, .ref (ad 902)), (1, .int pa)]) hx hb dX2_named_22 rfl hl (by decide) rfl (fun ls hl => ?_)
  refine lv_iload_n hx hb dX2_named_23 rfl (lv_at hl 0 rfl) ?_
  refine lv_iconst (v := -1) hx hb dX2_named_24 (by decide) ?_
  refine lv_icmp_ne (tgt := 48) hx hb dX2_named_25 (by decide) (fun h10 => ?_) (fun h10 => ?_)
  · have z11 : r9.toInt ≠ (-1 : Int) := ne_z rfl (show ((-1) : Int32).toInt = (-1 : Int) by decide) h10
    refine lv_iconst (v := -1) hx hb dX2_named_48 (by decide) ?_
    refine lv_istore (lv' := [(4, .int (-1)), (3, .int r9), (2, .int r3), (0, .ref (ad 902)), (1, .int pa)]) hx hb dX2_named_49 hl (by decide) rfl (fun ls hl => ?_)
    refine lv_iload_n hx hb dX2_named_51 rfl (lv_at hl 1 rfl) ?_
    refine lv_iconst (v := -1) hx hb dX2_named_52 (by decide) ?_
    refine lv_icmp_ne (tgt := 62) hx hb dX2_named_53 (by decide) (fun h12 => ?_) (fun h12 => ?_)
    · have z13 : r9.toInt ≠ (-1 : Int) := ne_z rfl (show ((-1) : Int32).toInt = (-1 : Int) by decide) h12
      refine lv_iconst (v := 1) hx hb dX2_named_62 (by decide) ?_
      refine lv_goto (tgt := 67) hx hb dX2_named_63 (by decide) ?_
      refine lv_istore (lv' := [(5, .int 1), (4, .int (-1)), (3, .int r9), (2, .int r3), (0, .ref (ad 902)), (1, .int pa)]) hx hb dX2_named_67 hl (by decide) rfl (fun ls hl => ?_)
      refine lv_iload_n hx hb dX2_named_69 rfl (lv_at hl 3 rfl) ?_
      refine lv_bipush (v := 30) hx hb dX2_named_70 (by decide) ?_
      refine lv_icmp_ne (tgt := 101) hx hb dX2_named_72 (by decide) (fun h14 => ?_) (fun h14 => ?_)
      · have z15 : r3.toInt ≠ (30 : Int) := ne_z rfl (show (30 : Int32).toInt = (30 : Int) by decide) h14
        refine lv_aload_n hx hb dX2_named_101 rfl (lv_at hl 4 rfl) ?_
        refine va_get (D := (dC, dI)) (ci := 6) (fs := oF_X2 ad pr v) (v := .ref (ad 901)) (C := RX2) (T := TX2) (N := 5) hx hb ht itX2 hown hK hP 2 rfl rfl 1 (by decide) (ht _ tw_498) (fun _ h9 => h9) rfl dX2_named_102 ?_
        refine va_getN (D := (dC, dI)) (ci := 5) (fs := oF_X1 ad pr v) (v := .ref (pr (v.1 0 310))) (C := RX1) (T := TX1) (N := 12) hx hb ht itX1 hown hK hP 1 rfl rfl 0 (by decide) (hKK.fl2 3 rfl) (fun _ h9 => h9) rfl dX2_named_105 ?_
        refine lv_iload hx hb dX2_named_108 (lv_at hl 1 rfl) ?_
        refine lv_iconst (v := 2) hx hb dX2_named_110 (by decide) ?_
        refine W.eq (g2 := F0 m 111 ls [.int 2, .int (-1), .ref (ad 908)]) (by rw [show pr (v.1 0 310) = (ad 908) from (by rw [show (v.1 0 310) = ps from es310]; exact hps)]) ?_
        refine cu_i (rn_Vk (n := 2) (As := [.int (-1), .int 2]) (rest := []) hx hb hml hown ht hKK hFx hP hD hS hA (c_x_X7_globalFact l dC dI cI cB cZ cJ cR tb H.size ad pr N L1 L2 v (-1 : Int32) (2 : Int32) (show L1.length = 40 from hL1) (show L2.length = 60 from hL2) (show RP v from rp)) tw_402 tw_546 (by decide +kernel) rfl rfl ⟨show 0 + 1 ≤ 8 * n + 15 from om_fce2c17b78, show 8 + (3 + 11) + 0 ≤ 28 * (8 * n + 15) from om_0eaa3b1b86⟩ (List.range (cW ad pr N cI cR L1 L2 v).length) (rg_map _) (nd_range _) 8 rfl rfl rfl rfl hl.1 rfl (Nat.le_of_ble_eq_true rfl) dX2_named_111 ⟨Nat.le_of_ble_eq_true rfl, Nat.le_of_ble_eq_true rfl⟩) hP hD hS hA (fun r18 u17 H locs hw16 hP hD hS => ?_)
        obtain ⟨rfl, ex16, c16, d16⟩ := hw16
        have c16 : ((2 : Int) ≠ 0 ∨ r18.toInt ≤ 1000) := c16
        refine W.widen (k := 0) (n := 0) (Nat.le_refl _) (Nat.le_refl _) ?_
        refine lv_iconst (v := 1) hx hb dX2_named_114 (by decide) ?_
        refine lv_icmp_ne (tgt := 122) hx hb dX2_named_115 (by decide) (fun h19 => ?_) (fun h19 => ?_)
        · have z20 : r18.toInt ≠ (1 : Int) := ne_z rfl (show (1 : Int32).toInt = (1 : Int) by decide) h19
          refine lv_iconst (v := 0) hx hb dX2_named_122 (by decide) ?_
          refine lv_istore (lv' := [(6, .int 0), (5, .int 1), (4, .int (-1)), (3, .int r9), (2, .int r3), (0, .ref (ad 902)), (1, .int pa)]) hx hb dX2_named_123 hl (by decide) rfl (fun ls hl => ?_)
          refine lv_iload hx hb dX2_named_125 (lv_at hl 1 rfl) ?_
          refine lv_if_eq (tgt := 146) hx hb dX2_named_127 (by decide) (fun k21 => absurd k21 (by decide)) (fun _ => ?_)
          refine lv_iload hx hb dX2_named_130 (lv_at hl 0 rfl) ?_
          refine lv_iload_n hx hb dX2_named_132 rfl (lv_at hl 4 rfl) ?_
          refine lv_bipush (v := 34) hx hb dX2_named_133 (by decide) ?_
          refine lv_icmp_ne (tgt := 142) hx hb dX2_named_135 (by decide) (fun h22 => ?_) (fun h22 => ?_)
          · have z23 : r3.toInt ≠ (34 : Int) := ne_z rfl (show (34 : Int32).toInt = (34 : Int) by decide) h22
            refine lv_iconst (v := 0) hx hb dX2_named_142 (by decide) ?_
            refine lv_icmp_eq (tgt := 161) hx hb dX2_named_143 (by decide) (fun _ => ?_) (fun k24 => absurd k24 (by decide))
            refine lv_aload_n hx hb dX2_named_161 rfl (lv_at hl 5 rfl) ?_
            refine va_get (D := (dC, dI)) (ci := 6) (fs := oF_X2 ad pr v) (v := .ref (ad 900)) (C := RX2) (T := TX2) (N := 5) hx hb ht itX2 hown hK hP 2 rfl rfl 0 (by decide) (ht _ tw_509) (fun _ h9 => h9) rfl dX2_named_162 ?_
            refine W.sz (fun hz9 => ?_)
            refine czx_v (rx_Vk (n := 0) (As := []) (rest := []) hx hb hml hown ht hKK hFx hP hD hS hA (c_x_X9_take l dC dI cI cB cZ cJ cR tb H.size ad pr N L1 L2 v ps (show 0 ≤ (v.1 0 304).toInt ∧ (v.1 0 304).toInt ≤ 1503 from (om_c99648273b z304)) (show 0 ≤ (v.1 0 305).toInt ∧ (v.1 0 305).toInt ≤ 1500 from (om_7897b4ccef z305)) (show 0 ≤ (v.1 0 373).toInt ∧ (v.1 0 373).toInt ≤ 4000 from (om_c74a68af25 z373)) (show pr ps = ad 908 from hps) (show (v.1 0 300) = ps from es300) (show l.stackTraces = false from hst)) tw_539 tw_540 (by decide +kernel) rfl rfl ⟨show 7 + 1 ≤ 8 * n + 15 from om_ec1f92c19e, show 8 + (1 + 11) + 104 ≤ 28 * (8 * n + 15) from om_9d5a13a74b⟩ (List.range (cW ad pr N cI cR L1 L2 v).length) (rg_map _) (nd_range _) 0 rfl rfl rfl rfl hl.1 rfl (Nat.le_of_ble_eq_true rfl) dX2_named_165 ⟨Nat.le_of_ble_eq_true rfl, Nat.le_of_ble_eq_true rfl⟩) hP hD hS hA (fun u9 ce9 q9 H locs hx9 hP hD hS hc9 hv9 hf9 => ?_) (fun u26 H locs hw25 hP hD hS hz8 => ?_)
            · exact vx_out (fun x h9 => (hnt x h9).elim) hlocks hc9 hv9 hf9 (fun t9 ht9 hv8 => ⟨u9, ⟨FC.tr (FC.rf _) hx9.1, hx9.2.1, ⟨z304, z305, z306, z312, z321, z326, z373, z381, zd, zlb, r3, ex1, r6, ex4, r9, ex7, c7, (Or.inl ⟨z11, z13, (Or.inl ⟨z15, r18, ex16, ⟨c16, d16⟩, (Or.inl ⟨z20, (Or.inl ⟨z23, (Or.inl ⟨u9, hx9.2.2, rfl, rfl, rfl⟩)⟩)⟩)⟩)⟩)⟩⟩, ⟨rfl, by rw [ht9]; exact hP, hD⟩, hS.F ht9⟩) hS.2.2 (Nat.le_refl _) (Nat.le_refl _)
            refine W.shrink (hz8.trans hz9) ?_
            obtain ⟨fr25, ex25, i30525, pt25, rs25⟩ := hw25
            refine lv_iload hx hb dX2_named_168 (lv_at hl 0 rfl) ?_
            refine lv_if_eq (tgt := 179) hx hb dX2_named_170 (by decide) (fun _ => ?_) (fun k28 => absurd k28 (by decide))
            refine lv_iload_n hx hb dX2_named_179 rfl (lv_at hl 6 rfl) ?_
            refine lv_if_eq (tgt := 207) hx hb dX2_named_180 (by decide) (fun h29 => ?_) (fun h29 => ?_)
            · have z30 : pa.toInt = (0 : Int) := eq_z rfl (show (0 : Int32).toInt = (0 : Int) by decide) h29
              refine lv_iload hx hb dX2_named_207 (lv_at hl 0 rfl) ?_
              refine lv_if_eq (tgt := 227) hx hb dX2_named_209 (by decide) (fun _ => ?_) (fun k31 => absurd k31 (by decide))
              refine lv_aload_n hx hb dX2_named_227 rfl (lv_at hl 5 rfl) ?_
              refine lv_iload_n hx hb dX2_named_228 rfl (lv_at hl 3 rfl) ?_
              refine lv_iload hx hb dX2_named_229 (lv_at hl 2 rfl) ?_
              have q32 : (u26.1 0 326).toInt = (v.1 0 326).toInt := congrArg Int32.toInt ((fr25.2.1 326 (by decide)).trans (show v.1 0 326 = (v.1 0 326) by rfl))
              have q33 : (u26.1 0 381).toInt = (v.1 0 381).toInt := congrArg Int32.toInt ((fr25.2.1 381 (by decide)).trans (show v.1 0 381 = (v.1 0 381) by rfl))
              refine cu_v (rn_Vk (n := 2) (As := [.int r9, .int (-1)]) (rest := []) hx hb hml hown ht hKK hFx hP hD hS hA (c_x_X2_read l dC dI cI cB cZ cJ cR tb H.size ad pr N L1 L2 u26 r9 (-1 : Int32) ps (show 0 ≤ (u26.1 0 305).toInt ∧ (u26.1 0 305).toInt ≤ 1500 from (om_89213937cb z305 i30525 pt25)) (show 0 ≤ (u26.1 0 326).toInt ∧ (u26.1 0 326).toInt ≤ 420 from (om_8ed0dedb19 z326 q32)) (show 0 ≤ (u26.1 0 381).toInt ∧ (u26.1 0 381).toInt ≤ 3008 from (om_3d2979e731 z305 z326 z381 zd q33)) (show pr ps = ad 908 from hps) (show (u26.1 0 310) = ps from (Eq.trans (fr25.2.1 310 (by decide)) es310)) (show (u26.1 0 381).toInt + (u26.1 0 326).toInt - 2 * (u26.1 0 305).toInt ≤ 6 from (om_7b03affc19 zd q32 q33 pt25))) tw_522 tw_523 (by decide +kernel) rfl rfl ⟨show 1 + 1 ≤ 8 * n + 15 from om_60a3ad0423, show 8 + (3 + 11) + 24 ≤ 28 * (8 * n + 15) from om_82dcfb3396⟩ (List.range (cW ad pr N cI cR L1 L2 u26).length) (rg_map _) (nd_range _) 2 rfl rfl rfl rfl hl.1 rfl (Nat.le_of_ble_eq_true rfl) dX2_named_231 ⟨Nat.le_of_ble_eq_true rfl, Nat.le_of_ble_eq_true rfl⟩) hP hD hS hA (fun u35 H locs hw34 hP hD hS => ?_)
              obtain ⟨fr34, ex34, i38134, pd34, rs34⟩ := hw34
              have i38134 : 0 ≤ (u35.1 0 381).toInt ∧ (u35.1 0 381).toInt ≤ 3008 := i38134
              have pd34 : (u35.1 0 381).toInt + (u35.1 0 326).toInt - 2 * (u35.1 0 305).toInt + (-1) ≤ (u26.1 0 381).toInt + (u26.1 0 326).toInt - 2 * (u26.1 0 305).toInt := pd34
              have rs34 : RS u26 u35 := rs34
              refine W.widen (k := 0) (n := 0) (Nat.le_refl _) (Nat.le_refl _) ?_
              refine lv_iconst (v := 0) hx hb dX2_named_234 (by decide) ?_
              have q37 : (u35.1 0 305).toInt = (u26.1 0 305).toInt := congrArg Int32.toInt ((fr34.2.1 305 (by decide)).trans (show u26.1 0 305 = (u26.1 0 305) by rfl))
              have q38 : (u26.1 0 306).toInt = (v.1 0 306).toInt := congrArg Int32.toInt ((fr25.2.1 306 (by decide)).trans (show v.1 0 306 = (v.1 0 306) by rfl))
              have q39 : (u35.1 0 306).toInt = (u26.1 0 306).toInt := congrArg Int32.toInt ((fr34.2.1 306 (by decide)).trans (show u26.1 0 306 = (u26.1 0 306) by rfl))
              have q40 : (u26.1 0 321).toInt = (v.1 0 321).toInt := congrArg Int32.toInt ((fr25.2.1 321 (by decide)).trans (show v.1 0 321 = (v.1 0 321) by rfl))
              have q41 : (u35.1 0 321).toInt = (u26.1 0 321).toInt := congrArg Int32.toInt ((fr34.2.1 321 (by decide)).trans (show u26.1 0 321 = (u26.1 0 321) by rfl))
              have q42 : (u35.1 0 326).toInt = (u26.1 0 326).toInt := congrArg Int32.toInt ((fr34.2.1 326 (by decide)).trans (show u26.1 0 326 = (u26.1 0 326) by rfl))
              have q43 : (u26.1 0 317).toInt = (v.1 0 317).toInt := congrArg Int32.toInt ((fr25.2.1 317 (by decide)).trans (show v.1 0 317 = (v.1 0 317) by rfl))
              have q44 : (u35.1 0 317).toInt = (u26.1 0 317).toInt := congrArg Int32.toInt ((fr34.2.1 317 (by decide)).trans (show u26.1 0 317 = (u26.1 0 317) by rfl))
              refine W.sz (fun hz => ?_)
              refine vx_ret ?_
              refine W.widen (k := 1) (n := 6) (Nat.le_of_ble_eq_true rfl) (Nat.le_of_ble_eq_true rfl) ?_
              exact W.zret (v := 0) hx hb hr rfl (fun t ht9 hW => ⟨⟨0, u35, rfl, ⟨(FC.tr (FC.tr (FC.rf _) (FC.up fr25 (by decide) (by decide))) (FC.up fr34 (by decide) (by decide))), ⟨z304, z305, z306, z312, z321, z326, z373, z381, zd, zlb, r3, ex1, r6, ex4, r9, ex7, c7, (Or.inl ⟨z11, z13, (Or.inl ⟨z15, r18, ex16, ⟨c16, d16⟩, (Or.inl ⟨z20, (Or.inl ⟨z23, (Or.inr (⟨u26, ex25, ⟨fr25, i30525, pt25, rs25⟩, (Or.inl ⟨z30, u35, ex34, ⟨fr34, i38134, pd34, rs34⟩, rfl, rfl, rfl⟩)⟩))⟩)⟩)⟩)⟩)⟩, (show 0 ≤ (u35.1 0 305).toInt ∧ (u35.1 0 305).toInt ≤ 1500 from (om_570f2378f1 z305 i30525 pt25 q37)), (show 0 ≤ (u35.1 0 306).toInt ∧ (u35.1 0 306).toInt ≤ 40 from (om_68f540929a z306 q38 q39)), (show 0 ≤ (u35.1 0 321).toInt ∧ (u35.1 0 321).toInt ≤ 501 from (om_4dfa815534 z321 q40 q41)), (show 0 ≤ (u35.1 0 326).toInt ∧ (u35.1 0 326).toInt ≤ 420 from (om_9591dea625 z326 q32 q42)), (show 0 ≤ (u35.1 0 381).toInt ∧ (u35.1 0 381).toInt ≤ 3008 from (om_e78eec72e1 i38134)), (show (u35.1 0 381).toInt + (u35.1 0 326).toInt - 2 * (u35.1 0 305).toInt + (1) ≤ (v.1 0 381).toInt + (v.1 0 326).toInt - 2 * (v.1 0 305).toInt from (om_488f1abd23 q32 q33 pt25 pd34)), (show (v.1 0 305).toInt + 1 ≤ (u35.1 0 305).toInt from (om_c67b42e814 pt25 q37)), (show (v.1 0 317).toInt ≤ (u35.1 0 317).toInt ∧ (u35.1 0 317).toInt - 4 * (u35.1 0 305).toInt ≤ (v.1 0 317).toInt - 4 * (v.1 0 305).toInt + 0 from (om_f06027329d q43 pt25 q37 q44)), (show (u35.1 0 306).toInt = (v.1 0 306).toInt from (om_837b7bd001 q38 q39)), (RS.tr (RS.tr RS.rf rs25) rs34), (Or.inl rfl)⟩, ⟨by rw [ht9]; exact hP, hD⟩, by rw [ht9]; exact hz⟩, hS.F ht9⟩) hS.2.2 dX2_named_235
            · have z45 : pa.toInt ≠ (0 : Int) := ne_z rfl (show (0 : Int32).toInt = (0 : Int) by decide) h29
              refine lv_aload_n hx hb dX2_named_183 rfl (lv_at hl 5 rfl) ?_
              refine va_get (D := (dC, dI)) (ci := 6) (fs := oF_X2 ad pr u26) (v := .ref (ad 900)) (C := RX2) (T := TX2) (N := 5) hx hb ht itX2 hown hK hP 2 rfl rfl 0 (by decide) (ht _ tw_509) (fun _ h9 => h9) rfl dX2_named_184 ?_
              have q46 : (u26.1 0 304).toInt = (v.1 0 304).toInt := congrArg Int32.toInt ((fr25.2.1 304 (by decide)).trans (show v.1 0 304 = (v.1 0 304) by rfl))
              refine cu_i (rn_Vk (n := 0) (As := []) (rest := []) hx hb hml hown ht hKK hFx hP hD hS hA (c_x_X9_kind l dC dI cI cB cZ cJ cR tb H.size ad pr N L1 L2 u26  (show 0 ≤ (u26.1 0 304).toInt ∧ (u26.1 0 304).toInt ≤ 1503 from (om_73002589c1 z304 q46)) (show 0 ≤ (u26.1 0 305).toInt ∧ (u26.1 0 305).toInt ≤ 1500 from (om_89213937cb z305 i30525 pt25))) tw_455 tw_532 (by decide +kernel) rfl rfl ⟨show 0 + 1 ≤ 8 * n + 15 from om_fce2c17b78, show 8 + (1 + 11) + 0 ≤ 28 * (8 * n + 15) from om_bca265e904⟩ (List.range (cW ad pr N cI cR L1 L2 u26).length) (rg_map _) (nd_range _) 0 rfl rfl rfl rfl hl.1 rfl (Nat.le_of_ble_eq_true rfl) dX2_named_187 ⟨Nat.le_of_ble_eq_true rfl, Nat.le_of_ble_eq_true rfl⟩) hP hD hS hA (fun r49 u48 H locs hw47 hP hD hS => ?_)
              obtain ⟨rfl, ex47⟩ := hw47
              refine W.widen (k := 0) (n := 0) (Nat.le_refl _) (Nat.le_refl _) ?_
              refine cu_s (nd_range _) (rn_S (n := 1) (As := [.int r49]) (rest := []) hx hb hml hown ht hKK hFx hP hD hS hA (c_x_X9_isSet l dC dI cI cB cZ cJ cR tb H.size r49 ) tw_547 tw_548 (by decide +kernel) rfl rfl ⟨show 0 + 1 ≤ 8 * n + 15 from om_fce2c17b78, show 8 + (1 + 11) + 0 ≤ 28 * (8 * n + 15) from om_bca265e904⟩ [] rfl rfl rfl hl.1 rfl (Nat.le_of_ble_eq_true rfl) dX2_named_190 ⟨Nat.le_of_ble_eq_true rfl, Nat.le_of_ble_eq_true rfl⟩) hP hD hS hA (fun r52 H locs hw50 hP hD hS => ?_)
              obtain ⟨ex50, b50, e50⟩ := hw50
              have b50 : (r52 = 0 ∨ r52 = 1) := b50
              have e50 : (0 ≤ r52.toInt ∧ r52.toInt ≤ 1) := e50
              refine W.widen (k := 0) (n := 0) (Nat.le_refl _) (Nat.le_refl _) ?_
              refine lv_if_eq (tgt := 207) hx hb dX2_named_193 (by decide) (fun h53 => ?_) (fun h53 => ?_)
              · have z54 : r52.toInt = (0 : Int) := eq_z rfl (show (0 : Int32).toInt = (0 : Int) by decide) h53
                refine lv_iload hx hb dX2_named_207 (lv_at hl 0 rfl) ?_
                refine lv_if_eq (tgt := 227) hx hb dX2_named_209 (by decide) (fun _ => ?_) (fun k55 => absurd k55 (by decide))
                refine lv_aload_n hx hb dX2_named_227 rfl (lv_at hl 5 rfl) ?_
                refine lv_iload_n hx hb dX2_named_228 rfl (lv_at hl 3 rfl) ?_
                refine lv_iload hx hb dX2_named_229 (lv_at hl 2 rfl) ?_
                have q56 : (u26.1 0 326).toInt = (v.1 0 326).toInt := congrArg Int32.toInt ((fr25.2.1 326 (by decide)).trans (show v.1 0 326 = (v.1 0 326) by rfl))
                have q57 : (u26.1 0 381).toInt = (v.1 0 381).toInt := congrArg Int32.toInt ((fr25.2.1 381 (by decide)).trans (show v.1 0 381 = (v.1 0 381) by rfl))
                refine cu_v (rn_Vk (n := 2) (As := [.int r9, .int (-1)]) (rest := []) hx hb hml hown ht hKK hFx hP hD hS hA (c_x_X2_read l dC dI cI cB cZ cJ cR tb H.size ad pr N L1 L2 u26 r9 (-1 : Int32) ps (show 0 ≤ (u26.1 0 305).toInt ∧ (u26.1 0 305).toInt ≤ 1500 from (om_89213937cb z305 i30525 pt25)) (show 0 ≤ (u26.1 0 326).toInt ∧ (u26.1 0 326).toInt ≤ 420 from (om_8ed0dedb19 z326 q56)) (show 0 ≤ (u26.1 0 381).toInt ∧ (u26.1 0 381).toInt ≤ 3008 from (om_3d2979e731 z305 z326 z381 zd q57)) (show pr ps = ad 908 from hps) (show (u26.1 0 310) = ps from (Eq.trans (fr25.2.1 310 (by decide)) es310)) (show (u26.1 0 381).toInt + (u26.1 0 326).toInt - 2 * (u26.1 0 305).toInt ≤ 6 from (om_7b03affc19 zd q56 q57 pt25))) tw_522 tw_523 (by decide +kernel) rfl rfl ⟨show 1 + 1 ≤ 8 * n + 15 from om_60a3ad0423, show 8 + (3 + 11) + 24 ≤ 28 * (8 * n + 15) from om_82dcfb3396⟩ (List.range (cW ad pr N cI cR L1 L2 u26).length) (rg_map _) (nd_range _) 2 rfl rfl rfl rfl hl.1 rfl (Nat.le_of_ble_eq_true rfl) dX2_named_231 ⟨Nat.le_of_ble_eq_true rfl, Nat.le_of_ble_eq_true rfl⟩) hP hD hS hA (fun u59 H locs hw58 hP hD hS => ?_)
                obtain ⟨fr58, ex58, i38158, pd58, rs58⟩ := hw58
                have i38158 : 0 ≤ (u59.1 0 381).toInt ∧ (u59.1 0 381).toInt ≤ 3008 := i38158
                have pd58 : (u59.1 0 381).toInt + (u59.1 0 326).toInt - 2 * (u59.1 0 305).toInt + (-1) ≤ (u26.1 0 381).toInt + (u26.1 0 326).toInt - 2 * (u26.1 0 305).toInt := pd58
                have rs58 : RS u26 u59 := rs58
                refine W.widen (k := 0) (n := 0) (Nat.le_refl _) (Nat.le_refl _) ?_
                refine lv_iconst (v := 0) hx hb dX2_named_234 (by decide) ?_
                have q61 : (u59.1 0 305).toInt = (u26.1 0 305).toInt := congrArg Int32.toInt ((fr58.2.1 305 (by decide)).trans (show u26.1 0 305 = (u26.1 0 305) by rfl))
                have q62 : (u26.1 0 306).toInt = (v.1 0 306).toInt := congrArg Int32.toInt ((fr25.2.1 306 (by decide)).trans (show v.1 0 306 = (v.1 0 306) by rfl))
                have q63 : (u59.1 0 306).toInt = (u26.1 0 306).toInt := congrArg Int32.toInt ((fr58.2.1 306 (by decide)).trans (show u26.1 0 306 = (u26.1 0 306) by rfl))
                have q64 : (u26.1 0 321).toInt = (v.1 0 321).toInt := congrArg Int32.toInt ((fr25.2.1 321 (by decide)).trans (show v.1 0 321 = (v.1 0 321) by rfl))
                have q65 : (u59.1 0 321).toInt = (u26.1 0 321).toInt := congrArg Int32.toInt ((fr58.2.1 321 (by decide)).trans (show u26.1 0 321 = (u26.1 0 321) by rfl))
                have q66 : (u59.1 0 326).toInt = (u26.1 0 326).toInt := congrArg Int32.toInt ((fr58.2.1 326 (by decide)).trans (show u26.1 0 326 = (u26.1 0 326) by rfl))
                have q67 : (u26.1 0 317).toInt = (v.1 0 317).toInt := congrArg Int32.toInt ((fr25.2.1 317 (by decide)).trans (show v.1 0 317 = (v.1 0 317) by rfl))
                have q68 : (u59.1 0 317).toInt = (u26.1 0 317).toInt := congrArg Int32.toInt ((fr58.2.1 317 (by decide)).trans (show u26.1 0 317 = (u26.1 0 317) by rfl))
                refine W.sz (fun hz => ?_)
                refine vx_ret ?_
                refine W.widen (k := 1) (n := 6) (Nat.le_of_ble_eq_true rfl) (Nat.le_of_ble_eq_true rfl) ?_
                exact W.zret (v := 0) hx hb hr rfl (fun t ht9 hW => ⟨⟨0, u59, rfl, ⟨(FC.tr (FC.tr (FC.rf _) (FC.up fr25 (by decide) (by decide))) (FC.up fr58 (by decide) (by decide))), ⟨z304, z305, z306, z312, z321, z326, z373, z381, zd, zlb, r3, ex1, r6, ex4, r9, ex7, c7, (Or.inl ⟨z11, z13, (Or.inl ⟨z15, r18, ex16, ⟨c16, d16⟩, (Or.inl ⟨z20, (Or.inl ⟨z23, (Or.inr (⟨u26, ex25, ⟨fr25, i30525, pt25, rs25⟩, (Or.inr (⟨z45, r49, ex47, r52, ex50, ⟨b50, e50⟩, (Or.inl ⟨z54, u59, ex58, ⟨fr58, i38158, pd58, rs58⟩, rfl, rfl, rfl⟩)⟩))⟩))⟩)⟩)⟩)⟩)⟩, (show 0 ≤ (u59.1 0 305).toInt ∧ (u59.1 0 305).toInt ≤ 1500 from (om_570f2378f1 z305 i30525 pt25 q61)), (show 0 ≤ (u59.1 0 306).toInt ∧ (u59.1 0 306).toInt ≤ 40 from (om_68f540929a z306 q62 q63)), (show 0 ≤ (u59.1 0 321).toInt ∧ (u59.1 0 321).toInt ≤ 501 from (om_4dfa815534 z321 q64 q65)), (show 0 ≤ (u59.1 0 326).toInt ∧ (u59.1 0 326).toInt ≤ 420 from (om_9591dea625 z326 q56 q66)), (show 0 ≤ (u59.1 0 381).toInt ∧ (u59.1 0 381).toInt ≤ 3008 from (om_e78eec72e1 i38158)), (show (u59.1 0 381).toInt + (u59.1 0 326).toInt - 2 * (u59.1 0 305).toInt + (1) ≤ (v.1 0 381).toInt + (v.1 0 326).toInt - 2 * (v.1 0 305).toInt from (om_488f1abd23 q56 q57 pt25 pd58)), (show (v.1 0 305).toInt + 1 ≤ (u59.1 0 305).toInt from (om_c67b42e814 pt25 q61)), (show (v.1 0 317).toInt ≤ (u59.1 0 317).toInt ∧ (u59.1 0 317).toInt - 4 * (u59.1 0 305).toInt ≤ (v.1 0 317).toInt - 4 * (v.1 0 305).toInt + 0 from (om_f06027329d q67 pt25 q61 q68)), (show (u59.1 0 306).toInt = (v.1 0 306).toInt from (om_837b7bd001 q62 q63)), (RS.tr (RS.tr RS.rf rs25) rs58), (Or.inl rfl)⟩, ⟨by rw [ht9]; exact hP, hD⟩, by rw [ht9]; exact hz⟩, hS.F ht9⟩) hS.2.2 dX2_named_235
              · have z69 : r52.toInt ≠ (0 : Int) := ne_z rfl (show (0 : Int32).toInt = (0 : Int) by decide) h53
                refine lv_aload_n hx hb dX2_named_196 rfl (lv_at hl 5 rfl) ?_
                refine lv_iload_n hx hb dX2_named_197 rfl (lv_at hl 3 rfl) ?_
                refine lv_iload hx hb dX2_named_198 (lv_at hl 2 rfl) ?_
                refine lv_iload hx hb dX2_named_200 (lv_at hl 0 rfl) ?_
                have q70 : (u26.1 0 306).toInt = (v.1 0 306).toInt := congrArg Int32.toInt ((fr25.2.1 306 (by decide)).trans (show v.1 0 306 = (v.1 0 306) by rfl))
                have q71 : (u26.1 0 312).toInt = (v.1 0 312).toInt := congrArg Int32.toInt ((fr25.2.1 312 (by decide)).trans (show v.1 0 312 = (v.1 0 312) by rfl))
                have q72 : (u26.1 0 321).toInt = (v.1 0 321).toInt := congrArg Int32.toInt ((fr25.2.1 321 (by decide)).trans (show v.1 0 321 = (v.1 0 321) by rfl))
                have q73 : (u26.1 0 326).toInt = (v.1 0 326).toInt := congrArg Int32.toInt ((fr25.2.1 326 (by decide)).trans (show v.1 0 326 = (v.1 0 326) by rfl))
                have q74 : (u26.1 0 373).toInt = (v.1 0 373).toInt := congrArg Int32.toInt ((fr25.2.1 373 (by decide)).trans (show v.1 0 373 = (v.1 0 373) by rfl))
                have q75 : (u26.1 0 381).toInt = (v.1 0 381).toInt := congrArg Int32.toInt ((fr25.2.1 381 (by decide)).trans (show v.1 0 381 = (v.1 0 381) by rfl))
                have q76 : (u26.1 0 317).toInt = (v.1 0 317).toInt := congrArg Int32.toInt ((fr25.2.1 317 (by decide)).trans (show v.1 0 317 = (v.1 0 317) by rfl))
                refine W.sz (fun hz9 => ?_)
                refine czx_v (rx_Vk (n := 3) (As := [.int r9, .int (-1), .int 0]) (rest := []) hx hb hml hown ht hKK hFx hP hD hS hA (c_x_X2_change l n ihE dC dI cI cB cZ cJ cR tb H.size ad pr N L1 L2 u26 r9 (-1 : Int32) (0 : Int32) ps (show 0 ≤ (u26.1 0 304).toInt ∧ (u26.1 0 304).toInt ≤ 1503 from (om_73002589c1 z304 q46)) (show 0 ≤ (u26.1 0 305).toInt ∧ (u26.1 0 305).toInt ≤ 1500 from (om_89213937cb z305 i30525 pt25)) (show 0 ≤ (u26.1 0 306).toInt ∧ (u26.1 0 306).toInt ≤ 40 from (om_99e115f631 z306 q70)) (show 0 ≤ (u26.1 0 312).toInt ∧ (u26.1 0 312).toInt ≤ 500 from (om_f8376ff89c z312 q71)) (show 0 ≤ (u26.1 0 321).toInt ∧ (u26.1 0 321).toInt ≤ 501 from (om_ff27494c0e z321 q72)) (show 0 ≤ (u26.1 0 326).toInt ∧ (u26.1 0 326).toInt ≤ 420 from (om_8ed0dedb19 z326 q73)) (show 0 ≤ (u26.1 0 373).toInt ∧ (u26.1 0 373).toInt ≤ 4000 from (om_9084c127ed z373 q74)) (show 0 ≤ (u26.1 0 381).toInt ∧ (u26.1 0 381).toInt ≤ 3008 from (om_3d2979e731 z305 z326 z381 zd q75)) (show L1.length = 40 from hL1) (show L2.length = 60 from hL2) (show RP u26 from ((show FC [305, 306, 307, 314, 315, 317, 321, 326, 381] [0, 316, 318, 319, 320, 324, 325, 378, 379, 380] v u26 from (FC.tr (FC.rf _) (FC.up fr25 (by decide) (by decide)))).1 rp)) (show pr ps = ad 908 from hps) (show (u26.1 0 300) = ps from (Eq.trans (fr25.2.1 300 (by decide)) es300)) (show (u26.1 0 310) = ps from (Eq.trans (fr25.2.1 310 (by decide)) es310)) (show l.stackTraces = false from hst) (show (u26.1 0 381).toInt + (u26.1 0 326).toInt - 2 * (u26.1 0 305).toInt ≤ -2 from (om_7cd3452ef7 zd q73 q75 pt25)) (show 0 ≤ (u26.1 0 317).toInt ∧ (u26.1 0 317).toInt - 4 * (u26.1 0 305).toInt ≤ 8 from (om_acd7fdc17b zlb q76 pt25)) (show 40 ≤ (u26.1 0 306).toInt + (n : Int) from (om_2d3a9cf1da zn q70)) (show 0 ≤ (0 : Int) ∧ (0 : Int) ≤ 1 from om_0b187384ea)) tw_549 tw_550 (by decide +kernel) rfl rfl ⟨show (8 * n + 14) + 1 ≤ 8 * n + 15 from om_c0c6541b93, show 8 + (7 + 11) + 28 * (8 * n + 14) ≤ 28 * (8 * n + 15) from om_fb93e872bb⟩ (List.range (cW ad pr N cI cR L1 L2 u26).length) (rg_map _) (nd_range _) 2 rfl rfl rfl rfl hl.1 rfl (Nat.le_of_ble_eq_true rfl) dX2_named_202 ⟨Nat.le_of_ble_eq_true rfl, Nat.le_of_ble_eq_true rfl⟩) hP hD hS hA (fun u9 ce9 q9 H locs hx9 hP hD hS hc9 hv9 hf9 => ?_) (fun u78 H locs hw77 hP hD hS hz8 => ?_)
                · exact vx_out (fun x h9 => (hnt x h9).elim) hlocks hc9 hv9 hf9 (fun t9 ht9 hv8 => ⟨u9, ⟨FC.tr (FC.tr (FC.rf _) (FC.up fr25 (by decide) (by decide))) hx9.1, hx9.2.1, ⟨z304, z305, z306, z312, z321, z326, z373, z381, zd, zlb, r3, ex1, r6, ex4, r9, ex7, c7, (Or.inl ⟨z11, z13, (Or.inl ⟨z15, r18, ex16, ⟨c16, d16⟩, (Or.inl ⟨z20, (Or.inl ⟨z23, (Or.inr (⟨u26, ex25, ⟨fr25, i30525, pt25, rs25⟩, (Or.inr (⟨z45, r49, ex47, r52, ex50, ⟨b50, e50⟩, (Or.inr (⟨z69, (Or.inl ⟨u9, hx9.2.2, rfl, rfl, rfl⟩)⟩))⟩))⟩))⟩)⟩)⟩)⟩)⟩⟩, ⟨rfl, by rw [ht9]; exact hP, hD⟩, hS.F ht9⟩) hS.2.2 (Nat.le_refl _) (Nat.le_refl _)
                refine W.shrink (hz8.trans hz9) ?_
                obtain ⟨fr77, ex77, i30577, i30677, i32177, i32677, i38177, pd77, pt77, plb77, po77, rs77⟩ := hw77
                have i30577 : 0 ≤ (u78.1 0 305).toInt ∧ (u78.1 0 305).toInt ≤ 1500 := i30577
                have i30677 : 0 ≤ (u78.1 0 306).toInt ∧ (u78.1 0 306).toInt ≤ 40 := i30677
                have i32177 : 0 ≤ (u78.1 0 321).toInt ∧ (u78.1 0 321).toInt ≤ 501 := i32177
                have i32677 : 0 ≤ (u78.1 0 326).toInt ∧ (u78.1 0 326).toInt ≤ 420 := i32677
                have i38177 : 0 ≤ (u78.1 0 381).toInt ∧ (u78.1 0 381).toInt ≤ 3008 := i38177
                have pd77 : (u78.1 0 381).toInt + (u78.1 0 326).toInt - 2 * (u78.1 0 305).toInt + (-1 - (0 : Int)) ≤ (u26.1 0 381).toInt + (u26.1 0 326).toInt - 2 * (u26.1 0 305).toInt := pd77
                have pt77 : (u26.1 0 305).toInt + 2 ≤ (u78.1 0 305).toInt := pt77
                have plb77 : (u26.1 0 317).toInt ≤ (u78.1 0 317).toInt ∧ (u78.1 0 317).toInt - 4 * (u78.1 0 305).toInt ≤ (u26.1 0 317).toInt - 4 * (u26.1 0 305).toInt + 0 := plb77
                have po77 : (u78.1 0 306).toInt = (u26.1 0 306).toInt := po77
                have rs77 : RS u26 u78 := rs77
                refine lv_iconst (v := 1) hx hb dX2_named_205 (by decide) ?_
                refine W.sz (fun hz => ?_)
                refine vx_ret ?_
                refine W.widen (k := 1) (n := 6) (Nat.le_of_ble_eq_true rfl) (Nat.le_of_ble_eq_true rfl) ?_
                exact W.zret (v := 1) hx hb hr rfl (fun t ht9 hW => ⟨⟨1, u78, rfl, ⟨(FC.tr (FC.tr (FC.rf _) (FC.up fr25 (by decide) (by decide))) (FC.up fr77 (by decide) (by decide))), ⟨z304, z305, z306, z312, z321, z326, z373, z381, zd, zlb, r3, ex1, r6, ex4, r9, ex7, c7, (Or.inl ⟨z11, z13, (Or.inl ⟨z15, r18, ex16, ⟨c16, d16⟩, (Or.inl ⟨z20, (Or.inl ⟨z23, (Or.inr (⟨u26, ex25, ⟨fr25, i30525, pt25, rs25⟩, (Or.inr (⟨z45, r49, ex47, r52, ex50, ⟨b50, e50⟩, (Or.inr (⟨z69, (Or.inr (⟨u78, ex77, ⟨fr77, i30577, i30677, i32177, i32677, i38177, pd77, pt77, plb77, po77, rs77⟩, rfl, rfl, rfl⟩))⟩))⟩))⟩))⟩)⟩)⟩)⟩)⟩, (show 0 ≤ (u78.1 0 305).toInt ∧ (u78.1 0 305).toInt ≤ 1500 from (om_26d9e457ca i30525 i30577 pt77)), (show 0 ≤ (u78.1 0 306).toInt ∧ (u78.1 0 306).toInt ≤ 40 from (om_7eaf33e007 i30677)), (show 0 ≤ (u78.1 0 321).toInt ∧ (u78.1 0 321).toInt ≤ 501 from (om_e1d35f5faf i32177)), (show 0 ≤ (u78.1 0 326).toInt ∧ (u78.1 0 326).toInt ≤ 420 from (om_839d7ed7dd i32677)), (show 0 ≤ (u78.1 0 381).toInt ∧ (u78.1 0 381).toInt ≤ 3008 from (om_f321cbe231 zd q73 q75 pt25 i30577 i32677 i38177 pd77)), (show (u78.1 0 381).toInt + (u78.1 0 326).toInt - 2 * (u78.1 0 305).toInt + (1) ≤ (v.1 0 381).toInt + (v.1 0 326).toInt - 2 * (v.1 0 305).toInt from (om_9e98ca684f q73 q75 pt25 pd77)), (show (v.1 0 305).toInt + 1 ≤ (u78.1 0 305).toInt from (om_999763a006 pt25 pt77)), (show (v.1 0 317).toInt ≤ (u78.1 0 317).toInt ∧ (u78.1 0 317).toInt - 4 * (u78.1 0 305).toInt ≤ (v.1 0 317).toInt - 4 * (v.1 0 305).toInt + 0 from (om_86ed8a939d q76 pt25 plb77)), (show (u78.1 0 306).toInt = (v.1 0 306).toInt from (om_837b7bd001 q70 po77)), (RS.tr (RS.tr RS.rf rs25) rs77), (Or.inr rfl)⟩, ⟨by rw [ht9]; exact hP, hD⟩, by rw [ht9]; exact hz⟩, hS.F ht9⟩) hS.2.2 dX2_named_206
          · have z80 : r3.toInt = (34 : Int) := eq_z rfl (show (34 : Int32).toInt = (34 : Int) by decide) h22
            refine lv_iconst (v := 1) hx hb dX2_named_138 (by decide) ?_
            refine lv_goto (tgt := 143) hx hb dX2_named_139 (by decide) ?_
            refine lv_icmp_eq (tgt := 161) hx hb dX2_named_143 (by decide) (fun k81 => absurd k81 (by decide)) (fun _ => ?_)
            refine lv_aload_n hx hb dX2_named_146 rfl (lv_at hl 5 rfl) ?_
            refine va_get (D := (dC, dI)) (ci := 6) (fs := oF_X2 ad pr v) (v := .ref (ad 900)) (C := RX2) (T := TX2) (N := 5) hx hb ht itX2 hown hK hP 2 rfl rfl 0 (by decide) (ht _ tw_509) (fun _ h9 => h9) rfl dX2_named_147 ?_
            refine lv_iconst (v := 3) hx hb dX2_named_150 (by decide) ?_
            refine lv_aload_n hx hb dX2_named_151 rfl (lv_at hl 5 rfl) ?_
            refine va_get (D := (dC, dI)) (ci := 6) (fs := oF_X2 ad pr v) (v := .ref (ad 900)) (C := RX2) (T := TX2) (N := 5) hx hb ht itX2 hown hK hP 2 rfl rfl 0 (by decide) (ht _ tw_509) (fun _ h9 => h9) rfl dX2_named_152 ?_
            refine cu_i (rn_Vk (n := 0) (As := []) (rest := [.int 3, .ref (ad 900)]) hx hb hml hown ht hKK hFx hP hD hS hA (c_x_X9_place l dC dI cI cB cZ cJ cR tb H.size ad pr N L1 L2 v ps (show 0 ≤ (v.1 0 304).toInt ∧ (v.1 0 304).toInt ≤ 1503 from (om_c99648273b z304)) (show 0 ≤ (v.1 0 305).toInt ∧ (v.1 0 305).toInt ≤ 1500 from (om_7897b4ccef z305)) (show 0 ≤ (v.1 0 373).toInt ∧ (v.1 0 373).toInt ≤ 4000 from (om_c74a68af25 z373)) (show pr ps = ad 908 from hps) (show (v.1 0 300) = ps from es300)) tw_457 tw_510 (by decide +kernel) rfl rfl ⟨show 0 + 1 ≤ 8 * n + 15 from om_fce2c17b78, show 8 + (1 + 11) + 0 ≤ 28 * (8 * n + 15) from om_bca265e904⟩ (List.range (cW ad pr N cI cR L1 L2 v).length) (rg_map _) (nd_range _) 0 rfl rfl rfl rfl hl.1 rfl (Nat.le_of_ble_eq_true rfl) dX2_named_155 ⟨Nat.le_of_ble_eq_true rfl, Nat.le_of_ble_eq_true rfl⟩) hP hD hS hA (fun r84 u83 H locs hw82 hP hD hS => ?_)
            obtain ⟨rfl, ex82⟩ := hw82
            refine W.widen (k := 0) (n := 0) (Nat.le_refl _) (Nat.le_refl _) ?_
            refine W.sz (fun hz9 => ?_)
            refine czx_v (rx_Vk (n := 2) (As := [.int 3, .int r84]) (rest := []) hx hb hml hown ht hKK hFx hP hD hS hA (c_x_X9_refuse l dC dI cI cB cZ cJ cR tb H.size ad pr N L1 L2 v (3 : Int32) r84 (show l.stackTraces = false from hst) (show (3 : Int) ≠ 0 from om_59881768ad)) tw_459 tw_511 (by decide +kernel) rfl rfl ⟨show 6 + 1 ≤ 8 * n + 15 from om_838586afae, show 8 + (3 + 11) + 82 ≤ 28 * (8 * n + 15) from om_41a9d63453⟩ (List.range (cW ad pr N cI cR L1 L2 v).length) (rg_map _) (nd_range _) 0 rfl rfl rfl rfl hl.1 rfl (Nat.le_of_ble_eq_true rfl) dX2_named_158 ⟨Nat.le_of_ble_eq_true rfl, Nat.le_of_ble_eq_true rfl⟩) hP hD hS hA (fun u9 ce9 q9 H locs hx9 hP hD hS hc9 hv9 hf9 => ?_) (fun u86 H locs hw85 hP hD hS hz8 => ?_)
            · exact vx_out (fun x h9 => (hnt x h9).elim) hlocks hc9 hv9 hf9 (fun t9 ht9 hv8 => ⟨u9, ⟨FC.tr (FC.rf _) hx9.1, hx9.2.1, ⟨z304, z305, z306, z312, z321, z326, z373, z381, zd, zlb, r3, ex1, r6, ex4, r9, ex7, c7, (Or.inl ⟨z11, z13, (Or.inl ⟨z15, r18, ex16, ⟨c16, d16⟩, (Or.inl ⟨z20, (Or.inr (⟨z80, r84, ex82, u9, hx9.2.2, rfl, rfl, rfl⟩))⟩)⟩)⟩)⟩⟩, ⟨rfl, by rw [ht9]; exact hP, hD⟩, hS.F ht9⟩) hS.2.2 (Nat.le_refl _) (Nat.le_refl _)
            refine W.shrink (hz8.trans hz9) ?_
            obtain ⟨fr85, ex85, no85, rs85⟩ := hw85
            exact no85.elim
        · have z88 : r18.toInt = (1 : Int) := eq_z rfl (show (1 : Int32).toInt = (1 : Int) by decide) h19
          refine lv_iconst (v := 1) hx hb dX2_named_118 (by decide) ?_
          refine lv_goto (tgt := 123) hx hb dX2_named_119 (by decide) ?_
          refine lv_istore (lv' := [(6, .int 1), (5, .int 1), (4, .int (-1)), (3, .int r9), (2, .int r3), (0, .ref (ad 902)), (1, .int pa)]) hx hb dX2_named_123 hl (by decide) rfl (fun ls hl => ?_)
          refine lv_iload hx hb dX2_named_125 (lv_at hl 1 rfl) ?_
          refine lv_if_eq (tgt := 146) hx hb dX2_named_127 (by decide) (fun k89 => absurd k89 (by decide)) (fun _ => ?_)
          refine lv_iload hx hb dX2_named_130 (lv_at hl 0 rfl) ?_
          refine lv_iload_n hx hb dX2_named_132 rfl (lv_at hl 4 rfl) ?_
          refine lv_bipush (v := 34) hx hb dX2_named_133 (by decide) ?_
          refine lv_icmp_ne (tgt := 142) hx hb dX2_named_135 (by decide) (fun h90 => ?_) (fun h90 => ?_)
          · have z91 : r3.toInt ≠ (34 : Int) := ne_z rfl (show (34 : Int32).toInt = (34 : Int) by decide) h90
            refine lv_iconst (v := 0) hx hb dX2_named_142 (by decide) ?_
            refine lv_icmp_eq (tgt := 161) hx hb dX2_named_143 (by decide) (fun k92 => absurd k92 (by decide)) (fun _ => ?_)
            refine lv_aload_n hx hb dX2_named_146 rfl (lv_at hl 5 rfl) ?_
            refine va_get (D := (dC, dI)) (ci := 6) (fs := oF_X2 ad pr v) (v := .ref (ad 900)) (C := RX2) (T := TX2) (N := 5) hx hb ht itX2 hown hK hP 2 rfl rfl 0 (by decide) (ht _ tw_509) (fun _ h9 => h9) rfl dX2_named_147 ?_
            refine lv_iconst (v := 3) hx hb dX2_named_150 (by decide) ?_
            refine lv_aload_n hx hb dX2_named_151 rfl (lv_at hl 5 rfl) ?_
            refine va_get (D := (dC, dI)) (ci := 6) (fs := oF_X2 ad pr v) (v := .ref (ad 900)) (C := RX2) (T := TX2) (N := 5) hx hb ht itX2 hown hK hP 2 rfl rfl 0 (by decide) (ht _ tw_509) (fun _ h9 => h9) rfl dX2_named_152 ?_
            refine cu_i (rn_Vk (n := 0) (As := []) (rest := [.int 3, .ref (ad 900)]) hx hb hml hown ht hKK hFx hP hD hS hA (c_x_X9_place l dC dI cI cB cZ cJ cR tb H.size ad pr N L1 L2 v ps (show 0 ≤ (v.1 0 304).toInt ∧ (v.1 0 304).toInt ≤ 1503 from (om_c99648273b z304)) (show 0 ≤ (v.1 0 305).toInt ∧ (v.1 0 305).toInt ≤ 1500 from (om_7897b4ccef z305)) (show 0 ≤ (v.1 0 373).toInt ∧ (v.1 0 373).toInt ≤ 4000 from (om_c74a68af25 z373)) (show pr ps = ad 908 from hps) (show (v.1 0 300) = ps from es300)) tw_457 tw_510 (by decide +kernel) rfl rfl ⟨show 0 + 1 ≤ 8 * n + 15 from om_fce2c17b78, show 8 + (1 + 11) + 0 ≤ 28 * (8 * n + 15) from om_bca265e904⟩ (List.range (cW ad pr N cI cR L1 L2 v).length) (rg_map _) (nd_range _) 0 rfl rfl rfl rfl hl.1 rfl (Nat.le_of_ble_eq_true rfl) dX2_named_155 ⟨Nat.le_of_ble_eq_true rfl, Nat.le_of_ble_eq_true rfl⟩) hP hD hS hA (fun r95 u94 H locs hw93 hP hD hS => ?_)
            obtain ⟨rfl, ex93⟩ := hw93
            refine W.widen (k := 0) (n := 0) (Nat.le_refl _) (Nat.le_refl _) ?_
            refine W.sz (fun hz9 => ?_)
            refine czx_v (rx_Vk (n := 2) (As := [.int 3, .int r95]) (rest := []) hx hb hml hown ht hKK hFx hP hD hS hA (c_x_X9_refuse l dC dI cI cB cZ cJ cR tb H.size ad pr N L1 L2 v (3 : Int32) r95 (show l.stackTraces = false from hst) (show (3 : Int) ≠ 0 from om_59881768ad)) tw_459 tw_511 (by decide +kernel) rfl rfl ⟨show 6 + 1 ≤ 8 * n + 15 from om_838586afae, show 8 + (3 + 11) + 82 ≤ 28 * (8 * n + 15) from om_41a9d63453⟩ (List.range (cW ad pr N cI cR L1 L2 v).length) (rg_map _) (nd_range _) 0 rfl rfl rfl rfl hl.1 rfl (Nat.le_of_ble_eq_true rfl) dX2_named_158 ⟨Nat.le_of_ble_eq_true rfl, Nat.le_of_ble_eq_true rfl⟩) hP hD hS hA (fun u9 ce9 q9 H locs hx9 hP hD hS hc9 hv9 hf9 => ?_) (fun u97 H locs hw96 hP hD hS hz8 => ?_)
            · exact vx_out (fun x h9 => (hnt x h9).elim) hlocks hc9 hv9 hf9 (fun t9 ht9 hv8 => ⟨u9, ⟨FC.tr (FC.rf _) hx9.1, hx9.2.1, ⟨z304, z305, z306, z312, z321, z326, z373, z381, zd, zlb, r3, ex1, r6, ex4, r9, ex7, c7, (Or.inl ⟨z11, z13, (Or.inl ⟨z15, r18, ex16, ⟨c16, d16⟩, (Or.inr (⟨z88, (Or.inl ⟨z91, r95, ex93, u9, hx9.2.2, rfl, rfl, rfl⟩)⟩))⟩)⟩)⟩⟩, ⟨rfl, by rw [ht9]; exact hP, hD⟩, hS.F ht9⟩) hS.2.2 (Nat.le_refl _) (Nat.le_refl _)
            refine W.shrink (hz8.trans hz9) ?_
            obtain ⟨fr96, ex96, no96, rs96⟩ := hw96
            exact no96.elim
          · have z99 : r3.toInt = (34 : Int) := eq_z rfl (show (34 : Int32).toInt = (34 : Int) by decide) h90
            refine lv_iconst (v := 1) hx hb dX2_named_138 (by decide) ?_
            refine lv_goto (tgt := 143) hx hb dX2_named_139 (by decide) ?_
            refine lv_icmp_eq (tgt := 161) hx hb dX2_named_143 (by decide) (fun _ => ?_) (fun k100 => absurd k100 (by decide))
            refine lv_aload_n hx hb dX2_named_161 rfl (lv_at hl 5 rfl) ?_
            refine va_get (D := (dC, dI)) (ci := 6) (fs := oF_X2 ad pr v) (v := .ref (ad 900)) (C := RX2) (T := TX2) (N := 5) hx hb ht itX2 hown hK hP 2 rfl rfl 0 (by decide) (ht _ tw_509) (fun _ h9 => h9) rfl dX2_named_162 ?_
            refine W.sz (fun hz9 => ?_)
            refine czx_v (rx_Vk (n := 0) (As := []) (rest := []) hx hb hml hown ht hKK hFx hP hD hS hA (c_x_X9_take l dC dI cI cB cZ cJ cR tb H.size ad pr N L1 L2 v ps (show 0 ≤ (v.1 0 304).toInt ∧ (v.1 0 304).toInt ≤ 1503 from (om_c99648273b z304)) (show 0 ≤ (v.1 0 305).toInt ∧ (v.1 0 305).toInt ≤ 1500 from (om_7897b4ccef z305)) (show 0 ≤ (v.1 0 373).toInt ∧ (v.1 0 373).toInt ≤ 4000 from (om_c74a68af25 z373)) (show pr ps = ad 908 from hps) (show (v.1 0 300) = ps from es300) (show l.stackTraces = false from hst)) tw_539 tw_540 (by decide +kernel) rfl rfl ⟨show 7 + 1 ≤ 8 * n + 15 from om_ec1f92c19e, show 8 + (1 + 11) + 104 ≤ 28 * (8 * n + 15) from om_9d5a13a74b⟩ (List.range (cW ad pr N cI cR L1 L2 v).length) (rg_map _) (nd_range _) 0 rfl rfl rfl rfl hl.1 rfl (Nat.le_of_ble_eq_true rfl) dX2_named_165 ⟨Nat.le_of_ble_eq_true rfl, Nat.le_of_ble_eq_true rfl⟩) hP hD hS hA (fun u9 ce9 q9 H locs hx9 hP hD hS hc9 hv9 hf9 => ?_) (fun u102 H locs hw101 hP hD hS hz8 => ?_)
            · exact vx_out (fun x h9 => (hnt x h9).elim) hlocks hc9 hv9 hf9 (fun t9 ht9 hv8 => ⟨u9, ⟨FC.tr (FC.rf _) hx9.1, hx9.2.1, ⟨z304, z305, z306, z312, z321, z326, z373, z381, zd, zlb, r3, ex1, r6, ex4, r9, ex7, c7, (Or.inl ⟨z11, z13, (Or.inl ⟨z15, r18, ex16, ⟨c16, d16⟩, (Or.inr (⟨z88, (Or.inr (⟨z99, (Or.inl ⟨u9, hx9.2.2, rfl, rfl, rfl⟩)⟩))⟩))⟩)⟩)⟩⟩, ⟨rfl, by rw [ht9]; exact hP, hD⟩, hS.F ht9⟩) hS.2.2 (Nat.le_refl _) (Nat.le_refl _)
            refine W.shrink (hz8.trans hz9) ?_
            obtain ⟨fr101, ex101, i305101, pt101, rs101⟩ := hw101
            refine lv_iload hx hb dX2_named_168 (lv_at hl 0 rfl) ?_
            refine lv_if_eq (tgt := 179) hx hb dX2_named_170 (by decide) (fun k104 => absurd k104 (by decide)) (fun _ => ?_)
            refine lv_aload_n hx hb dX2_named_173 rfl (lv_at hl 5 rfl) ?_
            refine lv_iload hx hb dX2_named_174 (lv_at hl 2 rfl) ?_
            have q105 : (u102.1 0 304).toInt = (v.1 0 304).toInt := congrArg Int32.toInt ((fr101.2.1 304 (by decide)).trans (show v.1 0 304 = (v.1 0 304) by rfl))
            have q106 : (u102.1 0 306).toInt = (v.1 0 306).toInt := congrArg Int32.toInt ((fr101.2.1 306 (by decide)).trans (show v.1 0 306 = (v.1 0 306) by rfl))
            have q107 : (u102.1 0 312).toInt = (v.1 0 312).toInt := congrArg Int32.toInt ((fr101.2.1 312 (by decide)).trans (show v.1 0 312 = (v.1 0 312) by rfl))
            have q108 : (u102.1 0 321).toInt = (v.1 0 321).toInt := congrArg Int32.toInt ((fr101.2.1 321 (by decide)).trans (show v.1 0 321 = (v.1 0 321) by rfl))
            have q109 : (u102.1 0 326).toInt = (v.1 0 326).toInt := congrArg Int32.toInt ((fr101.2.1 326 (by decide)).trans (show v.1 0 326 = (v.1 0 326) by rfl))
            have q110 : (u102.1 0 373).toInt = (v.1 0 373).toInt := congrArg Int32.toInt ((fr101.2.1 373 (by decide)).trans (show v.1 0 373 = (v.1 0 373) by rfl))
            have q111 : (u102.1 0 381).toInt = (v.1 0 381).toInt := congrArg Int32.toInt ((fr101.2.1 381 (by decide)).trans (show v.1 0 381 = (v.1 0 381) by rfl))
            have q112 : (u102.1 0 317).toInt = (v.1 0 317).toInt := congrArg Int32.toInt ((fr101.2.1 317 (by decide)).trans (show v.1 0 317 = (v.1 0 317) by rfl))
            refine W.sz (fun hz9 => ?_)
            refine czx_v (rx_Vk (n := 1) (As := [.int (-1)]) (rest := []) hx hb hml hown ht hKK hFx hP hD hS hA (c_x_X2_index l n ihE dC dI cI cB cZ cJ cR tb H.size ad pr N L1 L2 u102 (-1 : Int32) ps (show 0 ≤ (u102.1 0 304).toInt ∧ (u102.1 0 304).toInt ≤ 1503 from (om_73002589c1 z304 q105)) (show 0 ≤ (u102.1 0 305).toInt ∧ (u102.1 0 305).toInt ≤ 1500 from (om_89213937cb z305 i305101 pt101)) (show 0 ≤ (u102.1 0 306).toInt ∧ (u102.1 0 306).toInt ≤ 40 from (om_99e115f631 z306 q106)) (show 0 ≤ (u102.1 0 312).toInt ∧ (u102.1 0 312).toInt ≤ 500 from (om_f8376ff89c z312 q107)) (show 0 ≤ (u102.1 0 321).toInt ∧ (u102.1 0 321).toInt ≤ 501 from (om_ff27494c0e z321 q108)) (show 0 ≤ (u102.1 0 326).toInt ∧ (u102.1 0 326).toInt ≤ 420 from (om_8ed0dedb19 z326 q109)) (show 0 ≤ (u102.1 0 373).toInt ∧ (u102.1 0 373).toInt ≤ 4000 from (om_9084c127ed z373 q110)) (show 0 ≤ (u102.1 0 381).toInt ∧ (u102.1 0 381).toInt ≤ 3008 from (om_3d2979e731 z305 z326 z381 zd q111)) (show L1.length = 40 from hL1) (show L2.length = 60 from hL2) (show RP u102 from ((show FC [305, 306, 307, 314, 315, 317, 321, 326, 381] [0, 316, 318, 319, 320, 324, 325, 378, 379, 380] v u102 from (FC.tr (FC.rf _) (FC.up fr101 (by decide) (by decide)))).1 rp)) (show pr ps = ad 908 from hps) (show (u102.1 0 300) = ps from (Eq.trans (fr101.2.1 300 (by decide)) es300)) (show (u102.1 0 310) = ps from (Eq.trans (fr101.2.1 310 (by decide)) es310)) (show l.stackTraces = false from hst) (show (u102.1 0 381).toInt + (u102.1 0 326).toInt - 2 * (u102.1 0 305).toInt ≤ 2 from (om_4a6a2fe9b7 zd q109 q111 pt101)) (show 0 ≤ (u102.1 0 317).toInt ∧ (u102.1 0 317).toInt - 4 * (u102.1 0 305).toInt ≤ 8 from (om_acd7fdc17b zlb q112 pt101)) (show 40 ≤ (u102.1 0 306).toInt + (n : Int) from (om_2d3a9cf1da zn q106))) tw_551 tw_552 (by decide +kernel) rfl rfl ⟨show (8 * n + 14) + 1 ≤ 8 * n + 15 from om_c0c6541b93, show 8 + (2 + 11) + 28 * (8 * n + 14) ≤ 28 * (8 * n + 15) from om_c8e428155d⟩ (List.range (cW ad pr N cI cR L1 L2 u102).length) (rg_map _) (nd_range _) 2 rfl rfl rfl rfl hl.1 rfl (Nat.le_of_ble_eq_true rfl) dX2_named_176 ⟨Nat.le_of_ble_eq_true rfl, Nat.le_of_ble_eq_true rfl⟩) hP hD hS hA (fun u9 ce9 q9 H locs hx9 hP hD hS hc9 hv9 hf9 => ?_) (fun u114 H locs hw113 hP hD hS hz8 => ?_)
            · exact vx_out (fun x h9 => (hnt x h9).elim) hlocks hc9 hv9 hf9 (fun t9 ht9 hv8 => ⟨u9, ⟨FC.tr (FC.tr (FC.rf _) (FC.up fr101 (by decide) (by decide))) hx9.1, hx9.2.1, ⟨z304, z305, z306, z312, z321, z326, z373, z381, zd, zlb, r3, ex1, r6, ex4, r9, ex7, c7, (Or.inl ⟨z11, z13, (Or.inl ⟨z15, r18, ex16, ⟨c16, d16⟩, (Or.inr (⟨z88, (Or.inr (⟨z99, (Or.inr (⟨u102, ex101, ⟨fr101, i305101, pt101, rs101⟩, (Or.inl ⟨u9, hx9.2.2, rfl, rfl, rfl⟩)⟩))⟩))⟩))⟩)⟩)⟩⟩, ⟨rfl, by rw [ht9]; exact hP, hD⟩, hS.F ht9⟩) hS.2.2 (Nat.le_refl _) (Nat.le_refl _)
            refine W.shrink (hz8.trans hz9) ?_
            obtain ⟨fr113, ex113, i305113, i306113, i321113, i326113, i381113, pd113, pt113, plb113, po113, rs113⟩ := hw113
            have i305113 : 0 ≤ (u114.1 0 305).toInt ∧ (u114.1 0 305).toInt ≤ 1500 := i305113
            have i306113 : 0 ≤ (u114.1 0 306).toInt ∧ (u114.1 0 306).toInt ≤ 40 := i306113
            have i321113 : 0 ≤ (u114.1 0 321).toInt ∧ (u114.1 0 321).toInt ≤ 501 := i321113
            have i326113 : 0 ≤ (u114.1 0 326).toInt ∧ (u114.1 0 326).toInt ≤ 420 := i326113
            have i381113 : 0 ≤ (u114.1 0 381).toInt ∧ (u114.1 0 381).toInt ≤ 3008 := i381113
            have pd113 : (u114.1 0 381).toInt + (u114.1 0 326).toInt - 2 * (u114.1 0 305).toInt + (4) ≤ (u102.1 0 381).toInt + (u102.1 0 326).toInt - 2 * (u102.1 0 305).toInt := pd113
            have pt113 : (u102.1 0 305).toInt + 3 ≤ (u114.1 0 305).toInt := pt113
            have plb113 : (u102.1 0 317).toInt ≤ (u114.1 0 317).toInt ∧ (u114.1 0 317).toInt - 4 * (u114.1 0 305).toInt ≤ (u102.1 0 317).toInt - 4 * (u102.1 0 305).toInt + 0 := plb113
            have po113 : (u114.1 0 306).toInt = (u102.1 0 306).toInt := po113
            have rs113 : RS u102 u114 := rs113
            refine lv_iload_n hx hb dX2_named_179 rfl (lv_at hl 6 rfl) ?_
            refine lv_if_eq (tgt := 207) hx hb dX2_named_180 (by decide) (fun h116 => ?_) (fun h116 => ?_)
            · have z117 : pa.toInt = (0 : Int) := eq_z rfl (show (0 : Int32).toInt = (0 : Int) by decide) h116
              refine lv_iload hx hb dX2_named_207 (lv_at hl 0 rfl) ?_
              refine lv_if_eq (tgt := 227) hx hb dX2_named_209 (by decide) (fun k118 => absurd k118 (by decide)) (fun _ => ?_)
              refine lv_aload_n hx hb dX2_named_212 rfl (lv_at hl 5 rfl) ?_
              refine va_get (D := (dC, dI)) (ci := 6) (fs := oF_X2 ad pr u114) (v := .ref (ad 901)) (C := RX2) (T := TX2) (N := 5) hx hb ht itX2 hown hK hP 2 rfl rfl 1 (by decide) (ht _ tw_498) (fun _ h9 => h9) rfl dX2_named_213 ?_
              refine lv_bipush (v := 8) hx hb dX2_named_216 (by decide) ?_
              refine lv_iload hx hb dX2_named_218 (lv_at hl 2 rfl) ?_
              refine lv_iconst (v := 0) hx hb dX2_named_220 (by decide) ?_
              refine cu_v (rn_Vk (n := 3) (As := [.int 8, .int (-1), .int 0]) (rest := []) hx hb hml hown ht hKK hFx hP hD hS hA (c_x_X1_add l dC dI cI cB cZ cJ cR tb H.size ad pr N L1 L2 u114 (8 : Int32) (-1 : Int32) (0 : Int32) ps (show 0 ≤ (u114.1 0 381).toInt ∧ (u114.1 0 381).toInt ≤ 3008 from (om_4a41e7b354 zd q109 q111 pt101 i305113 i326113 i381113 pd113)) (show pr ps = ad 908 from hps) (show (u114.1 0 310) = ps from (Eq.trans (fr113.2.1 310 (by decide)) (Eq.trans (fr101.2.1 310 (by decide)) es310))) (show (u114.1 0 381).toInt < 3008 from (om_965160d414 zd q109 q111 pt101 i305113 i326113 pd113))) tw_499 tw_500 (by decide +kernel) rfl rfl ⟨show 0 + 1 ≤ 8 * n + 15 from om_fce2c17b78, show 8 + (5 + 11) + 0 ≤ 28 * (8 * n + 15) from om_bbd2f5c798⟩ (List.range (cW ad pr N cI cR L1 L2 u114).length) (rg_map _) (nd_range _) 1 rfl rfl rfl rfl hl.1 rfl (Nat.le_of_ble_eq_true rfl) dX2_named_221 ⟨Nat.le_of_ble_eq_true rfl, Nat.le_of_ble_eq_true rfl⟩) hP hD hS hA (fun u120 H locs hw119 hP hD hS => ?_)
              obtain ⟨fr119, ex119, i381119, pd119, rs119⟩ := hw119
              have i381119 : 0 ≤ (u120.1 0 381).toInt ∧ (u120.1 0 381).toInt ≤ 3008 := i381119
              have pd119 : (u120.1 0 381).toInt = (u114.1 0 381).toInt + 1 := pd119
              have rs119 : RS u114 u120 := rs119
              refine W.widen (k := 0) (n := 0) (Nat.le_refl _) (Nat.le_refl _) ?_
              refine lv_goto (tgt := 234) hx hb dX2_named_224 (by decide) ?_
              refine lv_iconst (v := 0) hx hb dX2_named_234 (by decide) ?_
              have q122 : (u120.1 0 305).toInt = (u114.1 0 305).toInt := congrArg Int32.toInt ((fr119.2.1 305 (by decide)).trans (show u114.1 0 305 = (u114.1 0 305) by rfl))
              have q123 : (u120.1 0 306).toInt = (u114.1 0 306).toInt := congrArg Int32.toInt ((fr119.2.1 306 (by decide)).trans (show u114.1 0 306 = (u114.1 0 306) by rfl))
              have q124 : (u120.1 0 321).toInt = (u114.1 0 321).toInt := congrArg Int32.toInt ((fr119.2.1 321 (by decide)).trans (show u114.1 0 321 = (u114.1 0 321) by rfl))
              have q125 : (u120.1 0 326).toInt = (u114.1 0 326).toInt := congrArg Int32.toInt ((fr119.2.1 326 (by decide)).trans (show u114.1 0 326 = (u114.1 0 326) by rfl))
              have q126 : (u120.1 0 317).toInt = (u114.1 0 317).toInt := congrArg Int32.toInt ((fr119.2.1 317 (by decide)).trans (show u114.1 0 317 = (u114.1 0 317) by rfl))
              refine W.sz (fun hz => ?_)
              refine vx_ret ?_
              refine W.widen (k := 1) (n := 6) (Nat.le_of_ble_eq_true rfl) (Nat.le_of_ble_eq_true rfl) ?_
              exact W.zret (v := 0) hx hb hr rfl (fun t ht9 hW => ⟨⟨0, u120, rfl, ⟨(FC.tr (FC.tr (FC.tr (FC.rf _) (FC.up fr101 (by decide) (by decide))) (FC.up fr113 (by decide) (by decide))) (FC.up fr119 (by decide) (by decide))), ⟨z304, z305, z306, z312, z321, z326, z373, z381, zd, zlb, r3, ex1, r6, ex4, r9, ex7, c7, (Or.inl ⟨z11, z13, (Or.inl ⟨z15, r18, ex16, ⟨c16, d16⟩, (Or.inr (⟨z88, (Or.inr (⟨z99, (Or.inr (⟨u102, ex101, ⟨fr101, i305101, pt101, rs101⟩, (Or.inr (⟨u114, ex113, ⟨fr113, i305113, i306113, i321113, i326113, i381113, pd113, pt113, plb113, po113, rs113⟩, (Or.inl ⟨z117, u120, ex119, ⟨fr119, i381119, pd119, rs119⟩, rfl, rfl, rfl⟩)⟩))⟩))⟩))⟩))⟩)⟩)⟩, (show 0 ≤ (u120.1 0 305).toInt ∧ (u120.1 0 305).toInt ≤ 1500 from (om_084377e3fa i305101 i305113 pt113 q122)), (show 0 ≤ (u120.1 0 306).toInt ∧ (u120.1 0 306).toInt ≤ 40 from (om_99e115f631 i306113 q123)), (show 0 ≤ (u120.1 0 321).toInt ∧ (u120.1 0 321).toInt ≤ 501 from (om_ff27494c0e i321113 q124)), (show 0 ≤ (u120.1 0 326).toInt ∧ (u120.1 0 326).toInt ≤ 420 from (om_8ed0dedb19 i326113 q125)), (show 0 ≤ (u120.1 0 381).toInt ∧ (u120.1 0 381).toInt ≤ 3008 from (om_a54fafc81a zd q109 q111 pt101 i305113 i326113 i381113 pd113 pd119)), (show (u120.1 0 381).toInt + (u120.1 0 326).toInt - 2 * (u120.1 0 305).toInt + (1) ≤ (v.1 0 381).toInt + (v.1 0 326).toInt - 2 * (v.1 0 305).toInt from (om_93d336dac2 q109 q111 pt101 pd113 q122 q125 pd119)), (show (v.1 0 305).toInt + 1 ≤ (u120.1 0 305).toInt from (om_bfb949faf8 pt101 pt113 q122)), (show (v.1 0 317).toInt ≤ (u120.1 0 317).toInt ∧ (u120.1 0 317).toInt - 4 * (u120.1 0 305).toInt ≤ (v.1 0 317).toInt - 4 * (v.1 0 305).toInt + 0 from (om_fbd5167e72 q112 pt101 plb113 q122 q126)), (show (u120.1 0 306).toInt = (v.1 0 306).toInt from (om_698eb7995a q106 po113 q123)), (RS.tr (RS.tr (RS.tr RS.rf rs101) rs113) rs119), (Or.inl rfl)⟩, ⟨by rw [ht9]; exact hP, hD⟩, by rw [ht9]; exact hz⟩, hS.F ht9⟩) hS.2.2 dX2_named_235
            · have z127 : pa.toInt ≠ (0 : Int) := ne_z rfl (show (0 : Int32).toInt = (0 : Int) by decide) h116
              refine lv_aload_n hx hb dX2_named_183 rfl (lv_at hl 5 rfl) ?_
              refine va_get (D := (dC, dI)) (ci := 6) (fs := oF_X2 ad pr u114) (v := .ref (ad 900)) (C := RX2) (T := TX2) (N := 5) hx hb ht itX2 hown hK hP 2 rfl rfl 0 (by decide) (ht _ tw_509) (fun _ h9 => h9) rfl dX2_named_184 ?_
              have q128 : (u114.1 0 304).toInt = (u102.1 0 304).toInt := congrArg Int32.toInt ((fr113.2.1 304 (by decide)).trans (show u102.1 0 304 = (u102.1 0 304) by rfl))
              refine cu_i (rn_Vk (n := 0) (As := []) (rest := []) hx hb hml hown ht hKK hFx hP hD hS hA (c_x_X9_kind l dC dI cI cB cZ cJ cR tb H.size ad pr N L1 L2 u114  (show 0 ≤ (u114.1 0 304).toInt ∧ (u114.1 0 304).toInt ≤ 1503 from (om_dd87ee851a z304 q105 q128)) (show 0 ≤ (u114.1 0 305).toInt ∧ (u114.1 0 305).toInt ≤ 1500 from (om_92b6e2629b i305101 i305113 pt113))) tw_455 tw_532 (by decide +kernel) rfl rfl ⟨show 0 + 1 ≤ 8 * n + 15 from om_fce2c17b78, show 8 + (1 + 11) + 0 ≤ 28 * (8 * n + 15) from om_bca265e904⟩ (List.range (cW ad pr N cI cR L1 L2 u114).length) (rg_map _) (nd_range _) 0 rfl rfl rfl rfl hl.1 rfl (Nat.le_of_ble_eq_true rfl) dX2_named_187 ⟨Nat.le_of_ble_eq_true rfl, Nat.le_of_ble_eq_true rfl⟩) hP hD hS hA (fun r131 u130 H locs hw129 hP hD hS => ?_)
              obtain ⟨rfl, ex129⟩ := hw129
              refine W.widen (k := 0) (n := 0) (Nat.le_refl _) (Nat.le_refl _) ?_
              refine cu_s (nd_range _) (rn_S (n := 1) (As := [.int r131]) (rest := []) hx hb hml hown ht hKK hFx hP hD hS hA (c_x_X9_isSet l dC dI cI cB cZ cJ cR tb H.size r131 ) tw_547 tw_548 (by decide +kernel) rfl rfl ⟨show 0 + 1 ≤ 8 * n + 15 from om_fce2c17b78, show 8 + (1 + 11) + 0 ≤ 28 * (8 * n + 15) from om_bca265e904⟩ [] rfl rfl rfl hl.1 rfl (Nat.le_of_ble_eq_true rfl) dX2_named_190 ⟨Nat.le_of_ble_eq_true rfl, Nat.le_of_ble_eq_true rfl⟩) hP hD hS hA (fun r134 H locs hw132 hP hD hS => ?_)
              obtain ⟨ex132, b132, e132⟩ := hw132
              have b132 : (r134 = 0 ∨ r134 = 1) := b132
              have e132 : (0 ≤ r134.toInt ∧ r134.toInt ≤ 1) := e132
              refine W.widen (k := 0) (n := 0) (Nat.le_refl _) (Nat.le_refl _) ?_
              refine lv_if_eq (tgt := 207) hx hb dX2_named_193 (by decide) (fun h135 => ?_) (fun h135 => ?_)
              · have z136 : r134.toInt = (0 : Int) := eq_z rfl (show (0 : Int32).toInt = (0 : Int) by decide) h135
                refine lv_iload hx hb dX2_named_207 (lv_at hl 0 rfl) ?_
                refine lv_if_eq (tgt := 227) hx hb dX2_named_209 (by decide) (fun k137 => absurd k137 (by decide)) (fun _ => ?_)
                refine lv_aload_n hx hb dX2_named_212 rfl (lv_at hl 5 rfl) ?_
                refine va_get (D := (dC, dI)) (ci := 6) (fs := oF_X2 ad pr u114) (v := .ref (ad 901)) (C := RX2) (T := TX2) (N := 5) hx hb ht itX2 hown hK hP 2 rfl rfl 1 (by decide) (ht _ tw_498) (fun _ h9 => h9) rfl dX2_named_213 ?_
                refine lv_bipush (v := 8) hx hb dX2_named_216 (by decide) ?_
                refine lv_iload hx hb dX2_named_218 (lv_at hl 2 rfl) ?_
                refine lv_iconst (v := 0) hx hb dX2_named_220 (by decide) ?_
                refine cu_v (rn_Vk (n := 3) (As := [.int 8, .int (-1), .int 0]) (rest := []) hx hb hml hown ht hKK hFx hP hD hS hA (c_x_X1_add l dC dI cI cB cZ cJ cR tb H.size ad pr N L1 L2 u114 (8 : Int32) (-1 : Int32) (0 : Int32) ps (show 0 ≤ (u114.1 0 381).toInt ∧ (u114.1 0 381).toInt ≤ 3008 from (om_4a41e7b354 zd q109 q111 pt101 i305113 i326113 i381113 pd113)) (show pr ps = ad 908 from hps) (show (u114.1 0 310) = ps from (Eq.trans (fr113.2.1 310 (by decide)) (Eq.trans (fr101.2.1 310 (by decide)) es310))) (show (u114.1 0 381).toInt < 3008 from (om_965160d414 zd q109 q111 pt101 i305113 i326113 pd113))) tw_499 tw_500 (by decide +kernel) rfl rfl ⟨show 0 + 1 ≤ 8 * n + 15 from om_fce2c17b78, show 8 + (5 + 11) + 0 ≤ 28 * (8 * n + 15) from om_bbd2f5c798⟩ (List.range (cW ad pr N cI cR L1 L2 u114).length) (rg_map _) (nd_range _) 1 rfl rfl rfl rfl hl.1 rfl (Nat.le_of_ble_eq_true rfl) dX2_named_221 ⟨Nat.le_of_ble_eq_true rfl, Nat.le_of_ble_eq_true rfl⟩) hP hD hS hA (fun u139 H locs hw138 hP hD hS => ?_)
                obtain ⟨fr138, ex138, i381138, pd138, rs138⟩ := hw138
                have i381138 : 0 ≤ (u139.1 0 381).toInt ∧ (u139.1 0 381).toInt ≤ 3008 := i381138
                have pd138 : (u139.1 0 381).toInt = (u114.1 0 381).toInt + 1 := pd138
                have rs138 : RS u114 u139 := rs138
                refine W.widen (k := 0) (n := 0) (Nat.le_refl _) (Nat.le_refl _) ?_
                refine lv_goto (tgt := 234) hx hb dX2_named_224 (by decide) ?_
                refine lv_iconst (v := 0) hx hb dX2_named_234 (by decide) ?_
                have q141 : (u139.1 0 305).toInt = (u114.1 0 305).toInt := congrArg Int32.toInt ((fr138.2.1 305 (by decide)).trans (show u114.1 0 305 = (u114.1 0 305) by rfl))
                have q142 : (u139.1 0 306).toInt = (u114.1 0 306).toInt := congrArg Int32.toInt ((fr138.2.1 306 (by decide)).trans (show u114.1 0 306 = (u114.1 0 306) by rfl))
                have q143 : (u139.1 0 321).toInt = (u114.1 0 321).toInt := congrArg Int32.toInt ((fr138.2.1 321 (by decide)).trans (show u114.1 0 321 = (u114.1 0 321) by rfl))
                have q144 : (u139.1 0 326).toInt = (u114.1 0 326).toInt := congrArg Int32.toInt ((fr138.2.1 326 (by decide)).trans (show u114.1 0 326 = (u114.1 0 326) by rfl))
                have q145 : (u139.1 0 317).toInt = (u114.1 0 317).toInt := congrArg Int32.toInt ((fr138.2.1 317 (by decide)).trans (show u114.1 0 317 = (u114.1 0 317) by rfl))
                refine W.sz (fun hz => ?_)
                refine vx_ret ?_
                refine W.widen (k := 1) (n := 6) (Nat.le_of_ble_eq_true rfl) (Nat.le_of_ble_eq_true rfl) ?_
                exact W.zret (v := 0) hx hb hr rfl (fun t ht9 hW => ⟨⟨0, u139, rfl, ⟨(FC.tr (FC.tr (FC.tr (FC.rf _) (FC.up fr101 (by decide) (by decide))) (FC.up fr113 (by decide) (by decide))) (FC.up fr138 (by decide) (by decide))), ⟨z304, z305, z306, z312, z321, z326, z373, z381, zd, zlb, r3, ex1, r6, ex4, r9, ex7, c7, (Or.inl ⟨z11, z13, (Or.inl ⟨z15, r18, ex16, ⟨c16, d16⟩, (Or.inr (⟨z88, (Or.inr (⟨z99, (Or.inr (⟨u102, ex101, ⟨fr101, i305101, pt101, rs101⟩, (Or.inr (⟨u114, ex113, ⟨fr113, i305113, i306113, i321113, i326113, i381113, pd113, pt113, plb113, po113, rs113⟩, (Or.inr (⟨z127, r131, ex129, r134, ex132, ⟨b132, e132⟩, (Or.inl ⟨z136, u139, ex138, ⟨fr138, i381138, pd138, rs138⟩, rfl, rfl, rfl⟩)⟩))⟩))⟩))⟩))⟩))⟩)⟩)⟩, (show 0 ≤ (u139.1 0 305).toInt ∧ (u139.1 0 305).toInt ≤ 1500 from (om_084377e3fa i305101 i305113 pt113 q141)), (show 0 ≤ (u139.1 0 306).toInt ∧ (u139.1 0 306).toInt ≤ 40 from (om_99e115f631 i306113 q142)), (show 0 ≤ (u139.1 0 321).toInt ∧ (u139.1 0 321).toInt ≤ 501 from (om_ff27494c0e i321113 q143)), (show 0 ≤ (u139.1 0 326).toInt ∧ (u139.1 0 326).toInt ≤ 420 from (om_8ed0dedb19 i326113 q144)), (show 0 ≤ (u139.1 0 381).toInt ∧ (u139.1 0 381).toInt ≤ 3008 from (om_a54fafc81a zd q109 q111 pt101 i305113 i326113 i381113 pd113 pd138)), (show (u139.1 0 381).toInt + (u139.1 0 326).toInt - 2 * (u139.1 0 305).toInt + (1) ≤ (v.1 0 381).toInt + (v.1 0 326).toInt - 2 * (v.1 0 305).toInt from (om_93d336dac2 q109 q111 pt101 pd113 q141 q144 pd138)), (show (v.1 0 305).toInt + 1 ≤ (u139.1 0 305).toInt from (om_bfb949faf8 pt101 pt113 q141)), (show (v.1 0 317).toInt ≤ (u139.1 0 317).toInt ∧ (u139.1 0 317).toInt - 4 * (u139.1 0 305).toInt ≤ (v.1 0 317).toInt - 4 * (v.1 0 305).toInt + 0 from (om_fbd5167e72 q112 pt101 plb113 q141 q145)), (show (u139.1 0 306).toInt = (v.1 0 306).toInt from (om_698eb7995a q106 po113 q142)), (RS.tr (RS.tr (RS.tr RS.rf rs101) rs113) rs138), (Or.inl rfl)⟩, ⟨by rw [ht9]; exact hP, hD⟩, by rw [ht9]; exact hz⟩, hS.F ht9⟩) hS.2.2 dX2_named_235
              · have z146 : r134.toInt ≠ (0 : Int) := ne_z rfl (show (0 : Int32).toInt = (0 : Int) by decide) h135
                refine lv_aload_n hx hb dX2_named_196 rfl (lv_at hl 5 rfl) ?_
                refine lv_iload_n hx hb dX2_named_197 rfl (lv_at hl 3 rfl) ?_
                refine lv_iload hx hb dX2_named_198 (lv_at hl 2 rfl) ?_
                refine lv_iload hx hb dX2_named_200 (lv_at hl 0 rfl) ?_
                have q147 : (u114.1 0 312).toInt = (u102.1 0 312).toInt := congrArg Int32.toInt ((fr113.2.1 312 (by decide)).trans (show u102.1 0 312 = (u102.1 0 312) by rfl))
                have q148 : (u114.1 0 373).toInt = (u102.1 0 373).toInt := congrArg Int32.toInt ((fr113.2.1 373 (by decide)).trans (show u102.1 0 373 = (u102.1 0 373) by rfl))
                refine W.sz (fun hz9 => ?_)
                refine czx_v (rx_Vk (n := 3) (As := [.int r9, .int (-1), .int 1]) (rest := []) hx hb hml hown ht hKK hFx hP hD hS hA (c_x_X2_change l n ihE dC dI cI cB cZ cJ cR tb H.size ad pr N L1 L2 u114 r9 (-1 : Int32) (1 : Int32) ps (show 0 ≤ (u114.1 0 304).toInt ∧ (u114.1 0 304).toInt ≤ 1503 from (om_dd87ee851a z304 q105 q128)) (show 0 ≤ (u114.1 0 305).toInt ∧ (u114.1 0 305).toInt ≤ 1500 from (om_92b6e2629b i305101 i305113 pt113)) (show 0 ≤ (u114.1 0 306).toInt ∧ (u114.1 0 306).toInt ≤ 40 from (om_7eaf33e007 i306113)) (show 0 ≤ (u114.1 0 312).toInt ∧ (u114.1 0 312).toInt ≤ 500 from (om_8a5975ec21 z312 q107 q147)) (show 0 ≤ (u114.1 0 321).toInt ∧ (u114.1 0 321).toInt ≤ 501 from (om_e1d35f5faf i321113)) (show 0 ≤ (u114.1 0 326).toInt ∧ (u114.1 0 326).toInt ≤ 420 from (om_839d7ed7dd i326113)) (show 0 ≤ (u114.1 0 373).toInt ∧ (u114.1 0 373).toInt ≤ 4000 from (om_03cd8767ac z373 q110 q148)) (show 0 ≤ (u114.1 0 381).toInt ∧ (u114.1 0 381).toInt ≤ 3008 from (om_4a41e7b354 zd q109 q111 pt101 i305113 i326113 i381113 pd113)) (show L1.length = 40 from hL1) (show L2.length = 60 from hL2) (show RP u114 from ((show FC [305, 306, 307, 314, 315, 317, 321, 326, 381] [0, 316, 318, 319, 320, 324, 325, 378, 379, 380] v u114 from (FC.tr (FC.tr (FC.rf _) (FC.up fr101 (by decide) (by decide))) (FC.up fr113 (by decide) (by decide)))).1 rp)) (show pr ps = ad 908 from hps) (show (u114.1 0 300) = ps from (Eq.trans (fr113.2.1 300 (by decide)) (Eq.trans (fr101.2.1 300 (by decide)) es300))) (show (u114.1 0 310) = ps from (Eq.trans (fr113.2.1 310 (by decide)) (Eq.trans (fr101.2.1 310 (by decide)) es310))) (show l.stackTraces = false from hst) (show (u114.1 0 381).toInt + (u114.1 0 326).toInt - 2 * (u114.1 0 305).toInt ≤ -2 from (om_98c4315a29 zd q109 q111 pt101 pd113)) (show 0 ≤ (u114.1 0 317).toInt ∧ (u114.1 0 317).toInt - 4 * (u114.1 0 305).toInt ≤ 8 from (om_ac625cfd8a zlb q112 pt101 plb113)) (show 40 ≤ (u114.1 0 306).toInt + (n : Int) from (om_ec198adb23 zn q106 po113)) (show 0 ≤ (1 : Int) ∧ (1 : Int) ≤ 1 from om_628d677095)) tw_549 tw_550 (by decide +kernel) rfl rfl ⟨show (8 * n + 14) + 1 ≤ 8 * n + 15 from om_c0c6541b93, show 8 + (7 + 11) + 28 * (8 * n + 14) ≤ 28 * (8 * n + 15) from om_fb93e872bb⟩ (List.range (cW ad pr N cI cR L1 L2 u114).length) (rg_map _) (nd_range _) 2 rfl rfl rfl rfl hl.1 rfl (Nat.le_of_ble_eq_true rfl) dX2_named_202 ⟨Nat.le_of_ble_eq_true rfl, Nat.le_of_ble_eq_true rfl⟩) hP hD hS hA (fun u9 ce9 q9 H locs hx9 hP hD hS hc9 hv9 hf9 => ?_) (fun u150 H locs hw149 hP hD hS hz8 => ?_)
                · exact vx_out (fun x h9 => (hnt x h9).elim) hlocks hc9 hv9 hf9 (fun t9 ht9 hv8 => ⟨u9, ⟨FC.tr (FC.tr (FC.tr (FC.rf _) (FC.up fr101 (by decide) (by decide))) (FC.up fr113 (by decide) (by decide))) hx9.1, hx9.2.1, ⟨z304, z305, z306, z312, z321, z326, z373, z381, zd, zlb, r3, ex1, r6, ex4, r9, ex7, c7, (Or.inl ⟨z11, z13, (Or.inl ⟨z15, r18, ex16, ⟨c16, d16⟩, (Or.inr (⟨z88, (Or.inr (⟨z99, (Or.inr (⟨u102, ex101, ⟨fr101, i305101, pt101, rs101⟩, (Or.inr (⟨u114, ex113, ⟨fr113, i305113, i306113, i321113, i326113, i381113, pd113, pt113, plb113, po113, rs113⟩, (Or.inr (⟨z127, r131, ex129, r134, ex132, ⟨b132, e132⟩, (Or.inr (⟨z146, (Or.inl ⟨u9, hx9.2.2, rfl, rfl, rfl⟩)⟩))⟩))⟩))⟩))⟩))⟩))⟩)⟩)⟩⟩, ⟨rfl, by rw [ht9]; exact hP, hD⟩, hS.F ht9⟩) hS.2.2 (Nat.le_refl _) (Nat.le_refl _)
                refine W.shrink (hz8.trans hz9) ?_
                obtain ⟨fr149, ex149, i305149, i306149, i321149, i326149, i381149, pd149, pt149, plb149, po149, rs149⟩ := hw149
                have i305149 : 0 ≤ (u150.1 0 305).toInt ∧ (u150.1 0 305).toInt ≤ 1500 := i305149
                have i306149 : 0 ≤ (u150.1 0 306).toInt ∧ (u150.1 0 306).toInt ≤ 40 := i306149
                have i321149 : 0 ≤ (u150.1 0 321).toInt ∧ (u150.1 0 321).toInt ≤ 501 := i321149
                have i326149 : 0 ≤ (u150.1 0 326).toInt ∧ (u150.1 0 326).toInt ≤ 420 := i326149
                have i381149 : 0 ≤ (u150.1 0 381).toInt ∧ (u150.1 0 381).toInt ≤ 3008 := i381149
                have pd149 : (u150.1 0 381).toInt + (u150.1 0 326).toInt - 2 * (u150.1 0 305).toInt + (-1 - (1 : Int)) ≤ (u114.1 0 381).toInt + (u114.1 0 326).toInt - 2 * (u114.1 0 305).toInt := pd149
                have pt149 : (u114.1 0 305).toInt + 2 ≤ (u150.1 0 305).toInt := pt149
                have plb149 : (u114.1 0 317).toInt ≤ (u150.1 0 317).toInt ∧ (u150.1 0 317).toInt - 4 * (u150.1 0 305).toInt ≤ (u114.1 0 317).toInt - 4 * (u114.1 0 305).toInt + 0 := plb149
                have po149 : (u150.1 0 306).toInt = (u114.1 0 306).toInt := po149
                have rs149 : RS u114 u150 := rs149
                refine lv_iconst (v := 1) hx hb dX2_named_205 (by decide) ?_
                refine W.sz (fun hz => ?_)
                refine vx_ret ?_
                refine W.widen (k := 1) (n := 6) (Nat.le_of_ble_eq_true rfl) (Nat.le_of_ble_eq_true rfl) ?_
                exact W.zret (v := 1) hx hb hr rfl (fun t ht9 hW => ⟨⟨1, u150, rfl, ⟨(FC.tr (FC.tr (FC.tr (FC.rf _) (FC.up fr101 (by decide) (by decide))) (FC.up fr113 (by decide) (by decide))) (FC.up fr149 (by decide) (by decide))), ⟨z304, z305, z306, z312, z321, z326, z373, z381, zd, zlb, r3, ex1, r6, ex4, r9, ex7, c7, (Or.inl ⟨z11, z13, (Or.inl ⟨z15, r18, ex16, ⟨c16, d16⟩, (Or.inr (⟨z88, (Or.inr (⟨z99, (Or.inr (⟨u102, ex101, ⟨fr101, i305101, pt101, rs101⟩, (Or.inr (⟨u114, ex113, ⟨fr113, i305113, i306113, i321113, i326113, i381113, pd113, pt113, plb113, po113, rs113⟩, (Or.inr (⟨z127, r131, ex129, r134, ex132, ⟨b132, e132⟩, (Or.inr (⟨z146, (Or.inr (⟨u150, ex149, ⟨fr149, i305149, i306149, i321149, i326149, i381149, pd149, pt149, plb149, po149, rs149⟩, rfl, rfl, rfl⟩))⟩))⟩))⟩))⟩))⟩))⟩))⟩)⟩)⟩, (show 0 ≤ (u150.1 0 305).toInt ∧ (u150.1 0 305).toInt ≤ 1500 from (om_4c024736fb i305101 pt113 i305149 pt149)), (show 0 ≤ (u150.1 0 306).toInt ∧ (u150.1 0 306).toInt ≤ 40 from (om_7eaf33e007 i306149)), (show 0 ≤ (u150.1 0 321).toInt ∧ (u150.1 0 321).toInt ≤ 501 from (om_e1d35f5faf i321149)), (show 0 ≤ (u150.1 0 326).toInt ∧ (u150.1 0 326).toInt ≤ 420 from (om_839d7ed7dd i326149)), (show 0 ≤ (u150.1 0 381).toInt ∧ (u150.1 0 381).toInt ≤ 3008 from (om_47c7ea4719 zd q109 q111 pt101 pd113 i305149 i326149 i381149 pd149)), (show (u150.1 0 381).toInt + (u150.1 0 326).toInt - 2 * (u150.1 0 305).toInt + (1) ≤ (v.1 0 381).toInt + (v.1 0 326).toInt - 2 * (v.1 0 305).toInt from (om_7eb2e82a0c q109 q111 pt101 pd113 pd149)), (show (v.1 0 305).toInt + 1 ≤ (u150.1 0 305).toInt from (om_f81c97fcfd pt101 pt113 pt149)), (show (v.1 0 317).toInt ≤ (u150.1 0 317).toInt ∧ (u150.1 0 317).toInt - 4 * (u150.1 0 305).toInt ≤ (v.1 0 317).toInt - 4 * (v.1 0 305).toInt + 0 from (om_7d74887e57 q112 pt101 plb113 plb149)), (show (u150.1 0 306).toInt = (v.1 0 306).toInt from (om_698eb7995a q106 po113 po149)), (RS.tr (RS.tr (RS.tr RS.rf rs101) rs113) rs149), (Or.inr rfl)⟩, ⟨by rw [ht9]; exact hP, hD⟩, by rw [ht9]; exact hz⟩, hS.F ht9⟩) hS.2.2 dX2_named_206
      · have z152 : r3.toInt = (30 : Int) := eq_z rfl (show (30 : Int32).toInt = (30 : Int) by decide) h14
        refine lv_iload hx hb dX2_named_75 (lv_at hl 0 rfl) ?_
        refine lv_if_eq (tgt := 95) hx hb dX2_named_77 (by decide) (fun k153 => absurd k153 (by decide)) (fun _ => ?_)
        refine lv_aload_n hx hb dX2_named_80 rfl (lv_at hl 4 rfl) ?_
        refine va_get (D := (dC, dI)) (ci := 6) (fs := oF_X2 ad pr v) (v := .ref (ad 900)) (C := RX2) (T := TX2) (N := 5) hx hb ht itX2 hown hK hP 2 rfl rfl 0 (by decide) (ht _ tw_509) (fun _ h9 => h9) rfl dX2_named_81 ?_
        refine lv_iconst (v := 3) hx hb dX2_named_84 (by decide) ?_
        refine lv_aload_n hx hb dX2_named_85 rfl (lv_at hl 4 rfl) ?_
        refine va_get (D := (dC, dI)) (ci := 6) (fs := oF_X2 ad pr v) (v := .ref (ad 900)) (C := RX2) (T := TX2) (N := 5) hx hb ht itX2 hown hK hP 2 rfl rfl 0 (by decide) (ht _ tw_509) (fun _ h9 => h9) rfl dX2_named_86 ?_
        refine cu_i (rn_Vk (n := 0) (As := []) (rest := [.int 3, .ref (ad 900)]) hx hb hml hown ht hKK hFx hP hD hS hA (c_x_X9_place l dC dI cI cB cZ cJ cR tb H.size ad pr N L1 L2 v ps (show 0 ≤ (v.1 0 304).toInt ∧ (v.1 0 304).toInt ≤ 1503 from (om_c99648273b z304)) (show 0 ≤ (v.1 0 305).toInt ∧ (v.1 0 305).toInt ≤ 1500 from (om_7897b4ccef z305)) (show 0 ≤ (v.1 0 373).toInt ∧ (v.1 0 373).toInt ≤ 4000 from (om_c74a68af25 z373)) (show pr ps = ad 908 from hps) (show (v.1 0 300) = ps from es300)) tw_457 tw_510 (by decide +kernel) rfl rfl ⟨show 0 + 1 ≤ 8 * n + 15 from om_fce2c17b78, show 8 + (1 + 11) + 0 ≤ 28 * (8 * n + 15) from om_bca265e904⟩ (List.range (cW ad pr N cI cR L1 L2 v).length) (rg_map _) (nd_range _) 0 rfl rfl rfl rfl hl.1 rfl (Nat.le_of_ble_eq_true rfl) dX2_named_89 ⟨Nat.le_of_ble_eq_true rfl, Nat.le_of_ble_eq_true rfl⟩) hP hD hS hA (fun r156 u155 H locs hw154 hP hD hS => ?_)
        obtain ⟨rfl, ex154⟩ := hw154
        refine W.widen (k := 0) (n := 0) (Nat.le_refl _) (Nat.le_refl _) ?_
        refine W.sz (fun hz9 => ?_)
        refine czx_v (rx_Vk (n := 2) (As := [.int 3, .int r156]) (rest := []) hx hb hml hown ht hKK hFx hP hD hS hA (c_x_X9_refuse l dC dI cI cB cZ cJ cR tb H.size ad pr N L1 L2 v (3 : Int32) r156 (show l.stackTraces = false from hst) (show (3 : Int) ≠ 0 from om_59881768ad)) tw_459 tw_511 (by decide +kernel) rfl rfl ⟨show 6 + 1 ≤ 8 * n + 15 from om_838586afae, show 8 + (3 + 11) + 82 ≤ 28 * (8 * n + 15) from om_41a9d63453⟩ (List.range (cW ad pr N cI cR L1 L2 v).length) (rg_map _) (nd_range _) 0 rfl rfl rfl rfl hl.1 rfl (Nat.le_of_ble_eq_true rfl) dX2_named_92 ⟨Nat.le_of_ble_eq_true rfl, Nat.le_of_ble_eq_true rfl⟩) hP hD hS hA (fun u9 ce9 q9 H locs hx9 hP hD hS hc9 hv9 hf9 => ?_) (fun u158 H locs hw157 hP hD hS hz8 => ?_)
        · exact vx_out (fun x h9 => (hnt x h9).elim) hlocks hc9 hv9 hf9 (fun t9 ht9 hv8 => ⟨u9, ⟨FC.tr (FC.rf _) hx9.1, hx9.2.1, ⟨z304, z305, z306, z312, z321, z326, z373, z381, zd, zlb, r3, ex1, r6, ex4, r9, ex7, c7, (Or.inl ⟨z11, z13, (Or.inr (⟨z152, r156, ex154, u9, hx9.2.2, rfl, rfl, rfl⟩))⟩)⟩⟩, ⟨rfl, by rw [ht9]; exact hP, hD⟩, hS.F ht9⟩) hS.2.2 (Nat.le_refl _) (Nat.le_refl _)
        refine W.shrink (hz8.trans hz9) ?_
        obtain ⟨fr157, ex157, no157, rs157⟩ := hw157
        exact no157.elim
    · have z160 : r9.toInt = (-1 : Int) := eq_z rfl (show ((-1) : Int32).toInt = (-1 : Int) by decide) h12
      exact False.elim (om_7af79ecf53 c7 z11 z160)
  · have z161 : r9.toInt = (-1 : Int) := eq_z rfl (show ((-1) : Int32).toInt = (-1 : Int) by decide) h10
    refine lv_aload_n hx hb dX2_named_28 rfl (lv_at hl 2 rfl) ?_
    refine va_get (D := (dC, dI)) (ci := 6) (fs := oF_X2 ad pr v) (v := .ref (ad 901)) (C := RX2) (T := TX2) (N := 5) hx hb ht itX2 hown hK hP 2 rfl rfl 1 (by decide) (ht _ tw_498) (fun _ h9 => h9) rfl dX2_named_29 ?_
    refine va_getN (D := (dC, dI)) (ci := 5) (fs := oF_X1 ad pr v) (v := .ref (pr (v.1 0 310))) (C := RX1) (T := TX1) (N := 12) hx hb ht itX1 hown hK hP 1 rfl rfl 0 (by decide) (hKK.fl2 3 rfl) (fun _ h9 => h9) rfl dX2_named_32 ?_
    refine lv_aload_n hx hb dX2_named_35 rfl (lv_at hl 2 rfl) ?_
    refine va_get (D := (dC, dI)) (ci := 6) (fs := oF_X2 ad pr v) (v := .ref (ad 900)) (C := RX2) (T := TX2) (N := 5) hx hb ht itX2 hown hK hP 2 rfl rfl 0 (by decide) (ht _ tw_509) (fun _ h9 => h9) rfl dX2_named_36 ?_
    refine cu_i (rn_Vk (n := 0) (As := []) (rest := [.ref (pr (v.1 0 310))]) hx hb hml hown ht hKK hFx hP hD hS hA (c_x_X9_value l dC dI cI cB cZ cJ cR tb H.size ad pr N L1 L2 v  (show 0 ≤ (v.1 0 304).toInt ∧ (v.1 0 304).toInt ≤ 1503 from (om_c99648273b z304)) (show 0 ≤ (v.1 0 305).toInt ∧ (v.1 0 305).toInt ≤ 1500 from (om_7897b4ccef z305))) tw_535 tw_536 (by decide +kernel) rfl rfl ⟨show 0 + 1 ≤ 8 * n + 15 from om_fce2c17b78, show 8 + (1 + 11) + 0 ≤ 28 * (8 * n + 15) from om_bca265e904⟩ (List.range (cW ad pr N cI cR L1 L2 v).length) (rg_map _) (nd_range _) 0 rfl rfl rfl rfl hl.1 rfl (Nat.le_of_ble_eq_true rfl) dX2_named_39 ⟨Nat.le_of_ble_eq_true rfl, Nat.le_of_ble_eq_true rfl⟩) hP hD hS hA (fun r164 u163 H locs hw162 hP hD hS => ?_)
    obtain ⟨rfl, ex162⟩ := hw162
    refine W.widen (k := 0) (n := 0) (Nat.le_refl _) (Nat.le_refl _) ?_
    refine W.eq (g2 := F0 m 42 ls [.int r164, .ref (ad 908)]) (by rw [show pr (v.1 0 310) = (ad 908) from (by rw [show (v.1 0 310) = ps from es310]; exact hps)]) ?_
    refine cu_i (rn_Vk (n := 1) (As := [.int r164]) (rest := []) hx hb hml hown ht hKK hFx hP hD hS hA (c_x_X7_globalNamed l dC dI cI cB cZ cJ cR tb H.size ad pr N L1 L2 v r164 (show L1.length = 40 from hL1) (show L2.length = 60 from hL2) (show RP v from rp)) tw_553 tw_554 (by decide +kernel) rfl rfl ⟨show 1 + 1 ≤ 8 * n + 15 from om_60a3ad0423, show 8 + (3 + 11) + 22 ≤ 28 * (8 * n + 15) from om_c23f94bcd4⟩ (List.range (cW ad pr N cI cR L1 L2 v).length) (rg_map _) (nd_range _) 8 rfl rfl rfl rfl hl.1 rfl (Nat.le_of_ble_eq_true rfl) dX2_named_42 ⟨Nat.le_of_ble_eq_true rfl, Nat.le_of_ble_eq_true rfl⟩) hP hD hS hA (fun r167 u166 H locs hw165 hP hD hS => ?_)
    obtain ⟨rfl, ex165⟩ := hw165
    refine W.widen (k := 0) (n := 0) (Nat.le_refl _) (Nat.le_refl _) ?_
    refine lv_goto (tgt := 49) hx hb dX2_named_45 (by decide) ?_
    refine lv_istore (lv' := [(4, .int r167), (3, .int r9), (2, .int r3), (0, .ref (ad 902)), (1, .int pa)]) hx hb dX2_named_49 hl (by decide) rfl (fun ls hl => ?_)
    refine lv_iload_n hx hb dX2_named_51 rfl (lv_at hl 1 rfl) ?_
    refine lv_iconst (v := -1) hx hb dX2_named_52 (by decide) ?_
    refine lv_icmp_ne (tgt := 62) hx hb dX2_named_53 (by decide) (fun h168 => ?_) (fun h168 => ?_)
    · have z169 : r9.toInt ≠ (-1 : Int) := ne_z rfl (show ((-1) : Int32).toInt = (-1 : Int) by decide) h168
      exact False.elim (om_fb4a63dff4 c7 z161 z169)
    · have z170 : r9.toInt = (-1 : Int) := eq_z rfl (show ((-1) : Int32).toInt = (-1 : Int) by decide) h168
      refine lv_iload hx hb dX2_named_56 (lv_at hl 0 rfl) ?_
      refine lv_iconst (v := -1) hx hb dX2_named_58 (by decide) ?_
      refine lv_icmp_eq (tgt := 66) hx hb dX2_named_59 (by decide) (fun h171 => ?_) (fun h171 => ?_)
      · have z172 : r167.toInt = (-1 : Int) := eq_z rfl (show ((-1) : Int32).toInt = (-1 : Int) by decide) h171
        refine lv_iconst (v := 0) hx hb dX2_named_66 (by decide) ?_
        refine lv_istore (lv' := [(5, .int 0), (4, .int r167), (3, .int r9), (2, .int r3), (0, .ref (ad 902)), (1, .int pa)]) hx hb dX2_named_67 hl (by decide) rfl (fun ls hl => ?_)
        refine lv_iload_n hx hb dX2_named_69 rfl (lv_at hl 3 rfl) ?_
        refine lv_bipush (v := 30) hx hb dX2_named_70 (by decide) ?_
        refine lv_icmp_ne (tgt := 101) hx hb dX2_named_72 (by decide) (fun h173 => ?_) (fun h173 => ?_)
        · have z174 : r3.toInt ≠ (30 : Int) := ne_z rfl (show (30 : Int32).toInt = (30 : Int) by decide) h173
          refine lv_aload_n hx hb dX2_named_101 rfl (lv_at hl 4 rfl) ?_
          refine va_get (D := (dC, dI)) (ci := 6) (fs := oF_X2 ad pr v) (v := .ref (ad 901)) (C := RX2) (T := TX2) (N := 5) hx hb ht itX2 hown hK hP 2 rfl rfl 1 (by decide) (ht _ tw_498) (fun _ h9 => h9) rfl dX2_named_102 ?_
          refine va_getN (D := (dC, dI)) (ci := 5) (fs := oF_X1 ad pr v) (v := .ref (pr (v.1 0 310))) (C := RX1) (T := TX1) (N := 12) hx hb ht itX1 hown hK hP 1 rfl rfl 0 (by decide) (hKK.fl2 3 rfl) (fun _ h9 => h9) rfl dX2_named_105 ?_
          refine lv_iload hx hb dX2_named_108 (lv_at hl 1 rfl) ?_
          refine lv_iconst (v := 2) hx hb dX2_named_110 (by decide) ?_
          refine W.eq (g2 := F0 m 111 ls [.int 2, .int r167, .ref (ad 908)]) (by rw [show pr (v.1 0 310) = (ad 908) from (by rw [show (v.1 0 310) = ps from es310]; exact hps)]) ?_
          refine cu_i (rn_Vk (n := 2) (As := [.int r167, .int 2]) (rest := []) hx hb hml hown ht hKK hFx hP hD hS hA (c_x_X7_globalFact l dC dI cI cB cZ cJ cR tb H.size ad pr N L1 L2 v r167 (2 : Int32) (show L1.length = 40 from hL1) (show L2.length = 60 from hL2) (show RP v from rp)) tw_402 tw_546 (by decide +kernel) rfl rfl ⟨show 0 + 1 ≤ 8 * n + 15 from om_fce2c17b78, show 8 + (3 + 11) + 0 ≤ 28 * (8 * n + 15) from om_0eaa3b1b86⟩ (List.range (cW ad pr N cI cR L1 L2 v).length) (rg_map _) (nd_range _) 8 rfl rfl rfl rfl hl.1 rfl (Nat.le_of_ble_eq_true rfl) dX2_named_111 ⟨Nat.le_of_ble_eq_true rfl, Nat.le_of_ble_eq_true rfl⟩) hP hD hS hA (fun r177 u176 H locs hw175 hP hD hS => ?_)
          obtain ⟨rfl, ex175, c175, d175⟩ := hw175
          have c175 : ((2 : Int) ≠ 0 ∨ r177.toInt ≤ 1000) := c175
          refine W.widen (k := 0) (n := 0) (Nat.le_refl _) (Nat.le_refl _) ?_
          refine lv_iconst (v := 1) hx hb dX2_named_114 (by decide) ?_
          refine lv_icmp_ne (tgt := 122) hx hb dX2_named_115 (by decide) (fun h178 => ?_) (fun h178 => ?_)
          · have z179 : r177.toInt ≠ (1 : Int) := ne_z rfl (show (1 : Int32).toInt = (1 : Int) by decide) h178
            refine lv_iconst (v := 0) hx hb dX2_named_122 (by decide) ?_
            refine lv_istore (lv' := [(6, .int 0), (5, .int 0), (4, .int r167), (3, .int r9), (2, .int r3), (0, .ref (ad 902)), (1, .int pa)]) hx hb dX2_named_123 hl (by decide) rfl (fun ls hl => ?_)
            refine lv_iload hx hb dX2_named_125 (lv_at hl 1 rfl) ?_
            refine lv_if_eq (tgt := 146) hx hb dX2_named_127 (by decide) (fun _ => ?_) (fun k180 => absurd k180 (by decide))
            refine lv_aload_n hx hb dX2_named_146 rfl (lv_at hl 5 rfl) ?_
            refine va_get (D := (dC, dI)) (ci := 6) (fs := oF_X2 ad pr v) (v := .ref (ad 900)) (C := RX2) (T := TX2) (N := 5) hx hb ht itX2 hown hK hP 2 rfl rfl 0 (by decide) (ht _ tw_509) (fun _ h9 => h9) rfl dX2_named_147 ?_
            refine lv_iconst (v := 3) hx hb dX2_named_150 (by decide) ?_
            refine lv_aload_n hx hb dX2_named_151 rfl (lv_at hl 5 rfl) ?_
            refine va_get (D := (dC, dI)) (ci := 6) (fs := oF_X2 ad pr v) (v := .ref (ad 900)) (C := RX2) (T := TX2) (N := 5) hx hb ht itX2 hown hK hP 2 rfl rfl 0 (by decide) (ht _ tw_509) (fun _ h9 => h9) rfl dX2_named_152 ?_
            refine cu_i (rn_Vk (n := 0) (As := []) (rest := [.int 3, .ref (ad 900)]) hx hb hml hown ht hKK hFx hP hD hS hA (c_x_X9_place l dC dI cI cB cZ cJ cR tb H.size ad pr N L1 L2 v ps (show 0 ≤ (v.1 0 304).toInt ∧ (v.1 0 304).toInt ≤ 1503 from (om_c99648273b z304)) (show 0 ≤ (v.1 0 305).toInt ∧ (v.1 0 305).toInt ≤ 1500 from (om_7897b4ccef z305)) (show 0 ≤ (v.1 0 373).toInt ∧ (v.1 0 373).toInt ≤ 4000 from (om_c74a68af25 z373)) (show pr ps = ad 908 from hps) (show (v.1 0 300) = ps from es300)) tw_457 tw_510 (by decide +kernel) rfl rfl ⟨show 0 + 1 ≤ 8 * n + 15 from om_fce2c17b78, show 8 + (1 + 11) + 0 ≤ 28 * (8 * n + 15) from om_bca265e904⟩ (List.range (cW ad pr N cI cR L1 L2 v).length) (rg_map _) (nd_range _) 0 rfl rfl rfl rfl hl.1 rfl (Nat.le_of_ble_eq_true rfl) dX2_named_155 ⟨Nat.le_of_ble_eq_true rfl, Nat.le_of_ble_eq_true rfl⟩) hP hD hS hA (fun r183 u182 H locs hw181 hP hD hS => ?_)
            obtain ⟨rfl, ex181⟩ := hw181
            refine W.widen (k := 0) (n := 0) (Nat.le_refl _) (Nat.le_refl _) ?_
            refine W.sz (fun hz9 => ?_)
            refine czx_v (rx_Vk (n := 2) (As := [.int 3, .int r183]) (rest := []) hx hb hml hown ht hKK hFx hP hD hS hA (c_x_X9_refuse l dC dI cI cB cZ cJ cR tb H.size ad pr N L1 L2 v (3 : Int32) r183 (show l.stackTraces = false from hst) (show (3 : Int) ≠ 0 from om_59881768ad)) tw_459 tw_511 (by decide +kernel) rfl rfl ⟨show 6 + 1 ≤ 8 * n + 15 from om_838586afae, show 8 + (3 + 11) + 82 ≤ 28 * (8 * n + 15) from om_41a9d63453⟩ (List.range (cW ad pr N cI cR L1 L2 v).length) (rg_map _) (nd_range _) 0 rfl rfl rfl rfl hl.1 rfl (Nat.le_of_ble_eq_true rfl) dX2_named_158 ⟨Nat.le_of_ble_eq_true rfl, Nat.le_of_ble_eq_true rfl⟩) hP hD hS hA (fun u9 ce9 q9 H locs hx9 hP hD hS hc9 hv9 hf9 => ?_) (fun u185 H locs hw184 hP hD hS hz8 => ?_)
            · exact vx_out (fun x h9 => (hnt x h9).elim) hlocks hc9 hv9 hf9 (fun t9 ht9 hv8 => ⟨u9, ⟨FC.tr (FC.rf _) hx9.1, hx9.2.1, ⟨z304, z305, z306, z312, z321, z326, z373, z381, zd, zlb, r3, ex1, r6, ex4, r9, ex7, c7, (Or.inr (⟨z161, r164, ex162, r167, ex165, z170, (Or.inl ⟨z172, (Or.inl ⟨z174, r177, ex175, ⟨c175, d175⟩, (Or.inl ⟨z179, r183, ex181, u9, hx9.2.2, rfl, rfl, rfl⟩)⟩)⟩)⟩))⟩⟩, ⟨rfl, by rw [ht9]; exact hP, hD⟩, hS.F ht9⟩) hS.2.2 (Nat.le_refl _) (Nat.le_refl _)
            refine W.shrink (hz8.trans hz9) ?_
            obtain ⟨fr184, ex184, no184, rs184⟩ := hw184
            exact no184.elim
          · have z187 : r177.toInt = (1 : Int) := eq_z rfl (show (1 : Int32).toInt = (1 : Int) by decide) h178
            refine lv_iconst (v := 1) hx hb dX2_named_118 (by decide) ?_
            refine lv_goto (tgt := 123) hx hb dX2_named_119 (by decide) ?_
            refine lv_istore (lv' := [(6, .int 1), (5, .int 0), (4, .int r167), (3, .int r9), (2, .int r3), (0, .ref (ad 902)), (1, .int pa)]) hx hb dX2_named_123 hl (by decide) rfl (fun ls hl => ?_)
            refine lv_iload hx hb dX2_named_125 (lv_at hl 1 rfl) ?_
            refine lv_if_eq (tgt := 146) hx hb dX2_named_127 (by decide) (fun _ => ?_) (fun k188 => absurd k188 (by decide))
            refine lv_aload_n hx hb dX2_named_146 rfl (lv_at hl 5 rfl) ?_
            refine va_get (D := (dC, dI)) (ci := 6) (fs := oF_X2 ad pr v) (v := .ref (ad 900)) (C := RX2) (T := TX2) (N := 5) hx hb ht itX2 hown hK hP 2 rfl rfl 0 (by decide) (ht _ tw_509) (fun _ h9 => h9) rfl dX2_named_147 ?_
            refine lv_iconst (v := 3) hx hb dX2_named_150 (by decide) ?_
            refine lv_aload_n hx hb dX2_named_151 rfl (lv_at hl 5 rfl) ?_
            refine va_get (D := (dC, dI)) (ci := 6) (fs := oF_X2 ad pr v) (v := .ref (ad 900)) (C := RX2) (T := TX2) (N := 5) hx hb ht itX2 hown hK hP 2 rfl rfl 0 (by decide) (ht _ tw_509) (fun _ h9 => h9) rfl dX2_named_152 ?_
            refine cu_i (rn_Vk (n := 0) (As := []) (rest := [.int 3, .ref (ad 900)]) hx hb hml hown ht hKK hFx hP hD hS hA (c_x_X9_place l dC dI cI cB cZ cJ cR tb H.size ad pr N L1 L2 v ps (show 0 ≤ (v.1 0 304).toInt ∧ (v.1 0 304).toInt ≤ 1503 from (om_c99648273b z304)) (show 0 ≤ (v.1 0 305).toInt ∧ (v.1 0 305).toInt ≤ 1500 from (om_7897b4ccef z305)) (show 0 ≤ (v.1 0 373).toInt ∧ (v.1 0 373).toInt ≤ 4000 from (om_c74a68af25 z373)) (show pr ps = ad 908 from hps) (show (v.1 0 300) = ps from es300)) tw_457 tw_510 (by decide +kernel) rfl rfl ⟨show 0 + 1 ≤ 8 * n + 15 from om_fce2c17b78, show 8 + (1 + 11) + 0 ≤ 28 * (8 * n + 15) from om_bca265e904⟩ (List.range (cW ad pr N cI cR L1 L2 v).length) (rg_map _) (nd_range _) 0 rfl rfl rfl rfl hl.1 rfl (Nat.le_of_ble_eq_true rfl) dX2_named_155 ⟨Nat.le_of_ble_eq_true rfl, Nat.le_of_ble_eq_true rfl⟩) hP hD hS hA (fun r191 u190 H locs hw189 hP hD hS => ?_)
            obtain ⟨rfl, ex189⟩ := hw189
            refine W.widen (k := 0) (n := 0) (Nat.le_refl _) (Nat.le_refl _) ?_
            refine W.sz (fun hz9 => ?_)
            refine czx_v (rx_Vk (n := 2) (As := [.int 3, .int r191]) (rest := []) hx hb hml hown ht hKK hFx hP hD hS hA (c_x_X9_refuse l dC dI cI cB cZ cJ cR tb H.size ad pr N L1 L2 v (3 : Int32) r191 (show l.stackTraces = false from hst) (show (3 : Int) ≠ 0 from om_59881768ad)) tw_459 tw_511 (by decide +kernel) rfl rfl ⟨show 6 + 1 ≤ 8 * n + 15 from om_838586afae, show 8 + (3 + 11) + 82 ≤ 28 * (8 * n + 15) from om_41a9d63453⟩ (List.range (cW ad pr N cI cR L1 L2 v).length) (rg_map _) (nd_range _) 0 rfl rfl rfl rfl hl.1 rfl (Nat.le_of_ble_eq_true rfl) dX2_named_158 ⟨Nat.le_of_ble_eq_true rfl, Nat.le_of_ble_eq_true rfl⟩) hP hD hS hA (fun u9 ce9 q9 H locs hx9 hP hD hS hc9 hv9 hf9 => ?_) (fun u193 H locs hw192 hP hD hS hz8 => ?_)
            · exact vx_out (fun x h9 => (hnt x h9).elim) hlocks hc9 hv9 hf9 (fun t9 ht9 hv8 => ⟨u9, ⟨FC.tr (FC.rf _) hx9.1, hx9.2.1, ⟨z304, z305, z306, z312, z321, z326, z373, z381, zd, zlb, r3, ex1, r6, ex4, r9, ex7, c7, (Or.inr (⟨z161, r164, ex162, r167, ex165, z170, (Or.inl ⟨z172, (Or.inl ⟨z174, r177, ex175, ⟨c175, d175⟩, (Or.inr (⟨z187, r191, ex189, u9, hx9.2.2, rfl, rfl, rfl⟩))⟩)⟩)⟩))⟩⟩, ⟨rfl, by rw [ht9]; exact hP, hD⟩, hS.F ht9⟩) hS.2.2 (Nat.le_refl _) (Nat.le_refl _)
            refine W.shrink (hz8.trans hz9) ?_
            obtain ⟨fr192, ex192, no192, rs192⟩ := hw192
            exact no192.elim
        · have z195 : r3.toInt = (30 : Int) := eq_z rfl (show (30 : Int32).toInt = (30 : Int) by decide) h173
          refine lv_iload hx hb dX2_named_75 (lv_at hl 0 rfl) ?_
          refine lv_if_eq (tgt := 95) hx hb dX2_named_77 (by decide) (fun _ => ?_) (fun k196 => absurd k196 (by decide))
          refine lv_aload_n hx hb dX2_named_95 rfl (lv_at hl 4 rfl) ?_
          refine W.sz (fun hz9 => ?_)
          refine czx_v (rx_Vk (n := 0) (As := []) (rest := []) hx hb hml hown ht hKK hFx hP hD hS hA (c_x_X2_callFunction l n ihE dC dI cI cB cZ cJ cR tb H.size ad pr N L1 L2 v ps (show 0 ≤ (v.1 0 304).toInt ∧ (v.1 0 304).toInt ≤ 1503 from (om_c99648273b z304)) (show 0 ≤ (v.1 0 305).toInt ∧ (v.1 0 305).toInt ≤ 1500 from (om_7897b4ccef z305)) (show 0 ≤ (v.1 0 306).toInt ∧ (v.1 0 306).toInt ≤ 40 from (om_7eaf33e007 z306)) (show 0 ≤ (v.1 0 312).toInt ∧ (v.1 0 312).toInt ≤ 500 from (om_9861e69da5 z312)) (show 0 ≤ (v.1 0 321).toInt ∧ (v.1 0 321).toInt ≤ 501 from (om_e1d35f5faf z321)) (show 0 ≤ (v.1 0 326).toInt ∧ (v.1 0 326).toInt ≤ 420 from (om_839d7ed7dd z326)) (show 0 ≤ (v.1 0 373).toInt ∧ (v.1 0 373).toInt ≤ 4000 from (om_c74a68af25 z373)) (show 0 ≤ (v.1 0 381).toInt ∧ (v.1 0 381).toInt ≤ 3008 from (om_d5d375da37 z305 z326 z381 zd)) (show L1.length = 40 from hL1) (show L2.length = 60 from hL2) (show RP v from rp) (show pr ps = ad 908 from hps) (show (v.1 0 300) = ps from es300) (show (v.1 0 310) = ps from es310) (show l.stackTraces = false from hst) (show (v.1 0 381).toInt + (v.1 0 326).toInt - 2 * (v.1 0 305).toInt ≤ 0 from (om_53f6704e77 zd)) (show 0 ≤ (v.1 0 317).toInt ∧ (v.1 0 317).toInt - 4 * (v.1 0 305).toInt ≤ 8 from (om_8c45074a6a zlb)) (show 40 ≤ (v.1 0 306).toInt + (n : Int) from (om_a9150ae9b6 zn))) tw_555 tw_556 (by decide +kernel) rfl rfl ⟨show (8 * n + 14) + 1 ≤ 8 * n + 15 from om_c0c6541b93, show 8 + (5 + 11) + 28 * (8 * n + 14) ≤ 28 * (8 * n + 15) from om_4fd16bceab⟩ (List.range (cW ad pr N cI cR L1 L2 v).length) (rg_map _) (nd_range _) 2 rfl rfl rfl rfl hl.1 rfl (Nat.le_of_ble_eq_true rfl) dX2_named_96 ⟨Nat.le_of_ble_eq_true rfl, Nat.le_of_ble_eq_true rfl⟩) hP hD hS hA (fun u9 ce9 q9 H locs hx9 hP hD hS hc9 hv9 hf9 => ?_) (fun u198 H locs hw197 hP hD hS hz8 => ?_)
          · exact vx_out (fun x h9 => (hnt x h9).elim) hlocks hc9 hv9 hf9 (fun t9 ht9 hv8 => ⟨u9, ⟨FC.tr (FC.rf _) hx9.1, hx9.2.1, ⟨z304, z305, z306, z312, z321, z326, z373, z381, zd, zlb, r3, ex1, r6, ex4, r9, ex7, c7, (Or.inr (⟨z161, r164, ex162, r167, ex165, z170, (Or.inl ⟨z172, (Or.inr (⟨z195, (Or.inl ⟨u9, hx9.2.2, rfl, rfl, rfl⟩)⟩))⟩)⟩))⟩⟩, ⟨rfl, by rw [ht9]; exact hP, hD⟩, hS.F ht9⟩) hS.2.2 (Nat.le_refl _) (Nat.le_refl _)
          refine W.shrink (hz8.trans hz9) ?_
          obtain ⟨fr197, ex197, i305197, i306197, i321197, i326197, i381197, pd197, pt197, plb197, po197, rs197⟩ := hw197
          refine lv_iconst (v := 0) hx hb dX2_named_99 (by decide) ?_
          refine W.sz (fun hz => ?_)
          refine vx_ret ?_
          refine W.widen (k := 1) (n := 6) (Nat.le_of_ble_eq_true rfl) (Nat.le_of_ble_eq_true rfl) ?_
          exact W.zret (v := 0) hx hb hr rfl (fun t ht9 hW => ⟨⟨0, u198, rfl, ⟨(FC.tr (FC.rf _) (FC.up fr197 (by decide) (by decide))), ⟨z304, z305, z306, z312, z321, z326, z373, z381, zd, zlb, r3, ex1, r6, ex4, r9, ex7, c7, (Or.inr (⟨z161, r164, ex162, r167, ex165, z170, (Or.inl ⟨z172, (Or.inr (⟨z195, (Or.inr (⟨u198, ex197, ⟨fr197, i305197, i306197, i321197, i326197, i381197, pd197, pt197, plb197, po197, rs197⟩, rfl, rfl, rfl⟩))⟩))⟩)⟩))⟩, (show 0 ≤ (u198.1 0 305).toInt ∧ (u198.1 0 305).toInt ≤ 1500 from (om_92b6e2629b z305 i305197 pt197)), (show 0 ≤ (u198.1 0 306).toInt ∧ (u198.1 0 306).toInt ≤ 40 from (om_7eaf33e007 i306197)), (show 0 ≤ (u198.1 0 321).toInt ∧ (u198.1 0 321).toInt ≤ 501 from (om_e1d35f5faf i321197)), (show 0 ≤ (u198.1 0 326).toInt ∧ (u198.1 0 326).toInt ≤ 420 from (om_839d7ed7dd i326197)), (show 0 ≤ (u198.1 0 381).toInt ∧ (u198.1 0 381).toInt ≤ 3008 from (om_bd19145ecd zd i305197 i326197 i381197 pd197)), (show (u198.1 0 381).toInt + (u198.1 0 326).toInt - 2 * (u198.1 0 305).toInt + (1) ≤ (v.1 0 381).toInt + (v.1 0 326).toInt - 2 * (v.1 0 305).toInt from (om_e6426e9c4a pd197)), (show (v.1 0 305).toInt + 1 ≤ (u198.1 0 305).toInt from (om_f31c5bf719 pt197)), (show (v.1 0 317).toInt ≤ (u198.1 0 317).toInt ∧ (u198.1 0 317).toInt - 4 * (u198.1 0 305).toInt ≤ (v.1 0 317).toInt - 4 * (v.1 0 305).toInt + 0 from (om_53a6d658c3 plb197)), (show (u198.1 0 306).toInt = (v.1 0 306).toInt from (om_5049cbdce5 po197)), (RS.tr RS.rf rs197), (Or.inl rfl)⟩, ⟨by rw [ht9]; exact hP, hD⟩, by rw [ht9]; exact hz⟩, hS.F ht9⟩) hS.2.2 dX2_named_100
      · have z200 : r167.toInt ≠ (-1 : Int) := ne_z rfl (show ((-1) : Int32).toInt = (-1 : Int) by decide) h171
        refine lv_iconst (v := 1) hx hb dX2_named_62 (by decide) ?_
        refine lv_goto (tgt := 67) hx hb dX2_named_63 (by decide) ?_
        refine lv_istore (lv' := [(5, .int 1), (4, .int r167), (3, .int r9), (2, .int r3), (0, .ref (ad 902)), (1, .int pa)]) hx hb dX2_named_67 hl (by decide) rfl (fun ls hl => ?_)
        refine lv_iload_n hx hb dX2_named_69 rfl (lv_at hl 3 rfl) ?_
        refine lv_bipush (v := 30) hx hb dX2_named_70 (by decide) ?_
        refine lv_icmp_ne (tgt := 101) hx hb dX2_named_72 (by decide) (fun h201 => ?_) (fun h201 => ?_)
        · have z202 : r3.toInt ≠ (30 : Int) := ne_z rfl (show (30 : Int32).toInt = (30 : Int) by decide) h201
          refine lv_aload_n hx hb dX2_named_101 rfl (lv_at hl 4 rfl) ?_
          refine va_get (D := (dC, dI)) (ci := 6) (fs := oF_X2 ad pr v) (v := .ref (ad 901)) (C := RX2) (T := TX2) (N := 5) hx hb ht itX2 hown hK hP 2 rfl rfl 1 (by decide) (ht _ tw_498) (fun _ h9 => h9) rfl dX2_named_102 ?_
          refine va_getN (D := (dC, dI)) (ci := 5) (fs := oF_X1 ad pr v) (v := .ref (pr (v.1 0 310))) (C := RX1) (T := TX1) (N := 12) hx hb ht itX1 hown hK hP 1 rfl rfl 0 (by decide) (hKK.fl2 3 rfl) (fun _ h9 => h9) rfl dX2_named_105 ?_
          refine lv_iload hx hb dX2_named_108 (lv_at hl 1 rfl) ?_
          refine lv_iconst (v := 2) hx hb dX2_named_110 (by decide) ?_
          refine W.eq (g2 := F0 m 111 ls [.int 2, .int r167, .ref (ad 908)]) (by rw [show pr (v.1 0 310) = (ad 908) from (by rw [show (v.1 0 310) = ps from es310]; exact hps)]) ?_
          refine cu_i (rn_Vk (n := 2) (As := [.int r167, .int 2]) (rest := []) hx hb hml hown ht hKK hFx hP hD hS hA (c_x_X7_globalFact l dC dI cI cB cZ cJ cR tb H.size ad pr N L1 L2 v r167 (2 : Int32) (show L1.length = 40 from hL1) (show L2.length = 60 from hL2) (show RP v from rp)) tw_402 tw_546 (by decide +kernel) rfl rfl ⟨show 0 + 1 ≤ 8 * n + 15 from om_fce2c17b78, show 8 + (3 + 11) + 0 ≤ 28 * (8 * n + 15) from om_0eaa3b1b86⟩ (List.range (cW ad pr N cI cR L1 L2 v).length) (rg_map _) (nd_range _) 8 rfl rfl rfl rfl hl.1 rfl (Nat.le_of_ble_eq_true rfl) dX2_named_111 ⟨Nat.le_of_ble_eq_true rfl, Nat.le_of_ble_eq_true rfl⟩) hP hD hS hA (fun r205 u204 H locs hw203 hP hD hS => ?_)
          obtain ⟨rfl, ex203, c203, d203⟩ := hw203
          have c203 : ((2 : Int) ≠ 0 ∨ r205.toInt ≤ 1000) := c203
          refine W.widen (k := 0) (n := 0) (Nat.le_refl _) (Nat.le_refl _) ?_
          refine lv_iconst (v := 1) hx hb dX2_named_114 (by decide) ?_
          refine lv_icmp_ne (tgt := 122) hx hb dX2_named_115 (by decide) (fun h206 => ?_) (fun h206 => ?_)
          · have z207 : r205.toInt ≠ (1 : Int) := ne_z rfl (show (1 : Int32).toInt = (1 : Int) by decide) h206
            refine lv_iconst (v := 0) hx hb dX2_named_122 (by decide) ?_
            refine lv_istore (lv' := [(6, .int 0), (5, .int 1), (4, .int r167), (3, .int r9), (2, .int r3), (0, .ref (ad 902)), (1, .int pa)]) hx hb dX2_named_123 hl (by decide) rfl (fun ls hl => ?_)
            refine lv_iload hx hb dX2_named_125 (lv_at hl 1 rfl) ?_
            refine lv_if_eq (tgt := 146) hx hb dX2_named_127 (by decide) (fun k208 => absurd k208 (by decide)) (fun _ => ?_)
            refine lv_iload hx hb dX2_named_130 (lv_at hl 0 rfl) ?_
            refine lv_iload_n hx hb dX2_named_132 rfl (lv_at hl 4 rfl) ?_
            refine lv_bipush (v := 34) hx hb dX2_named_133 (by decide) ?_
            refine lv_icmp_ne (tgt := 142) hx hb dX2_named_135 (by decide) (fun h209 => ?_) (fun h209 => ?_)
            · have z210 : r3.toInt ≠ (34 : Int) := ne_z rfl (show (34 : Int32).toInt = (34 : Int) by decide) h209
              refine lv_iconst (v := 0) hx hb dX2_named_142 (by decide) ?_
              refine lv_icmp_eq (tgt := 161) hx hb dX2_named_143 (by decide) (fun _ => ?_) (fun k211 => absurd k211 (by decide))
              refine lv_aload_n hx hb dX2_named_161 rfl (lv_at hl 5 rfl) ?_
              refine va_get (D := (dC, dI)) (ci := 6) (fs := oF_X2 ad pr v) (v := .ref (ad 900)) (C := RX2) (T := TX2) (N := 5) hx hb ht itX2 hown hK hP 2 rfl rfl 0 (by decide) (ht _ tw_509) (fun _ h9 => h9) rfl dX2_named_162 ?_
              refine W.sz (fun hz9 => ?_)
              refine czx_v (rx_Vk (n := 0) (As := []) (rest := []) hx hb hml hown ht hKK hFx hP hD hS hA (c_x_X9_take l dC dI cI cB cZ cJ cR tb H.size ad pr N L1 L2 v ps (show 0 ≤ (v.1 0 304).toInt ∧ (v.1 0 304).toInt ≤ 1503 from (om_c99648273b z304)) (show 0 ≤ (v.1 0 305).toInt ∧ (v.1 0 305).toInt ≤ 1500 from (om_7897b4ccef z305)) (show 0 ≤ (v.1 0 373).toInt ∧ (v.1 0 373).toInt ≤ 4000 from (om_c74a68af25 z373)) (show pr ps = ad 908 from hps) (show (v.1 0 300) = ps from es300) (show l.stackTraces = false from hst)) tw_539 tw_540 (by decide +kernel) rfl rfl ⟨show 7 + 1 ≤ 8 * n + 15 from om_ec1f92c19e, show 8 + (1 + 11) + 104 ≤ 28 * (8 * n + 15) from om_9d5a13a74b⟩ (List.range (cW ad pr N cI cR L1 L2 v).length) (rg_map _) (nd_range _) 0 rfl rfl rfl rfl hl.1 rfl (Nat.le_of_ble_eq_true rfl) dX2_named_165 ⟨Nat.le_of_ble_eq_true rfl, Nat.le_of_ble_eq_true rfl⟩) hP hD hS hA (fun u9 ce9 q9 H locs hx9 hP hD hS hc9 hv9 hf9 => ?_) (fun u213 H locs hw212 hP hD hS hz8 => ?_)
              · exact vx_out (fun x h9 => (hnt x h9).elim) hlocks hc9 hv9 hf9 (fun t9 ht9 hv8 => ⟨u9, ⟨FC.tr (FC.rf _) hx9.1, hx9.2.1, ⟨z304, z305, z306, z312, z321, z326, z373, z381, zd, zlb, r3, ex1, r6, ex4, r9, ex7, c7, (Or.inr (⟨z161, r164, ex162, r167, ex165, z170, (Or.inr (⟨z200, (Or.inl ⟨z202, r205, ex203, ⟨c203, d203⟩, (Or.inl ⟨z207, (Or.inl ⟨z210, (Or.inl ⟨u9, hx9.2.2, rfl, rfl, rfl⟩)⟩)⟩)⟩)⟩))⟩))⟩⟩, ⟨rfl, by rw [ht9]; exact hP, hD⟩, hS.F ht9⟩) hS.2.2 (Nat.le_refl _) (Nat.le_refl _)
              refine W.shrink (hz8.trans hz9) ?_
              obtain ⟨fr212, ex212, i305212, pt212, rs212⟩ := hw212
              refine lv_iload hx hb dX2_named_168 (lv_at hl 0 rfl) ?_
              refine lv_if_eq (tgt := 179) hx hb dX2_named_170 (by decide) (fun _ => ?_) (fun k215 => absurd k215 (by decide))
              refine lv_iload_n hx hb dX2_named_179 rfl (lv_at hl 6 rfl) ?_
              refine lv_if_eq (tgt := 207) hx hb dX2_named_180 (by decide) (fun h216 => ?_) (fun h216 => ?_)
              · have z217 : pa.toInt = (0 : Int) := eq_z rfl (show (0 : Int32).toInt = (0 : Int) by decide) h216
                refine lv_iload hx hb dX2_named_207 (lv_at hl 0 rfl) ?_
                refine lv_if_eq (tgt := 227) hx hb dX2_named_209 (by decide) (fun _ => ?_) (fun k218 => absurd k218 (by decide))
                refine lv_aload_n hx hb dX2_named_227 rfl (lv_at hl 5 rfl) ?_
                refine lv_iload_n hx hb dX2_named_228 rfl (lv_at hl 3 rfl) ?_
                refine lv_iload hx hb dX2_named_229 (lv_at hl 2 rfl) ?_
                have q219 : (u213.1 0 326).toInt = (v.1 0 326).toInt := congrArg Int32.toInt ((fr212.2.1 326 (by decide)).trans (show v.1 0 326 = (v.1 0 326) by rfl))
                have q220 : (u213.1 0 381).toInt = (v.1 0 381).toInt := congrArg Int32.toInt ((fr212.2.1 381 (by decide)).trans (show v.1 0 381 = (v.1 0 381) by rfl))
                refine cu_v (rn_Vk (n := 2) (As := [.int r9, .int r167]) (rest := []) hx hb hml hown ht hKK hFx hP hD hS hA (c_x_X2_read l dC dI cI cB cZ cJ cR tb H.size ad pr N L1 L2 u213 r9 r167 ps (show 0 ≤ (u213.1 0 305).toInt ∧ (u213.1 0 305).toInt ≤ 1500 from (om_89213937cb z305 i305212 pt212)) (show 0 ≤ (u213.1 0 326).toInt ∧ (u213.1 0 326).toInt ≤ 420 from (om_8ed0dedb19 z326 q219)) (show 0 ≤ (u213.1 0 381).toInt ∧ (u213.1 0 381).toInt ≤ 3008 from (om_3d2979e731 z305 z326 z381 zd q220)) (show pr ps = ad 908 from hps) (show (u213.1 0 310) = ps from (Eq.trans (fr212.2.1 310 (by decide)) es310)) (show (u213.1 0 381).toInt + (u213.1 0 326).toInt - 2 * (u213.1 0 305).toInt ≤ 6 from (om_7b03affc19 zd q219 q220 pt212))) tw_522 tw_523 (by decide +kernel) rfl rfl ⟨show 1 + 1 ≤ 8 * n + 15 from om_60a3ad0423, show 8 + (3 + 11) + 24 ≤ 28 * (8 * n + 15) from om_82dcfb3396⟩ (List.range (cW ad pr N cI cR L1 L2 u213).length) (rg_map _) (nd_range _) 2 rfl rfl rfl rfl hl.1 rfl (Nat.le_of_ble_eq_true rfl) dX2_named_231 ⟨Nat.le_of_ble_eq_true rfl, Nat.le_of_ble_eq_true rfl⟩) hP hD hS hA (fun u222 H locs hw221 hP hD hS => ?_)
                obtain ⟨fr221, ex221, i381221, pd221, rs221⟩ := hw221
                have i381221 : 0 ≤ (u222.1 0 381).toInt ∧ (u222.1 0 381).toInt ≤ 3008 := i381221
                have pd221 : (u222.1 0 381).toInt + (u222.1 0 326).toInt - 2 * (u222.1 0 305).toInt + (-1) ≤ (u213.1 0 381).toInt + (u213.1 0 326).toInt - 2 * (u213.1 0 305).toInt := pd221
                have rs221 : RS u213 u222 := rs221
                refine W.widen (k := 0) (n := 0) (Nat.le_refl _) (Nat.le_refl _) ?_
                refine lv_iconst (v := 0) hx hb dX2_named_234 (by decide) ?_
                have q224 : (u222.1 0 305).toInt = (u213.1 0 305).toInt := congrArg Int32.toInt ((fr221.2.1 305 (by decide)).trans (show u213.1 0 305 = (u213.1 0 305) by rfl))
                have q225 : (u213.1 0 306).toInt = (v.1 0 306).toInt := congrArg Int32.toInt ((fr212.2.1 306 (by decide)).trans (show v.1 0 306 = (v.1 0 306) by rfl))
                have q226 : (u222.1 0 306).toInt = (u213.1 0 306).toInt := congrArg Int32.toInt ((fr221.2.1 306 (by decide)).trans (show u213.1 0 306 = (u213.1 0 306) by rfl))
                have q227 : (u213.1 0 321).toInt = (v.1 0 321).toInt := congrArg Int32.toInt ((fr212.2.1 321 (by decide)).trans (show v.1 0 321 = (v.1 0 321) by rfl))
                have q228 : (u222.1 0 321).toInt = (u213.1 0 321).toInt := congrArg Int32.toInt ((fr221.2.1 321 (by decide)).trans (show u213.1 0 321 = (u213.1 0 321) by rfl))
                have q229 : (u222.1 0 326).toInt = (u213.1 0 326).toInt := congrArg Int32.toInt ((fr221.2.1 326 (by decide)).trans (show u213.1 0 326 = (u213.1 0 326) by rfl))
                have q230 : (u213.1 0 317).toInt = (v.1 0 317).toInt := congrArg Int32.toInt ((fr212.2.1 317 (by decide)).trans (show v.1 0 317 = (v.1 0 317) by rfl))
                have q231 : (u222.1 0 317).toInt = (u213.1 0 317).toInt := congrArg Int32.toInt ((fr221.2.1 317 (by decide)).trans (show u213.1 0 317 = (u213.1 0 317) by rfl))
                refine W.sz (fun hz => ?_)
                refine vx_ret ?_
                refine W.widen (k := 1) (n := 6) (Nat.le_of_ble_eq_true rfl) (Nat.le_of_ble_eq_true rfl) ?_
                exact W.zret (v := 0) hx hb hr rfl (fun t ht9 hW => ⟨⟨0, u222, rfl, ⟨(FC.tr (FC.tr (FC.rf _) (FC.up fr212 (by decide) (by decide))) (FC.up fr221 (by decide) (by decide))), ⟨z304, z305, z306, z312, z321, z326, z373, z381, zd, zlb, r3, ex1, r6, ex4, r9, ex7, c7, (Or.inr (⟨z161, r164, ex162, r167, ex165, z170, (Or.inr (⟨z200, (Or.inl ⟨z202, r205, ex203, ⟨c203, d203⟩, (Or.inl ⟨z207, (Or.inl ⟨z210, (Or.inr (⟨u213, ex212, ⟨fr212, i305212, pt212, rs212⟩, (Or.inl ⟨z217, u222, ex221, ⟨fr221, i381221, pd221, rs221⟩, rfl, rfl, rfl⟩)⟩))⟩)⟩)⟩)⟩))⟩))⟩, (show 0 ≤ (u222.1 0 305).toInt ∧ (u222.1 0 305).toInt ≤ 1500 from (om_570f2378f1 z305 i305212 pt212 q224)), (show 0 ≤ (u222.1 0 306).toInt ∧ (u222.1 0 306).toInt ≤ 40 from (om_68f540929a z306 q225 q226)), (show 0 ≤ (u222.1 0 321).toInt ∧ (u222.1 0 321).toInt ≤ 501 from (om_4dfa815534 z321 q227 q228)), (show 0 ≤ (u222.1 0 326).toInt ∧ (u222.1 0 326).toInt ≤ 420 from (om_9591dea625 z326 q219 q229)), (show 0 ≤ (u222.1 0 381).toInt ∧ (u222.1 0 381).toInt ≤ 3008 from (om_e78eec72e1 i381221)), (show (u222.1 0 381).toInt + (u222.1 0 326).toInt - 2 * (u222.1 0 305).toInt + (1) ≤ (v.1 0 381).toInt + (v.1 0 326).toInt - 2 * (v.1 0 305).toInt from (om_488f1abd23 q219 q220 pt212 pd221)), (show (v.1 0 305).toInt + 1 ≤ (u222.1 0 305).toInt from (om_c67b42e814 pt212 q224)), (show (v.1 0 317).toInt ≤ (u222.1 0 317).toInt ∧ (u222.1 0 317).toInt - 4 * (u222.1 0 305).toInt ≤ (v.1 0 317).toInt - 4 * (v.1 0 305).toInt + 0 from (om_f06027329d q230 pt212 q224 q231)), (show (u222.1 0 306).toInt = (v.1 0 306).toInt from (om_837b7bd001 q225 q226)), (RS.tr (RS.tr RS.rf rs212) rs221), (Or.inl rfl)⟩, ⟨by rw [ht9]; exact hP, hD⟩, by rw [ht9]; exact hz⟩, hS.F ht9⟩) hS.2.2 dX2_named_235
              · have z232 : pa.toInt ≠ (0 : Int) := ne_z rfl (show (0 : Int32).toInt = (0 : Int) by decide) h216
                refine lv_aload_n hx hb dX2_named_183 rfl (lv_at hl 5 rfl) ?_
                refine va_get (D := (dC, dI)) (ci := 6) (fs := oF_X2 ad pr u213) (v := .ref (ad 900)) (C := RX2) (T := TX2) (N := 5) hx hb ht itX2 hown hK hP 2 rfl rfl 0 (by decide) (ht _ tw_509) (fun _ h9 => h9) rfl dX2_named_184 ?_
                have q233 : (u213.1 0 304).toInt = (v.1 0 304).toInt := congrArg Int32.toInt ((fr212.2.1 304 (by decide)).trans (show v.1 0 304 = (v.1 0 304) by rfl))
                refine cu_i (rn_Vk (n := 0) (As := []) (rest := []) hx hb hml hown ht hKK hFx hP hD hS hA (c_x_X9_kind l dC dI cI cB cZ cJ cR tb H.size ad pr N L1 L2 u213  (show 0 ≤ (u213.1 0 304).toInt ∧ (u213.1 0 304).toInt ≤ 1503 from (om_73002589c1 z304 q233)) (show 0 ≤ (u213.1 0 305).toInt ∧ (u213.1 0 305).toInt ≤ 1500 from (om_89213937cb z305 i305212 pt212))) tw_455 tw_532 (by decide +kernel) rfl rfl ⟨show 0 + 1 ≤ 8 * n + 15 from om_fce2c17b78, show 8 + (1 + 11) + 0 ≤ 28 * (8 * n + 15) from om_bca265e904⟩ (List.range (cW ad pr N cI cR L1 L2 u213).length) (rg_map _) (nd_range _) 0 rfl rfl rfl rfl hl.1 rfl (Nat.le_of_ble_eq_true rfl) dX2_named_187 ⟨Nat.le_of_ble_eq_true rfl, Nat.le_of_ble_eq_true rfl⟩) hP hD hS hA (fun r236 u235 H locs hw234 hP hD hS => ?_)
                obtain ⟨rfl, ex234⟩ := hw234
                refine W.widen (k := 0) (n := 0) (Nat.le_refl _) (Nat.le_refl _) ?_
                refine cu_s (nd_range _) (rn_S (n := 1) (As := [.int r236]) (rest := []) hx hb hml hown ht hKK hFx hP hD hS hA (c_x_X9_isSet l dC dI cI cB cZ cJ cR tb H.size r236 ) tw_547 tw_548 (by decide +kernel) rfl rfl ⟨show 0 + 1 ≤ 8 * n + 15 from om_fce2c17b78, show 8 + (1 + 11) + 0 ≤ 28 * (8 * n + 15) from om_bca265e904⟩ [] rfl rfl rfl hl.1 rfl (Nat.le_of_ble_eq_true rfl) dX2_named_190 ⟨Nat.le_of_ble_eq_true rfl, Nat.le_of_ble_eq_true rfl⟩) hP hD hS hA (fun r239 H locs hw237 hP hD hS => ?_)
                obtain ⟨ex237, b237, e237⟩ := hw237
                have b237 : (r239 = 0 ∨ r239 = 1) := b237
                have e237 : (0 ≤ r239.toInt ∧ r239.toInt ≤ 1) := e237
                refine W.widen (k := 0) (n := 0) (Nat.le_refl _) (Nat.le_refl _) ?_
                refine lv_if_eq (tgt := 207) hx hb dX2_named_193 (by decide) (fun h240 => ?_) (fun h240 => ?_)
                · have z241 : r239.toInt = (0 : Int) := eq_z rfl (show (0 : Int32).toInt = (0 : Int) by decide) h240
                  refine lv_iload hx hb dX2_named_207 (lv_at hl 0 rfl) ?_
                  refine lv_if_eq (tgt := 227) hx hb dX2_named_209 (by decide) (fun _ => ?_) (fun k242 => absurd k242 (by decide))
                  refine lv_aload_n hx hb dX2_named_227 rfl (lv_at hl 5 rfl) ?_
                  refine lv_iload_n hx hb dX2_named_228 rfl (lv_at hl 3 rfl) ?_
                  refine lv_iload hx hb dX2_named_229 (lv_at hl 2 rfl) ?_
                  have q243 : (u213.1 0 326).toInt = (v.1 0 326).toInt := congrArg Int32.toInt ((fr212.2.1 326 (by decide)).trans (show v.1 0 326 = (v.1 0 326) by rfl))
                  have q244 : (u213.1 0 381).toInt = (v.1 0 381).toInt := congrArg Int32.toInt ((fr212.2.1 381 (by decide)).trans (show v.1 0 381 = (v.1 0 381) by rfl))
                  refine cu_v (rn_Vk (n := 2) (As := [.int r9, .int r167]) (rest := []) hx hb hml hown ht hKK hFx hP hD hS hA (c_x_X2_read l dC dI cI cB cZ cJ cR tb H.size ad pr N L1 L2 u213 r9 r167 ps (show 0 ≤ (u213.1 0 305).toInt ∧ (u213.1 0 305).toInt ≤ 1500 from (om_89213937cb z305 i305212 pt212)) (show 0 ≤ (u213.1 0 326).toInt ∧ (u213.1 0 326).toInt ≤ 420 from (om_8ed0dedb19 z326 q243)) (show 0 ≤ (u213.1 0 381).toInt ∧ (u213.1 0 381).toInt ≤ 3008 from (om_3d2979e731 z305 z326 z381 zd q244)) (show pr ps = ad 908 from hps) (show (u213.1 0 310) = ps from (Eq.trans (fr212.2.1 310 (by decide)) es310)) (show (u213.1 0 381).toInt + (u213.1 0 326).toInt - 2 * (u213.1 0 305).toInt ≤ 6 from (om_7b03affc19 zd q243 q244 pt212))) tw_522 tw_523 (by decide +kernel) rfl rfl ⟨show 1 + 1 ≤ 8 * n + 15 from om_60a3ad0423, show 8 + (3 + 11) + 24 ≤ 28 * (8 * n + 15) from om_82dcfb3396⟩ (List.range (cW ad pr N cI cR L1 L2 u213).length) (rg_map _) (nd_range _) 2 rfl rfl rfl rfl hl.1 rfl (Nat.le_of_ble_eq_true rfl) dX2_named_231 ⟨Nat.le_of_ble_eq_true rfl, Nat.le_of_ble_eq_true rfl⟩) hP hD hS hA (fun u246 H locs hw245 hP hD hS => ?_)
                  obtain ⟨fr245, ex245, i381245, pd245, rs245⟩ := hw245
                  have i381245 : 0 ≤ (u246.1 0 381).toInt ∧ (u246.1 0 381).toInt ≤ 3008 := i381245
                  have pd245 : (u246.1 0 381).toInt + (u246.1 0 326).toInt - 2 * (u246.1 0 305).toInt + (-1) ≤ (u213.1 0 381).toInt + (u213.1 0 326).toInt - 2 * (u213.1 0 305).toInt := pd245
                  have rs245 : RS u213 u246 := rs245
                  refine W.widen (k := 0) (n := 0) (Nat.le_refl _) (Nat.le_refl _) ?_
                  refine lv_iconst (v := 0) hx hb dX2_named_234 (by decide) ?_
                  have q248 : (u246.1 0 305).toInt = (u213.1 0 305).toInt := congrArg Int32.toInt ((fr245.2.1 305 (by decide)).trans (show u213.1 0 305 = (u213.1 0 305) by rfl))
                  have q249 : (u213.1 0 306).toInt = (v.1 0 306).toInt := congrArg Int32.toInt ((fr212.2.1 306 (by decide)).trans (show v.1 0 306 = (v.1 0 306) by rfl))
                  have q250 : (u246.1 0 306).toInt = (u213.1 0 306).toInt := congrArg Int32.toInt ((fr245.2.1 306 (by decide)).trans (show u213.1 0 306 = (u213.1 0 306) by rfl))
                  have q251 : (u213.1 0 321).toInt = (v.1 0 321).toInt := congrArg Int32.toInt ((fr212.2.1 321 (by decide)).trans (show v.1 0 321 = (v.1 0 321) by rfl))
                  have q252 : (u246.1 0 321).toInt = (u213.1 0 321).toInt := congrArg Int32.toInt ((fr245.2.1 321 (by decide)).trans (show u213.1 0 321 = (u213.1 0 321) by rfl))
                  have q253 : (u246.1 0 326).toInt = (u213.1 0 326).toInt := congrArg Int32.toInt ((fr245.2.1 326 (by decide)).trans (show u213.1 0 326 = (u213.1 0 326) by rfl))
                  have q254 : (u213.1 0 317).toInt = (v.1 0 317).toInt := congrArg Int32.toInt ((fr212.2.1 317 (by decide)).trans (show v.1 0 317 = (v.1 0 317) by rfl))
                  have q255 : (u246.1 0 317).toInt = (u213.1 0 317).toInt := congrArg Int32.toInt ((fr245.2.1 317 (by decide)).trans (show u213.1 0 317 = (u213.1 0 317) by rfl))
                  refine W.sz (fun hz => ?_)
                  refine vx_ret ?_
                  refine W.widen (k := 1) (n := 6) (Nat.le_of_ble_eq_true rfl) (Nat.le_of_ble_eq_true rfl) ?_
                  exact W.zret (v := 0) hx hb hr rfl (fun t ht9 hW => ⟨⟨0, u246, rfl, ⟨(FC.tr (FC.tr (FC.rf _) (FC.up fr212 (by decide) (by decide))) (FC.up fr245 (by decide) (by decide))), ⟨z304, z305, z306, z312, z321, z326, z373, z381, zd, zlb, r3, ex1, r6, ex4, r9, ex7, c7, (Or.inr (⟨z161, r164, ex162, r167, ex165, z170, (Or.inr (⟨z200, (Or.inl ⟨z202, r205, ex203, ⟨c203, d203⟩, (Or.inl ⟨z207, (Or.inl ⟨z210, (Or.inr (⟨u213, ex212, ⟨fr212, i305212, pt212, rs212⟩, (Or.inr (⟨z232, r236, ex234, r239, ex237, ⟨b237, e237⟩, (Or.inl ⟨z241, u246, ex245, ⟨fr245, i381245, pd245, rs245⟩, rfl, rfl, rfl⟩)⟩))⟩))⟩)⟩)⟩)⟩))⟩))⟩, (show 0 ≤ (u246.1 0 305).toInt ∧ (u246.1 0 305).toInt ≤ 1500 from (om_570f2378f1 z305 i305212 pt212 q248)), (show 0 ≤ (u246.1 0 306).toInt ∧ (u246.1 0 306).toInt ≤ 40 from (om_68f540929a z306 q249 q250)), (show 0 ≤ (u246.1 0 321).toInt ∧ (u246.1 0 321).toInt ≤ 501 from (om_4dfa815534 z321 q251 q252)), (show 0 ≤ (u246.1 0 326).toInt ∧ (u246.1 0 326).toInt ≤ 420 from (om_9591dea625 z326 q243 q253)), (show 0 ≤ (u246.1 0 381).toInt ∧ (u246.1 0 381).toInt ≤ 3008 from (om_e78eec72e1 i381245)), (show (u246.1 0 381).toInt + (u246.1 0 326).toInt - 2 * (u246.1 0 305).toInt + (1) ≤ (v.1 0 381).toInt + (v.1 0 326).toInt - 2 * (v.1 0 305).toInt from (om_488f1abd23 q243 q244 pt212 pd245)), (show (v.1 0 305).toInt + 1 ≤ (u246.1 0 305).toInt from (om_c67b42e814 pt212 q248)), (show (v.1 0 317).toInt ≤ (u246.1 0 317).toInt ∧ (u246.1 0 317).toInt - 4 * (u246.1 0 305).toInt ≤ (v.1 0 317).toInt - 4 * (v.1 0 305).toInt + 0 from (om_f06027329d q254 pt212 q248 q255)), (show (u246.1 0 306).toInt = (v.1 0 306).toInt from (om_837b7bd001 q249 q250)), (RS.tr (RS.tr RS.rf rs212) rs245), (Or.inl rfl)⟩, ⟨by rw [ht9]; exact hP, hD⟩, by rw [ht9]; exact hz⟩, hS.F ht9⟩) hS.2.2 dX2_named_235
                · have z256 : r239.toInt ≠ (0 : Int) := ne_z rfl (show (0 : Int32).toInt = (0 : Int) by decide) h240
                  refine lv_aload_n hx hb dX2_named_196 rfl (lv_at hl 5 rfl) ?_
                  refine lv_iload_n hx hb dX2_named_197 rfl (lv_at hl 3 rfl) ?_
                  refine lv_iload hx hb dX2_named_198 (lv_at hl 2 rfl) ?_
                  refine lv_iload hx hb dX2_named_200 (lv_at hl 0 rfl) ?_
                  have q257 : (u213.1 0 306).toInt = (v.1 0 306).toInt := congrArg Int32.toInt ((fr212.2.1 306 (by decide)).trans (show v.1 0 306 = (v.1 0 306) by rfl))
                  have q258 : (u213.1 0 312).toInt = (v.1 0 312).toInt := congrArg Int32.toInt ((fr212.2.1 312 (by decide)).trans (show v.1 0 312 = (v.1 0 312) by rfl))
                  have q259 : (u213.1 0 321).toInt = (v.1 0 321).toInt := congrArg Int32.toInt ((fr212.2.1 321 (by decide)).trans (show v.1 0 321 = (v.1 0 321) by rfl))
                  have q260 : (u213.1 0 326).toInt = (v.1 0 326).toInt := congrArg Int32.toInt ((fr212.2.1 326 (by decide)).trans (show v.1 0 326 = (v.1 0 326) by rfl))
                  have q261 : (u213.1 0 373).toInt = (v.1 0 373).toInt := congrArg Int32.toInt ((fr212.2.1 373 (by decide)).trans (show v.1 0 373 = (v.1 0 373) by rfl))
                  have q262 : (u213.1 0 381).toInt = (v.1 0 381).toInt := congrArg Int32.toInt ((fr212.2.1 381 (by decide)).trans (show v.1 0 381 = (v.1 0 381) by rfl))
                  have q263 : (u213.1 0 317).toInt = (v.1 0 317).toInt := congrArg Int32.toInt ((fr212.2.1 317 (by decide)).trans (show v.1 0 317 = (v.1 0 317) by rfl))
                  refine W.sz (fun hz9 => ?_)
                  refine czx_v (rx_Vk (n := 3) (As := [.int r9, .int r167, .int 0]) (rest := []) hx hb hml hown ht hKK hFx hP hD hS hA (c_x_X2_change l n ihE dC dI cI cB cZ cJ cR tb H.size ad pr N L1 L2 u213 r9 r167 (0 : Int32) ps (show 0 ≤ (u213.1 0 304).toInt ∧ (u213.1 0 304).toInt ≤ 1503 from (om_73002589c1 z304 q233)) (show 0 ≤ (u213.1 0 305).toInt ∧ (u213.1 0 305).toInt ≤ 1500 from (om_89213937cb z305 i305212 pt212)) (show 0 ≤ (u213.1 0 306).toInt ∧ (u213.1 0 306).toInt ≤ 40 from (om_99e115f631 z306 q257)) (show 0 ≤ (u213.1 0 312).toInt ∧ (u213.1 0 312).toInt ≤ 500 from (om_f8376ff89c z312 q258)) (show 0 ≤ (u213.1 0 321).toInt ∧ (u213.1 0 321).toInt ≤ 501 from (om_ff27494c0e z321 q259)) (show 0 ≤ (u213.1 0 326).toInt ∧ (u213.1 0 326).toInt ≤ 420 from (om_8ed0dedb19 z326 q260)) (show 0 ≤ (u213.1 0 373).toInt ∧ (u213.1 0 373).toInt ≤ 4000 from (om_9084c127ed z373 q261)) (show 0 ≤ (u213.1 0 381).toInt ∧ (u213.1 0 381).toInt ≤ 3008 from (om_3d2979e731 z305 z326 z381 zd q262)) (show L1.length = 40 from hL1) (show L2.length = 60 from hL2) (show RP u213 from ((show FC [305, 306, 307, 314, 315, 317, 321, 326, 381] [0, 316, 318, 319, 320, 324, 325, 378, 379, 380] v u213 from (FC.tr (FC.rf _) (FC.up fr212 (by decide) (by decide)))).1 rp)) (show pr ps = ad 908 from hps) (show (u213.1 0 300) = ps from (Eq.trans (fr212.2.1 300 (by decide)) es300)) (show (u213.1 0 310) = ps from (Eq.trans (fr212.2.1 310 (by decide)) es310)) (show l.stackTraces = false from hst) (show (u213.1 0 381).toInt + (u213.1 0 326).toInt - 2 * (u213.1 0 305).toInt ≤ -2 from (om_7cd3452ef7 zd q260 q262 pt212)) (show 0 ≤ (u213.1 0 317).toInt ∧ (u213.1 0 317).toInt - 4 * (u213.1 0 305).toInt ≤ 8 from (om_acd7fdc17b zlb q263 pt212)) (show 40 ≤ (u213.1 0 306).toInt + (n : Int) from (om_2d3a9cf1da zn q257)) (show 0 ≤ (0 : Int) ∧ (0 : Int) ≤ 1 from om_0b187384ea)) tw_549 tw_550 (by decide +kernel) rfl rfl ⟨show (8 * n + 14) + 1 ≤ 8 * n + 15 from om_c0c6541b93, show 8 + (7 + 11) + 28 * (8 * n + 14) ≤ 28 * (8 * n + 15) from om_fb93e872bb⟩ (List.range (cW ad pr N cI cR L1 L2 u213).length) (rg_map _) (nd_range _) 2 rfl rfl rfl rfl hl.1 rfl (Nat.le_of_ble_eq_true rfl) dX2_named_202 ⟨Nat.le_of_ble_eq_true rfl, Nat.le_of_ble_eq_true rfl⟩) hP hD hS hA (fun u9 ce9 q9 H locs hx9 hP hD hS hc9 hv9 hf9 => ?_) (fun u265 H locs hw264 hP hD hS hz8 => ?_)
                  · exact vx_out (fun x h9 => (hnt x h9).elim) hlocks hc9 hv9 hf9 (fun t9 ht9 hv8 => ⟨u9, ⟨FC.tr (FC.tr (FC.rf _) (FC.up fr212 (by decide) (by decide))) hx9.1, hx9.2.1, ⟨z304, z305, z306, z312, z321, z326, z373, z381, zd, zlb, r3, ex1, r6, ex4, r9, ex7, c7, (Or.inr (⟨z161, r164, ex162, r167, ex165, z170, (Or.inr (⟨z200, (Or.inl ⟨z202, r205, ex203, ⟨c203, d203⟩, (Or.inl ⟨z207, (Or.inl ⟨z210, (Or.inr (⟨u213, ex212, ⟨fr212, i305212, pt212, rs212⟩, (Or.inr (⟨z232, r236, ex234, r239, ex237, ⟨b237, e237⟩, (Or.inr (⟨z256, (Or.inl ⟨u9, hx9.2.2, rfl, rfl, rfl⟩)⟩))⟩))⟩))⟩)⟩)⟩)⟩))⟩))⟩⟩, ⟨rfl, by rw [ht9]; exact hP, hD⟩, hS.F ht9⟩) hS.2.2 (Nat.le_refl _) (Nat.le_refl _)
                  refine W.shrink (hz8.trans hz9) ?_
                  obtain ⟨fr264, ex264, i305264, i306264, i321264, i326264, i381264, pd264, pt264, plb264, po264, rs264⟩ := hw264
                  have i305264 : 0 ≤ (u265.1 0 305).toInt ∧ (u265.1 0 305).toInt ≤ 1500 := i305264
                  have i306264 : 0 ≤ (u265.1 0 306).toInt ∧ (u265.1 0 306).toInt ≤ 40 := i306264
                  have i321264 : 0 ≤ (u265.1 0 321).toInt ∧ (u265.1 0 321).toInt ≤ 501 := i321264
                  have i326264 : 0 ≤ (u265.1 0 326).toInt ∧ (u265.1 0 326).toInt ≤ 420 := i326264
                  have i381264 : 0 ≤ (u265.1 0 381).toInt ∧ (u265.1 0 381).toInt ≤ 3008 := i381264
                  have pd264 : (u265.1 0 381).toInt + (u265.1 0 326).toInt - 2 * (u265.1 0 305).toInt + (-1 - (0 : Int)) ≤ (u213.1 0 381).toInt + (u213.1 0 326).toInt - 2 * (u213.1 0 305).toInt := pd264
                  have pt264 : (u213.1 0 305).toInt + 2 ≤ (u265.1 0 305).toInt := pt264
                  have plb264 : (u213.1 0 317).toInt ≤ (u265.1 0 317).toInt ∧ (u265.1 0 317).toInt - 4 * (u265.1 0 305).toInt ≤ (u213.1 0 317).toInt - 4 * (u213.1 0 305).toInt + 0 := plb264
                  have po264 : (u265.1 0 306).toInt = (u213.1 0 306).toInt := po264
                  have rs264 : RS u213 u265 := rs264
                  refine lv_iconst (v := 1) hx hb dX2_named_205 (by decide) ?_
                  refine W.sz (fun hz => ?_)
                  refine vx_ret ?_
                  refine W.widen (k := 1) (n := 6) (Nat.le_of_ble_eq_true rfl) (Nat.le_of_ble_eq_true rfl) ?_
                  exact W.zret (v := 1) hx hb hr rfl (fun t ht9 hW => ⟨⟨1, u265, rfl, ⟨(FC.tr (FC.tr (FC.rf _) (FC.up fr212 (by decide) (by decide))) (FC.up fr264 (by decide) (by decide))), ⟨z304, z305, z306, z312, z321, z326, z373, z381, zd, zlb, r3, ex1, r6, ex4, r9, ex7, c7, (Or.inr (⟨z161, r164, ex162, r167, ex165, z170, (Or.inr (⟨z200, (Or.inl ⟨z202, r205, ex203, ⟨c203, d203⟩, (Or.inl ⟨z207, (Or.inl ⟨z210, (Or.inr (⟨u213, ex212, ⟨fr212, i305212, pt212, rs212⟩, (Or.inr (⟨z232, r236, ex234, r239, ex237, ⟨b237, e237⟩, (Or.inr (⟨z256, (Or.inr (⟨u265, ex264, ⟨fr264, i305264, i306264, i321264, i326264, i381264, pd264, pt264, plb264, po264, rs264⟩, rfl, rfl, rfl⟩))⟩))⟩))⟩))⟩)⟩)⟩)⟩))⟩))⟩, (show 0 ≤ (u265.1 0 305).toInt ∧ (u265.1 0 305).toInt ≤ 1500 from (om_26d9e457ca i305212 i305264 pt264)), (show 0 ≤ (u265.1 0 306).toInt ∧ (u265.1 0 306).toInt ≤ 40 from (om_7eaf33e007 i306264)), (show 0 ≤ (u265.1 0 321).toInt ∧ (u265.1 0 321).toInt ≤ 501 from (om_e1d35f5faf i321264)), (show 0 ≤ (u265.1 0 326).toInt ∧ (u265.1 0 326).toInt ≤ 420 from (om_839d7ed7dd i326264)), (show 0 ≤ (u265.1 0 381).toInt ∧ (u265.1 0 381).toInt ≤ 3008 from (om_f321cbe231 zd q260 q262 pt212 i305264 i326264 i381264 pd264)), (show (u265.1 0 381).toInt + (u265.1 0 326).toInt - 2 * (u265.1 0 305).toInt + (1) ≤ (v.1 0 381).toInt + (v.1 0 326).toInt - 2 * (v.1 0 305).toInt from (om_9e98ca684f q260 q262 pt212 pd264)), (show (v.1 0 305).toInt + 1 ≤ (u265.1 0 305).toInt from (om_999763a006 pt212 pt264)), (show (v.1 0 317).toInt ≤ (u265.1 0 317).toInt ∧ (u265.1 0 317).toInt - 4 * (u265.1 0 305).toInt ≤ (v.1 0 317).toInt - 4 * (v.1 0 305).toInt + 0 from (om_86ed8a939d q263 pt212 plb264)), (show (u265.1 0 306).toInt = (v.1 0 306).toInt from (om_837b7bd001 q257 po264)), (RS.tr (RS.tr RS.rf rs212) rs264), (Or.inr rfl)⟩, ⟨by rw [ht9]; exact hP, hD⟩, by rw [ht9]; exact hz⟩, hS.F ht9⟩) hS.2.2 dX2_named_206
            · have z267 : r3.toInt = (34 : Int) := eq_z rfl (show (34 : Int32).toInt = (34 : Int) by decide) h209
              refine lv_iconst (v := 1) hx hb dX2_named_138 (by decide) ?_
              refine lv_goto (tgt := 143) hx hb dX2_named_139 (by decide) ?_
              refine lv_icmp_eq (tgt := 161) hx hb dX2_named_143 (by decide) (fun k268 => absurd k268 (by decide)) (fun _ => ?_)
              refine lv_aload_n hx hb dX2_named_146 rfl (lv_at hl 5 rfl) ?_
              refine va_get (D := (dC, dI)) (ci := 6) (fs := oF_X2 ad pr v) (v := .ref (ad 900)) (C := RX2) (T := TX2) (N := 5) hx hb ht itX2 hown hK hP 2 rfl rfl 0 (by decide) (ht _ tw_509) (fun _ h9 => h9) rfl dX2_named_147 ?_
              refine lv_iconst (v := 3) hx hb dX2_named_150 (by decide) ?_
              refine lv_aload_n hx hb dX2_named_151 rfl (lv_at hl 5 rfl) ?_
              refine va_get (D := (dC, dI)) (ci := 6) (fs := oF_X2 ad pr v) (v := .ref (ad 900)) (C := RX2) (T := TX2) (N := 5) hx hb ht itX2 hown hK hP 2 rfl rfl 0 (by decide) (ht _ tw_509) (fun _ h9 => h9) rfl dX2_named_152 ?_
              refine cu_i (rn_Vk (n := 0) (As := []) (rest := [.int 3, .ref (ad 900)]) hx hb hml hown ht hKK hFx hP hD hS hA (c_x_X9_place l dC dI cI cB cZ cJ cR tb H.size ad pr N L1 L2 v ps (show 0 ≤ (v.1 0 304).toInt ∧ (v.1 0 304).toInt ≤ 1503 from (om_c99648273b z304)) (show 0 ≤ (v.1 0 305).toInt ∧ (v.1 0 305).toInt ≤ 1500 from (om_7897b4ccef z305)) (show 0 ≤ (v.1 0 373).toInt ∧ (v.1 0 373).toInt ≤ 4000 from (om_c74a68af25 z373)) (show pr ps = ad 908 from hps) (show (v.1 0 300) = ps from es300)) tw_457 tw_510 (by decide +kernel) rfl rfl ⟨show 0 + 1 ≤ 8 * n + 15 from om_fce2c17b78, show 8 + (1 + 11) + 0 ≤ 28 * (8 * n + 15) from om_bca265e904⟩ (List.range (cW ad pr N cI cR L1 L2 v).length) (rg_map _) (nd_range _) 0 rfl rfl rfl rfl hl.1 rfl (Nat.le_of_ble_eq_true rfl) dX2_named_155 ⟨Nat.le_of_ble_eq_true rfl, Nat.le_of_ble_eq_true rfl⟩) hP hD hS hA (fun r271 u270 H locs hw269 hP hD hS => ?_)
              obtain ⟨rfl, ex269⟩ := hw269
              refine W.widen (k := 0) (n := 0) (Nat.le_refl _) (Nat.le_refl _) ?_
              refine W.sz (fun hz9 => ?_)
              refine czx_v (rx_Vk (n := 2) (As := [.int 3, .int r271]) (rest := []) hx hb hml hown ht hKK hFx hP hD hS hA (c_x_X9_refuse l dC dI cI cB cZ cJ cR tb H.size ad pr N L1 L2 v (3 : Int32) r271 (show l.stackTraces = false from hst) (show (3 : Int) ≠ 0 from om_59881768ad)) tw_459 tw_511 (by decide +kernel) rfl rfl ⟨show 6 + 1 ≤ 8 * n + 15 from om_838586afae, show 8 + (3 + 11) + 82 ≤ 28 * (8 * n + 15) from om_41a9d63453⟩ (List.range (cW ad pr N cI cR L1 L2 v).length) (rg_map _) (nd_range _) 0 rfl rfl rfl rfl hl.1 rfl (Nat.le_of_ble_eq_true rfl) dX2_named_158 ⟨Nat.le_of_ble_eq_true rfl, Nat.le_of_ble_eq_true rfl⟩) hP hD hS hA (fun u9 ce9 q9 H locs hx9 hP hD hS hc9 hv9 hf9 => ?_) (fun u273 H locs hw272 hP hD hS hz8 => ?_)
              · exact vx_out (fun x h9 => (hnt x h9).elim) hlocks hc9 hv9 hf9 (fun t9 ht9 hv8 => ⟨u9, ⟨FC.tr (FC.rf _) hx9.1, hx9.2.1, ⟨z304, z305, z306, z312, z321, z326, z373, z381, zd, zlb, r3, ex1, r6, ex4, r9, ex7, c7, (Or.inr (⟨z161, r164, ex162, r167, ex165, z170, (Or.inr (⟨z200, (Or.inl ⟨z202, r205, ex203, ⟨c203, d203⟩, (Or.inl ⟨z207, (Or.inr (⟨z267, r271, ex269, u9, hx9.2.2, rfl, rfl, rfl⟩))⟩)⟩)⟩))⟩))⟩⟩, ⟨rfl, by rw [ht9]; exact hP, hD⟩, hS.F ht9⟩) hS.2.2 (Nat.le_refl _) (Nat.le_refl _)
              refine W.shrink (hz8.trans hz9) ?_
              obtain ⟨fr272, ex272, no272, rs272⟩ := hw272
              exact no272.elim
          · have z275 : r205.toInt = (1 : Int) := eq_z rfl (show (1 : Int32).toInt = (1 : Int) by decide) h206
            refine lv_iconst (v := 1) hx hb dX2_named_118 (by decide) ?_
            refine lv_goto (tgt := 123) hx hb dX2_named_119 (by decide) ?_
            refine lv_istore (lv' := [(6, .int 1), (5, .int 1), (4, .int r167), (3, .int r9), (2, .int r3), (0, .ref (ad 902)), (1, .int pa)]) hx hb dX2_named_123 hl (by decide) rfl (fun ls hl => ?_)
            refine lv_iload hx hb dX2_named_125 (lv_at hl 1 rfl) ?_
            refine lv_if_eq (tgt := 146) hx hb dX2_named_127 (by decide) (fun k276 => absurd k276 (by decide)) (fun _ => ?_)
            refine lv_iload hx hb dX2_named_130 (lv_at hl 0 rfl) ?_
            refine lv_iload_n hx hb dX2_named_132 rfl (lv_at hl 4 rfl) ?_
            refine lv_bipush (v := 34) hx hb dX2_named_133 (by decide) ?_
            refine lv_icmp_ne (tgt := 142) hx hb dX2_named_135 (by decide) (fun h277 => ?_) (fun h277 => ?_)
            · have z278 : r3.toInt ≠ (34 : Int) := ne_z rfl (show (34 : Int32).toInt = (34 : Int) by decide) h277
              refine lv_iconst (v := 0) hx hb dX2_named_142 (by decide) ?_
              refine lv_icmp_eq (tgt := 161) hx hb dX2_named_143 (by decide) (fun k279 => absurd k279 (by decide)) (fun _ => ?_)
              refine lv_aload_n hx hb dX2_named_146 rfl (lv_at hl 5 rfl) ?_
              refine va_get (D := (dC, dI)) (ci := 6) (fs := oF_X2 ad pr v) (v := .ref (ad 900)) (C := RX2) (T := TX2) (N := 5) hx hb ht itX2 hown hK hP 2 rfl rfl 0 (by decide) (ht _ tw_509) (fun _ h9 => h9) rfl dX2_named_147 ?_
              refine lv_iconst (v := 3) hx hb dX2_named_150 (by decide) ?_
              refine lv_aload_n hx hb dX2_named_151 rfl (lv_at hl 5 rfl) ?_
              refine va_get (D := (dC, dI)) (ci := 6) (fs := oF_X2 ad pr v) (v := .ref (ad 900)) (C := RX2) (T := TX2) (N := 5) hx hb ht itX2 hown hK hP 2 rfl rfl 0 (by decide) (ht _ tw_509) (fun _ h9 => h9) rfl dX2_named_152 ?_
              refine cu_i (rn_Vk (n := 0) (As := []) (rest := [.int 3, .ref (ad 900)]) hx hb hml hown ht hKK hFx hP hD hS hA (c_x_X9_place l dC dI cI cB cZ cJ cR tb H.size ad pr N L1 L2 v ps (show 0 ≤ (v.1 0 304).toInt ∧ (v.1 0 304).toInt ≤ 1503 from (om_c99648273b z304)) (show 0 ≤ (v.1 0 305).toInt ∧ (v.1 0 305).toInt ≤ 1500 from (om_7897b4ccef z305)) (show 0 ≤ (v.1 0 373).toInt ∧ (v.1 0 373).toInt ≤ 4000 from (om_c74a68af25 z373)) (show pr ps = ad 908 from hps) (show (v.1 0 300) = ps from es300)) tw_457 tw_510 (by decide +kernel) rfl rfl ⟨show 0 + 1 ≤ 8 * n + 15 from om_fce2c17b78, show 8 + (1 + 11) + 0 ≤ 28 * (8 * n + 15) from om_bca265e904⟩ (List.range (cW ad pr N cI cR L1 L2 v).length) (rg_map _) (nd_range _) 0 rfl rfl rfl rfl hl.1 rfl (Nat.le_of_ble_eq_true rfl) dX2_named_155 ⟨Nat.le_of_ble_eq_true rfl, Nat.le_of_ble_eq_true rfl⟩) hP hD hS hA (fun r282 u281 H locs hw280 hP hD hS => ?_)
              obtain ⟨rfl, ex280⟩ := hw280
              refine W.widen (k := 0) (n := 0) (Nat.le_refl _) (Nat.le_refl _) ?_
              refine W.sz (fun hz9 => ?_)
              refine czx_v (rx_Vk (n := 2) (As := [.int 3, .int r282]) (rest := []) hx hb hml hown ht hKK hFx hP hD hS hA (c_x_X9_refuse l dC dI cI cB cZ cJ cR tb H.size ad pr N L1 L2 v (3 : Int32) r282 (show l.stackTraces = false from hst) (show (3 : Int) ≠ 0 from om_59881768ad)) tw_459 tw_511 (by decide +kernel) rfl rfl ⟨show 6 + 1 ≤ 8 * n + 15 from om_838586afae, show 8 + (3 + 11) + 82 ≤ 28 * (8 * n + 15) from om_41a9d63453⟩ (List.range (cW ad pr N cI cR L1 L2 v).length) (rg_map _) (nd_range _) 0 rfl rfl rfl rfl hl.1 rfl (Nat.le_of_ble_eq_true rfl) dX2_named_158 ⟨Nat.le_of_ble_eq_true rfl, Nat.le_of_ble_eq_true rfl⟩) hP hD hS hA (fun u9 ce9 q9 H locs hx9 hP hD hS hc9 hv9 hf9 => ?_) (fun u284 H locs hw283 hP hD hS hz8 => ?_)
              · exact vx_out (fun x h9 => (hnt x h9).elim) hlocks hc9 hv9 hf9 (fun t9 ht9 hv8 => ⟨u9, ⟨FC.tr (FC.rf _) hx9.1, hx9.2.1, ⟨z304, z305, z306, z312, z321, z326, z373, z381, zd, zlb, r3, ex1, r6, ex4, r9, ex7, c7, (Or.inr (⟨z161, r164, ex162, r167, ex165, z170, (Or.inr (⟨z200, (Or.inl ⟨z202, r205, ex203, ⟨c203, d203⟩, (Or.inr (⟨z275, (Or.inl ⟨z278, r282, ex280, u9, hx9.2.2, rfl, rfl, rfl⟩)⟩))⟩)⟩))⟩))⟩⟩, ⟨rfl, by rw [ht9]; exact hP, hD⟩, hS.F ht9⟩) hS.2.2 (Nat.le_refl _) (Nat.le_refl _)
              refine W.shrink (hz8.trans hz9) ?_
              obtain ⟨fr283, ex283, no283, rs283⟩ := hw283
              exact no283.elim
            · have z286 : r3.toInt = (34 : Int) := eq_z rfl (show (34 : Int32).toInt = (34 : Int) by decide) h277
              refine lv_iconst (v := 1) hx hb dX2_named_138 (by decide) ?_
              refine lv_goto (tgt := 143) hx hb dX2_named_139 (by decide) ?_
              refine lv_icmp_eq (tgt := 161) hx hb dX2_named_143 (by decide) (fun _ => ?_) (fun k287 => absurd k287 (by decide))
              refine lv_aload_n hx hb dX2_named_161 rfl (lv_at hl 5 rfl) ?_
              refine va_get (D := (dC, dI)) (ci := 6) (fs := oF_X2 ad pr v) (v := .ref (ad 900)) (C := RX2) (T := TX2) (N := 5) hx hb ht itX2 hown hK hP 2 rfl rfl 0 (by decide) (ht _ tw_509) (fun _ h9 => h9) rfl dX2_named_162 ?_
              refine W.sz (fun hz9 => ?_)
              refine czx_v (rx_Vk (n := 0) (As := []) (rest := []) hx hb hml hown ht hKK hFx hP hD hS hA (c_x_X9_take l dC dI cI cB cZ cJ cR tb H.size ad pr N L1 L2 v ps (show 0 ≤ (v.1 0 304).toInt ∧ (v.1 0 304).toInt ≤ 1503 from (om_c99648273b z304)) (show 0 ≤ (v.1 0 305).toInt ∧ (v.1 0 305).toInt ≤ 1500 from (om_7897b4ccef z305)) (show 0 ≤ (v.1 0 373).toInt ∧ (v.1 0 373).toInt ≤ 4000 from (om_c74a68af25 z373)) (show pr ps = ad 908 from hps) (show (v.1 0 300) = ps from es300) (show l.stackTraces = false from hst)) tw_539 tw_540 (by decide +kernel) rfl rfl ⟨show 7 + 1 ≤ 8 * n + 15 from om_ec1f92c19e, show 8 + (1 + 11) + 104 ≤ 28 * (8 * n + 15) from om_9d5a13a74b⟩ (List.range (cW ad pr N cI cR L1 L2 v).length) (rg_map _) (nd_range _) 0 rfl rfl rfl rfl hl.1 rfl (Nat.le_of_ble_eq_true rfl) dX2_named_165 ⟨Nat.le_of_ble_eq_true rfl, Nat.le_of_ble_eq_true rfl⟩) hP hD hS hA (fun u9 ce9 q9 H locs hx9 hP hD hS hc9 hv9 hf9 => ?_) (fun u289 H locs hw288 hP hD hS hz8 => ?_)
              · exact vx_out (fun x h9 => (hnt x h9).elim) hlocks hc9 hv9 hf9 (fun t9 ht9 hv8 => ⟨u9, ⟨FC.tr (FC.rf _) hx9.1, hx9.2.1, ⟨z304, z305, z306, z312, z321, z326, z373, z381, zd, zlb, r3, ex1, r6, ex4, r9, ex7, c7, (Or.inr (⟨z161, r164, ex162, r167, ex165, z170, (Or.inr (⟨z200, (Or.inl ⟨z202, r205, ex203, ⟨c203, d203⟩, (Or.inr (⟨z275, (Or.inr (⟨z286, (Or.inl ⟨u9, hx9.2.2, rfl, rfl, rfl⟩)⟩))⟩))⟩)⟩))⟩))⟩⟩, ⟨rfl, by rw [ht9]; exact hP, hD⟩, hS.F ht9⟩) hS.2.2 (Nat.le_refl _) (Nat.le_refl _)
              refine W.shrink (hz8.trans hz9) ?_
              obtain ⟨fr288, ex288, i305288, pt288, rs288⟩ := hw288
              refine lv_iload hx hb dX2_named_168 (lv_at hl 0 rfl) ?_
              refine lv_if_eq (tgt := 179) hx hb dX2_named_170 (by decide) (fun k291 => absurd k291 (by decide)) (fun _ => ?_)
              refine lv_aload_n hx hb dX2_named_173 rfl (lv_at hl 5 rfl) ?_
              refine lv_iload hx hb dX2_named_174 (lv_at hl 2 rfl) ?_
              have q292 : (u289.1 0 304).toInt = (v.1 0 304).toInt := congrArg Int32.toInt ((fr288.2.1 304 (by decide)).trans (show v.1 0 304 = (v.1 0 304) by rfl))
              have q293 : (u289.1 0 306).toInt = (v.1 0 306).toInt := congrArg Int32.toInt ((fr288.2.1 306 (by decide)).trans (show v.1 0 306 = (v.1 0 306) by rfl))
              have q294 : (u289.1 0 312).toInt = (v.1 0 312).toInt := congrArg Int32.toInt ((fr288.2.1 312 (by decide)).trans (show v.1 0 312 = (v.1 0 312) by rfl))
              have q295 : (u289.1 0 321).toInt = (v.1 0 321).toInt := congrArg Int32.toInt ((fr288.2.1 321 (by decide)).trans (show v.1 0 321 = (v.1 0 321) by rfl))
              have q296 : (u289.1 0 326).toInt = (v.1 0 326).toInt := congrArg Int32.toInt ((fr288.2.1 326 (by decide)).trans (show v.1 0 326 = (v.1 0 326) by rfl))
              have q297 : (u289.1 0 373).toInt = (v.1 0 373).toInt := congrArg Int32.toInt ((fr288.2.1 373 (by decide)).trans (show v.1 0 373 = (v.1 0 373) by rfl))
              have q298 : (u289.1 0 381).toInt = (v.1 0 381).toInt := congrArg Int32.toInt ((fr288.2.1 381 (by decide)).trans (show v.1 0 381 = (v.1 0 381) by rfl))
              have q299 : (u289.1 0 317).toInt = (v.1 0 317).toInt := congrArg Int32.toInt ((fr288.2.1 317 (by decide)).trans (show v.1 0 317 = (v.1 0 317) by rfl))
              refine W.sz (fun hz9 => ?_)
              refine czx_v (rx_Vk (n := 1) (As := [.int r167]) (rest := []) hx hb hml hown ht hKK hFx hP hD hS hA (c_x_X2_index l n ihE dC dI cI cB cZ cJ cR tb H.size ad pr N L1 L2 u289 r167 ps (show 0 ≤ (u289.1 0 304).toInt ∧ (u289.1 0 304).toInt ≤ 1503 from (om_73002589c1 z304 q292)) (show 0 ≤ (u289.1 0 305).toInt ∧ (u289.1 0 305).toInt ≤ 1500 from (om_89213937cb z305 i305288 pt288)) (show 0 ≤ (u289.1 0 306).toInt ∧ (u289.1 0 306).toInt ≤ 40 from (om_99e115f631 z306 q293)) (show 0 ≤ (u289.1 0 312).toInt ∧ (u289.1 0 312).toInt ≤ 500 from (om_f8376ff89c z312 q294)) (show 0 ≤ (u289.1 0 321).toInt ∧ (u289.1 0 321).toInt ≤ 501 from (om_ff27494c0e z321 q295)) (show 0 ≤ (u289.1 0 326).toInt ∧ (u289.1 0 326).toInt ≤ 420 from (om_8ed0dedb19 z326 q296)) (show 0 ≤ (u289.1 0 373).toInt ∧ (u289.1 0 373).toInt ≤ 4000 from (om_9084c127ed z373 q297)) (show 0 ≤ (u289.1 0 381).toInt ∧ (u289.1 0 381).toInt ≤ 3008 from (om_3d2979e731 z305 z326 z381 zd q298)) (show L1.length = 40 from hL1) (show L2.length = 60 from hL2) (show RP u289 from ((show FC [305, 306, 307, 314, 315, 317, 321, 326, 381] [0, 316, 318, 319, 320, 324, 325, 378, 379, 380] v u289 from (FC.tr (FC.rf _) (FC.up fr288 (by decide) (by decide)))).1 rp)) (show pr ps = ad 908 from hps) (show (u289.1 0 300) = ps from (Eq.trans (fr288.2.1 300 (by decide)) es300)) (show (u289.1 0 310) = ps from (Eq.trans (fr288.2.1 310 (by decide)) es310)) (show l.stackTraces = false from hst) (show (u289.1 0 381).toInt + (u289.1 0 326).toInt - 2 * (u289.1 0 305).toInt ≤ 2 from (om_4a6a2fe9b7 zd q296 q298 pt288)) (show 0 ≤ (u289.1 0 317).toInt ∧ (u289.1 0 317).toInt - 4 * (u289.1 0 305).toInt ≤ 8 from (om_acd7fdc17b zlb q299 pt288)) (show 40 ≤ (u289.1 0 306).toInt + (n : Int) from (om_2d3a9cf1da zn q293))) tw_551 tw_552 (by decide +kernel) rfl rfl ⟨show (8 * n + 14) + 1 ≤ 8 * n + 15 from om_c0c6541b93, show 8 + (2 + 11) + 28 * (8 * n + 14) ≤ 28 * (8 * n + 15) from om_c8e428155d⟩ (List.range (cW ad pr N cI cR L1 L2 u289).length) (rg_map _) (nd_range _) 2 rfl rfl rfl rfl hl.1 rfl (Nat.le_of_ble_eq_true rfl) dX2_named_176 ⟨Nat.le_of_ble_eq_true rfl, Nat.le_of_ble_eq_true rfl⟩) hP hD hS hA (fun u9 ce9 q9 H locs hx9 hP hD hS hc9 hv9 hf9 => ?_) (fun u301 H locs hw300 hP hD hS hz8 => ?_)
              · exact vx_out (fun x h9 => (hnt x h9).elim) hlocks hc9 hv9 hf9 (fun t9 ht9 hv8 => ⟨u9, ⟨FC.tr (FC.tr (FC.rf _) (FC.up fr288 (by decide) (by decide))) hx9.1, hx9.2.1, ⟨z304, z305, z306, z312, z321, z326, z373, z381, zd, zlb, r3, ex1, r6, ex4, r9, ex7, c7, (Or.inr (⟨z161, r164, ex162, r167, ex165, z170, (Or.inr (⟨z200, (Or.inl ⟨z202, r205, ex203, ⟨c203, d203⟩, (Or.inr (⟨z275, (Or.inr (⟨z286, (Or.inr (⟨u289, ex288, ⟨fr288, i305288, pt288, rs288⟩, (Or.inl ⟨u9, hx9.2.2, rfl, rfl, rfl⟩)⟩))⟩))⟩))⟩)⟩))⟩))⟩⟩, ⟨rfl, by rw [ht9]; exact hP, hD⟩, hS.F ht9⟩) hS.2.2 (Nat.le_refl _) (Nat.le_refl _)
              refine W.shrink (hz8.trans hz9) ?_
              obtain ⟨fr300, ex300, i305300, i306300, i321300, i326300, i381300, pd300, pt300, plb300, po300, rs300⟩ := hw300
              have i305300 : 0 ≤ (u301.1 0 305).toInt ∧ (u301.1 0 305).toInt ≤ 1500 := i305300
              have i306300 : 0 ≤ (u301.1 0 306).toInt ∧ (u301.1 0 306).toInt ≤ 40 := i306300
              have i321300 : 0 ≤ (u301.1 0 321).toInt ∧ (u301.1 0 321).toInt ≤ 501 := i321300
              have i326300 : 0 ≤ (u301.1 0 326).toInt ∧ (u301.1 0 326).toInt ≤ 420 := i326300
              have i381300 : 0 ≤ (u301.1 0 381).toInt ∧ (u301.1 0 381).toInt ≤ 3008 := i381300
              have pd300 : (u301.1 0 381).toInt + (u301.1 0 326).toInt - 2 * (u301.1 0 305).toInt + (4) ≤ (u289.1 0 381).toInt + (u289.1 0 326).toInt - 2 * (u289.1 0 305).toInt := pd300
              have pt300 : (u289.1 0 305).toInt + 3 ≤ (u301.1 0 305).toInt := pt300
              have plb300 : (u289.1 0 317).toInt ≤ (u301.1 0 317).toInt ∧ (u301.1 0 317).toInt - 4 * (u301.1 0 305).toInt ≤ (u289.1 0 317).toInt - 4 * (u289.1 0 305).toInt + 0 := plb300
              have po300 : (u301.1 0 306).toInt = (u289.1 0 306).toInt := po300
              have rs300 : RS u289 u301 := rs300
              refine lv_iload_n hx hb dX2_named_179 rfl (lv_at hl 6 rfl) ?_
              refine lv_if_eq (tgt := 207) hx hb dX2_named_180 (by decide) (fun h303 => ?_) (fun h303 => ?_)
              · have z307 : pa.toInt = (0 : Int) := eq_z rfl (show (0 : Int32).toInt = (0 : Int) by decide) h303
                refine lv_iload hx hb dX2_named_207 (lv_at hl 0 rfl) ?_
                refine lv_if_eq (tgt := 227) hx hb dX2_named_209 (by decide) (fun k308 => absurd k308 (by decide)) (fun _ => ?_)
                refine lv_aload_n hx hb dX2_named_212 rfl (lv_at hl 5 rfl) ?_
                refine va_get (D := (dC, dI)) (ci := 6) (fs := oF_X2 ad pr u301) (v := .ref (ad 901)) (C := RX2) (T := TX2) (N := 5) hx hb ht itX2 hown hK hP 2 rfl rfl 1 (by decide) (ht _ tw_498) (fun _ h9 => h9) rfl dX2_named_213 ?_
                refine lv_bipush (v := 8) hx hb dX2_named_216 (by decide) ?_
                refine lv_iload hx hb dX2_named_218 (lv_at hl 2 rfl) ?_
                refine lv_iconst (v := 0) hx hb dX2_named_220 (by decide) ?_
                refine cu_v (rn_Vk (n := 3) (As := [.int 8, .int r167, .int 0]) (rest := []) hx hb hml hown ht hKK hFx hP hD hS hA (c_x_X1_add l dC dI cI cB cZ cJ cR tb H.size ad pr N L1 L2 u301 (8 : Int32) r167 (0 : Int32) ps (show 0 ≤ (u301.1 0 381).toInt ∧ (u301.1 0 381).toInt ≤ 3008 from (om_4a41e7b354 zd q296 q298 pt288 i305300 i326300 i381300 pd300)) (show pr ps = ad 908 from hps) (show (u301.1 0 310) = ps from (Eq.trans (fr300.2.1 310 (by decide)) (Eq.trans (fr288.2.1 310 (by decide)) es310))) (show (u301.1 0 381).toInt < 3008 from (om_965160d414 zd q296 q298 pt288 i305300 i326300 pd300))) tw_499 tw_500 (by decide +kernel) rfl rfl ⟨show 0 + 1 ≤ 8 * n + 15 from om_fce2c17b78, show 8 + (5 + 11) + 0 ≤ 28 * (8 * n + 15) from om_bbd2f5c798⟩ (List.range (cW ad pr N cI cR L1 L2 u301).length) (rg_map _) (nd_range _) 1 rfl rfl rfl rfl hl.1 rfl (Nat.le_of_ble_eq_true rfl) dX2_named_221 ⟨Nat.le_of_ble_eq_true rfl, Nat.le_of_ble_eq_true rfl⟩) hP hD hS hA (fun u310 H locs hw309 hP hD hS => ?_)
                obtain ⟨fr309, ex309, i381309, pd309, rs309⟩ := hw309
                have i381309 : 0 ≤ (u310.1 0 381).toInt ∧ (u310.1 0 381).toInt ≤ 3008 := i381309
                have pd309 : (u310.1 0 381).toInt = (u301.1 0 381).toInt + 1 := pd309
                have rs309 : RS u301 u310 := rs309
                refine W.widen (k := 0) (n := 0) (Nat.le_refl _) (Nat.le_refl _) ?_
                refine lv_goto (tgt := 234) hx hb dX2_named_224 (by decide) ?_
                refine lv_iconst (v := 0) hx hb dX2_named_234 (by decide) ?_
                have q312 : (u310.1 0 305).toInt = (u301.1 0 305).toInt := congrArg Int32.toInt ((fr309.2.1 305 (by decide)).trans (show u301.1 0 305 = (u301.1 0 305) by rfl))
                have q313 : (u310.1 0 306).toInt = (u301.1 0 306).toInt := congrArg Int32.toInt ((fr309.2.1 306 (by decide)).trans (show u301.1 0 306 = (u301.1 0 306) by rfl))
                have q314 : (u310.1 0 321).toInt = (u301.1 0 321).toInt := congrArg Int32.toInt ((fr309.2.1 321 (by decide)).trans (show u301.1 0 321 = (u301.1 0 321) by rfl))
                have q315 : (u310.1 0 326).toInt = (u301.1 0 326).toInt := congrArg Int32.toInt ((fr309.2.1 326 (by decide)).trans (show u301.1 0 326 = (u301.1 0 326) by rfl))
                have q316 : (u310.1 0 317).toInt = (u301.1 0 317).toInt := congrArg Int32.toInt ((fr309.2.1 317 (by decide)).trans (show u301.1 0 317 = (u301.1 0 317) by rfl))
                refine W.sz (fun hz => ?_)
                refine vx_ret ?_
                refine W.widen (k := 1) (n := 6) (Nat.le_of_ble_eq_true rfl) (Nat.le_of_ble_eq_true rfl) ?_
                exact W.zret (v := 0) hx hb hr rfl (fun t ht9 hW => ⟨⟨0, u310, rfl, ⟨(FC.tr (FC.tr (FC.tr (FC.rf _) (FC.up fr288 (by decide) (by decide))) (FC.up fr300 (by decide) (by decide))) (FC.up fr309 (by decide) (by decide))), ⟨z304, z305, z306, z312, z321, z326, z373, z381, zd, zlb, r3, ex1, r6, ex4, r9, ex7, c7, (Or.inr (⟨z161, r164, ex162, r167, ex165, z170, (Or.inr (⟨z200, (Or.inl ⟨z202, r205, ex203, ⟨c203, d203⟩, (Or.inr (⟨z275, (Or.inr (⟨z286, (Or.inr (⟨u289, ex288, ⟨fr288, i305288, pt288, rs288⟩, (Or.inr (⟨u301, ex300, ⟨fr300, i305300, i306300, i321300, i326300, i381300, pd300, pt300, plb300, po300, rs300⟩, (Or.inl ⟨z307, u310, ex309, ⟨fr309, i381309, pd309, rs309⟩, rfl, rfl, rfl⟩)⟩))⟩))⟩))⟩))⟩)⟩))⟩))⟩, (show 0 ≤ (u310.1 0 305).toInt ∧ (u310.1 0 305).toInt ≤ 1500 from (om_084377e3fa i305288 i305300 pt300 q312)), (show 0 ≤ (u310.1 0 306).toInt ∧ (u310.1 0 306).toInt ≤ 40 from (om_99e115f631 i306300 q313)), (show 0 ≤ (u310.1 0 321).toInt ∧ (u310.1 0 321).toInt ≤ 501 from (om_ff27494c0e i321300 q314)), (show 0 ≤ (u310.1 0 326).toInt ∧ (u310.1 0 326).toInt ≤ 420 from (om_8ed0dedb19 i326300 q315)), (show 0 ≤ (u310.1 0 381).toInt ∧ (u310.1 0 381).toInt ≤ 3008 from (om_a54fafc81a zd q296 q298 pt288 i305300 i326300 i381300 pd300 pd309)), (show (u310.1 0 381).toInt + (u310.1 0 326).toInt - 2 * (u310.1 0 305).toInt + (1) ≤ (v.1 0 381).toInt + (v.1 0 326).toInt - 2 * (v.1 0 305).toInt from (om_93d336dac2 q296 q298 pt288 pd300 q312 q315 pd309)), (show (v.1 0 305).toInt + 1 ≤ (u310.1 0 305).toInt from (om_bfb949faf8 pt288 pt300 q312)), (show (v.1 0 317).toInt ≤ (u310.1 0 317).toInt ∧ (u310.1 0 317).toInt - 4 * (u310.1 0 305).toInt ≤ (v.1 0 317).toInt - 4 * (v.1 0 305).toInt + 0 from (om_fbd5167e72 q299 pt288 plb300 q312 q316)), (show (u310.1 0 306).toInt = (v.1 0 306).toInt from (om_698eb7995a q293 po300 q313)), (RS.tr (RS.tr (RS.tr RS.rf rs288) rs300) rs309), (Or.inl rfl)⟩, ⟨by rw [ht9]; exact hP, hD⟩, by rw [ht9]; exact hz⟩, hS.F ht9⟩) hS.2.2 dX2_named_235
              · have z317 : pa.toInt ≠ (0 : Int) := ne_z rfl (show (0 : Int32).toInt = (0 : Int) by decide) h303
                refine lv_aload_n hx hb dX2_named_183 rfl (lv_at hl 5 rfl) ?_
                refine va_get (D := (dC, dI)) (ci := 6) (fs := oF_X2 ad pr u301) (v := .ref (ad 900)) (C := RX2) (T := TX2) (N := 5) hx hb ht itX2 hown hK hP 2 rfl rfl 0 (by decide) (ht _ tw_509) (fun _ h9 => h9) rfl dX2_named_184 ?_
                have q318 : (u301.1 0 304).toInt = (u289.1 0 304).toInt := congrArg Int32.toInt ((fr300.2.1 304 (by decide)).trans (show u289.1 0 304 = (u289.1 0 304) by rfl))
                refine cu_i (rn_Vk (n := 0) (As := []) (rest := []) hx hb hml hown ht hKK hFx hP hD hS hA (c_x_X9_kind l dC dI cI cB cZ cJ cR tb H.size ad pr N L1 L2 u301  (show 0 ≤ (u301.1 0 304).toInt ∧ (u301.1 0 304).toInt ≤ 1503 from (om_dd87ee851a z304 q292 q318)) (show 0 ≤ (u301.1 0 305).toInt ∧ (u301.1 0 305).toInt ≤ 1500 from (om_92b6e2629b i305288 i305300 pt300))) tw_455 tw_532 (by decide +kernel) rfl rfl ⟨show 0 + 1 ≤ 8 * n + 15 from om_fce2c17b78, show 8 + (1 + 11) + 0 ≤ 28 * (8 * n + 15) from om_bca265e904⟩ (List.range (cW ad pr N cI cR L1 L2 u301).length) (rg_map _) (nd_range _) 0 rfl rfl rfl rfl hl.1 rfl (Nat.le_of_ble_eq_true rfl) dX2_named_187 ⟨Nat.le_of_ble_eq_true rfl, Nat.le_of_ble_eq_true rfl⟩) hP hD hS hA (fun r321 u320 H locs hw319 hP hD hS => ?_)
                obtain ⟨rfl, ex319⟩ := hw319
                refine W.widen (k := 0) (n := 0) (Nat.le_refl _) (Nat.le_refl _) ?_
                refine cu_s (nd_range _) (rn_S (n := 1) (As := [.int r321]) (rest := []) hx hb hml hown ht hKK hFx hP hD hS hA (c_x_X9_isSet l dC dI cI cB cZ cJ cR tb H.size r321 ) tw_547 tw_548 (by decide +kernel) rfl rfl ⟨show 0 + 1 ≤ 8 * n + 15 from om_fce2c17b78, show 8 + (1 + 11) + 0 ≤ 28 * (8 * n + 15) from om_bca265e904⟩ [] rfl rfl rfl hl.1 rfl (Nat.le_of_ble_eq_true rfl) dX2_named_190 ⟨Nat.le_of_ble_eq_true rfl, Nat.le_of_ble_eq_true rfl⟩) hP hD hS hA (fun r324 H locs hw322 hP hD hS => ?_)
                obtain ⟨ex322, b322, e322⟩ := hw322
                have b322 : (r324 = 0 ∨ r324 = 1) := b322
                have e322 : (0 ≤ r324.toInt ∧ r324.toInt ≤ 1) := e322
                refine W.widen (k := 0) (n := 0) (Nat.le_refl _) (Nat.le_refl _) ?_
                refine lv_if_eq (tgt := 207) hx hb dX2_named_193 (by decide) (fun h325 => ?_) (fun h325 => ?_)
                · have z327 : r324.toInt = (0 : Int) := eq_z rfl (show (0 : Int32).toInt = (0 : Int) by decide) h325
                  refine lv_iload hx hb dX2_named_207 (lv_at hl 0 rfl) ?_
                  refine lv_if_eq (tgt := 227) hx hb dX2_named_209 (by decide) (fun k328 => absurd k328 (by decide)) (fun _ => ?_)
                  refine lv_aload_n hx hb dX2_named_212 rfl (lv_at hl 5 rfl) ?_
                  refine va_get (D := (dC, dI)) (ci := 6) (fs := oF_X2 ad pr u301) (v := .ref (ad 901)) (C := RX2) (T := TX2) (N := 5) hx hb ht itX2 hown hK hP 2 rfl rfl 1 (by decide) (ht _ tw_498) (fun _ h9 => h9) rfl dX2_named_213 ?_
                  refine lv_bipush (v := 8) hx hb dX2_named_216 (by decide) ?_
                  refine lv_iload hx hb dX2_named_218 (lv_at hl 2 rfl) ?_
                  refine lv_iconst (v := 0) hx hb dX2_named_220 (by decide) ?_
                  refine cu_v (rn_Vk (n := 3) (As := [.int 8, .int r167, .int 0]) (rest := []) hx hb hml hown ht hKK hFx hP hD hS hA (c_x_X1_add l dC dI cI cB cZ cJ cR tb H.size ad pr N L1 L2 u301 (8 : Int32) r167 (0 : Int32) ps (show 0 ≤ (u301.1 0 381).toInt ∧ (u301.1 0 381).toInt ≤ 3008 from (om_4a41e7b354 zd q296 q298 pt288 i305300 i326300 i381300 pd300)) (show pr ps = ad 908 from hps) (show (u301.1 0 310) = ps from (Eq.trans (fr300.2.1 310 (by decide)) (Eq.trans (fr288.2.1 310 (by decide)) es310))) (show (u301.1 0 381).toInt < 3008 from (om_965160d414 zd q296 q298 pt288 i305300 i326300 pd300))) tw_499 tw_500 (by decide +kernel) rfl rfl ⟨show 0 + 1 ≤ 8 * n + 15 from om_fce2c17b78, show 8 + (5 + 11) + 0 ≤ 28 * (8 * n + 15) from om_bbd2f5c798⟩ (List.range (cW ad pr N cI cR L1 L2 u301).length) (rg_map _) (nd_range _) 1 rfl rfl rfl rfl hl.1 rfl (Nat.le_of_ble_eq_true rfl) dX2_named_221 ⟨Nat.le_of_ble_eq_true rfl, Nat.le_of_ble_eq_true rfl⟩) hP hD hS hA (fun u330 H locs hw329 hP hD hS => ?_)
                  obtain ⟨fr329, ex329, i381329, pd329, rs329⟩ := hw329
                  have i381329 : 0 ≤ (u330.1 0 381).toInt ∧ (u330.1 0 381).toInt ≤ 3008 := i381329
                  have pd329 : (u330.1 0 381).toInt = (u301.1 0 381).toInt + 1 := pd329
                  have rs329 : RS u301 u330 := rs329
                  refine W.widen (k := 0) (n := 0) (Nat.le_refl _) (Nat.le_refl _) ?_
                  refine lv_goto (tgt := 234) hx hb dX2_named_224 (by decide) ?_
                  refine lv_iconst (v := 0) hx hb dX2_named_234 (by decide) ?_
                  have q332 : (u330.1 0 305).toInt = (u301.1 0 305).toInt := congrArg Int32.toInt ((fr329.2.1 305 (by decide)).trans (show u301.1 0 305 = (u301.1 0 305) by rfl))
                  have q333 : (u330.1 0 306).toInt = (u301.1 0 306).toInt := congrArg Int32.toInt ((fr329.2.1 306 (by decide)).trans (show u301.1 0 306 = (u301.1 0 306) by rfl))
                  have q334 : (u330.1 0 321).toInt = (u301.1 0 321).toInt := congrArg Int32.toInt ((fr329.2.1 321 (by decide)).trans (show u301.1 0 321 = (u301.1 0 321) by rfl))
                  have q335 : (u330.1 0 326).toInt = (u301.1 0 326).toInt := congrArg Int32.toInt ((fr329.2.1 326 (by decide)).trans (show u301.1 0 326 = (u301.1 0 326) by rfl))
                  have q336 : (u330.1 0 317).toInt = (u301.1 0 317).toInt := congrArg Int32.toInt ((fr329.2.1 317 (by decide)).trans (show u301.1 0 317 = (u301.1 0 317) by rfl))
                  refine W.sz (fun hz => ?_)
                  refine vx_ret ?_
                  refine W.widen (k := 1) (n := 6) (Nat.le_of_ble_eq_true rfl) (Nat.le_of_ble_eq_true rfl) ?_
                  exact W.zret (v := 0) hx hb hr rfl (fun t ht9 hW => ⟨⟨0, u330, rfl, ⟨(FC.tr (FC.tr (FC.tr (FC.rf _) (FC.up fr288 (by decide) (by decide))) (FC.up fr300 (by decide) (by decide))) (FC.up fr329 (by decide) (by decide))), ⟨z304, z305, z306, z312, z321, z326, z373, z381, zd, zlb, r3, ex1, r6, ex4, r9, ex7, c7, (Or.inr (⟨z161, r164, ex162, r167, ex165, z170, (Or.inr (⟨z200, (Or.inl ⟨z202, r205, ex203, ⟨c203, d203⟩, (Or.inr (⟨z275, (Or.inr (⟨z286, (Or.inr (⟨u289, ex288, ⟨fr288, i305288, pt288, rs288⟩, (Or.inr (⟨u301, ex300, ⟨fr300, i305300, i306300, i321300, i326300, i381300, pd300, pt300, plb300, po300, rs300⟩, (Or.inr (⟨z317, r321, ex319, r324, ex322, ⟨b322, e322⟩, (Or.inl ⟨z327, u330, ex329, ⟨fr329, i381329, pd329, rs329⟩, rfl, rfl, rfl⟩)⟩))⟩))⟩))⟩))⟩))⟩)⟩))⟩))⟩, (show 0 ≤ (u330.1 0 305).toInt ∧ (u330.1 0 305).toInt ≤ 1500 from (om_084377e3fa i305288 i305300 pt300 q332)), (show 0 ≤ (u330.1 0 306).toInt ∧ (u330.1 0 306).toInt ≤ 40 from (om_99e115f631 i306300 q333)), (show 0 ≤ (u330.1 0 321).toInt ∧ (u330.1 0 321).toInt ≤ 501 from (om_ff27494c0e i321300 q334)), (show 0 ≤ (u330.1 0 326).toInt ∧ (u330.1 0 326).toInt ≤ 420 from (om_8ed0dedb19 i326300 q335)), (show 0 ≤ (u330.1 0 381).toInt ∧ (u330.1 0 381).toInt ≤ 3008 from (om_a54fafc81a zd q296 q298 pt288 i305300 i326300 i381300 pd300 pd329)), (show (u330.1 0 381).toInt + (u330.1 0 326).toInt - 2 * (u330.1 0 305).toInt + (1) ≤ (v.1 0 381).toInt + (v.1 0 326).toInt - 2 * (v.1 0 305).toInt from (om_93d336dac2 q296 q298 pt288 pd300 q332 q335 pd329)), (show (v.1 0 305).toInt + 1 ≤ (u330.1 0 305).toInt from (om_bfb949faf8 pt288 pt300 q332)), (show (v.1 0 317).toInt ≤ (u330.1 0 317).toInt ∧ (u330.1 0 317).toInt - 4 * (u330.1 0 305).toInt ≤ (v.1 0 317).toInt - 4 * (v.1 0 305).toInt + 0 from (om_fbd5167e72 q299 pt288 plb300 q332 q336)), (show (u330.1 0 306).toInt = (v.1 0 306).toInt from (om_698eb7995a q293 po300 q333)), (RS.tr (RS.tr (RS.tr RS.rf rs288) rs300) rs329), (Or.inl rfl)⟩, ⟨by rw [ht9]; exact hP, hD⟩, by rw [ht9]; exact hz⟩, hS.F ht9⟩) hS.2.2 dX2_named_235
                · have z337 : r324.toInt ≠ (0 : Int) := ne_z rfl (show (0 : Int32).toInt = (0 : Int) by decide) h325
                  refine lv_aload_n hx hb dX2_named_196 rfl (lv_at hl 5 rfl) ?_
                  refine lv_iload_n hx hb dX2_named_197 rfl (lv_at hl 3 rfl) ?_
                  refine lv_iload hx hb dX2_named_198 (lv_at hl 2 rfl) ?_
                  refine lv_iload hx hb dX2_named_200 (lv_at hl 0 rfl) ?_
                  have q338 : (u301.1 0 312).toInt = (u289.1 0 312).toInt := congrArg Int32.toInt ((fr300.2.1 312 (by decide)).trans (show u289.1 0 312 = (u289.1 0 312) by rfl))
                  have q339 : (u301.1 0 373).toInt = (u289.1 0 373).toInt := congrArg Int32.toInt ((fr300.2.1 373 (by decide)).trans (show u289.1 0 373 = (u289.1 0 373) by rfl))
                  refine W.sz (fun hz9 => ?_)
                  refine czx_v (rx_Vk (n := 3) (As := [.int r9, .int r167, .int 1]) (rest := []) hx hb hml hown ht hKK hFx hP hD hS hA (c_x_X2_change l n ihE dC dI cI cB cZ cJ cR tb H.size ad pr N L1 L2 u301 r9 r167 (1 : Int32) ps (show 0 ≤ (u301.1 0 304).toInt ∧ (u301.1 0 304).toInt ≤ 1503 from (om_dd87ee851a z304 q292 q318)) (show 0 ≤ (u301.1 0 305).toInt ∧ (u301.1 0 305).toInt ≤ 1500 from (om_92b6e2629b i305288 i305300 pt300)) (show 0 ≤ (u301.1 0 306).toInt ∧ (u301.1 0 306).toInt ≤ 40 from (om_7eaf33e007 i306300)) (show 0 ≤ (u301.1 0 312).toInt ∧ (u301.1 0 312).toInt ≤ 500 from (om_8a5975ec21 z312 q294 q338)) (show 0 ≤ (u301.1 0 321).toInt ∧ (u301.1 0 321).toInt ≤ 501 from (om_e1d35f5faf i321300)) (show 0 ≤ (u301.1 0 326).toInt ∧ (u301.1 0 326).toInt ≤ 420 from (om_839d7ed7dd i326300)) (show 0 ≤ (u301.1 0 373).toInt ∧ (u301.1 0 373).toInt ≤ 4000 from (om_03cd8767ac z373 q297 q339)) (show 0 ≤ (u301.1 0 381).toInt ∧ (u301.1 0 381).toInt ≤ 3008 from (om_4a41e7b354 zd q296 q298 pt288 i305300 i326300 i381300 pd300)) (show L1.length = 40 from hL1) (show L2.length = 60 from hL2) (show RP u301 from ((show FC [305, 306, 307, 314, 315, 317, 321, 326, 381] [0, 316, 318, 319, 320, 324, 325, 378, 379, 380] v u301 from (FC.tr (FC.tr (FC.rf _) (FC.up fr288 (by decide) (by decide))) (FC.up fr300 (by decide) (by decide)))).1 rp)) (show pr ps = ad 908 from hps) (show (u301.1 0 300) = ps from (Eq.trans (fr300.2.1 300 (by decide)) (Eq.trans (fr288.2.1 300 (by decide)) es300))) (show (u301.1 0 310) = ps from (Eq.trans (fr300.2.1 310 (by decide)) (Eq.trans (fr288.2.1 310 (by decide)) es310))) (show l.stackTraces = false from hst) (show (u301.1 0 381).toInt + (u301.1 0 326).toInt - 2 * (u301.1 0 305).toInt ≤ -2 from (om_98c4315a29 zd q296 q298 pt288 pd300)) (show 0 ≤ (u301.1 0 317).toInt ∧ (u301.1 0 317).toInt - 4 * (u301.1 0 305).toInt ≤ 8 from (om_ac625cfd8a zlb q299 pt288 plb300)) (show 40 ≤ (u301.1 0 306).toInt + (n : Int) from (om_ec198adb23 zn q293 po300)) (show 0 ≤ (1 : Int) ∧ (1 : Int) ≤ 1 from om_628d677095)) tw_549 tw_550 (by decide +kernel) rfl rfl ⟨show (8 * n + 14) + 1 ≤ 8 * n + 15 from om_c0c6541b93, show 8 + (7 + 11) + 28 * (8 * n + 14) ≤ 28 * (8 * n + 15) from om_fb93e872bb⟩ (List.range (cW ad pr N cI cR L1 L2 u301).length) (rg_map _) (nd_range _) 2 rfl rfl rfl rfl hl.1 rfl (Nat.le_of_ble_eq_true rfl) dX2_named_202 ⟨Nat.le_of_ble_eq_true rfl, Nat.le_of_ble_eq_true rfl⟩) hP hD hS hA (fun u9 ce9 q9 H locs hx9 hP hD hS hc9 hv9 hf9 => ?_) (fun u341 H locs hw340 hP hD hS hz8 => ?_)
                  · exact vx_out (fun x h9 => (hnt x h9).elim) hlocks hc9 hv9 hf9 (fun t9 ht9 hv8 => ⟨u9, ⟨FC.tr (FC.tr (FC.tr (FC.rf _) (FC.up fr288 (by decide) (by decide))) (FC.up fr300 (by decide) (by decide))) hx9.1, hx9.2.1, ⟨z304, z305, z306, z312, z321, z326, z373, z381, zd, zlb, r3, ex1, r6, ex4, r9, ex7, c7, (Or.inr (⟨z161, r164, ex162, r167, ex165, z170, (Or.inr (⟨z200, (Or.inl ⟨z202, r205, ex203, ⟨c203, d203⟩, (Or.inr (⟨z275, (Or.inr (⟨z286, (Or.inr (⟨u289, ex288, ⟨fr288, i305288, pt288, rs288⟩, (Or.inr (⟨u301, ex300, ⟨fr300, i305300, i306300, i321300, i326300, i381300, pd300, pt300, plb300, po300, rs300⟩, (Or.inr (⟨z317, r321, ex319, r324, ex322, ⟨b322, e322⟩, (Or.inr (⟨z337, (Or.inl ⟨u9, hx9.2.2, rfl, rfl, rfl⟩)⟩))⟩))⟩))⟩))⟩))⟩))⟩)⟩))⟩))⟩⟩, ⟨rfl, by rw [ht9]; exact hP, hD⟩, hS.F ht9⟩) hS.2.2 (Nat.le_refl _) (Nat.le_refl _)
                  refine W.shrink (hz8.trans hz9) ?_
                  obtain ⟨fr340, ex340, i305340, i306340, i321340, i326340, i381340, pd340, pt340, plb340, po340, rs340⟩ := hw340
                  have i305340 : 0 ≤ (u341.1 0 305).toInt ∧ (u341.1 0 305).toInt ≤ 1500 := i305340
                  have i306340 : 0 ≤ (u341.1 0 306).toInt ∧ (u341.1 0 306).toInt ≤ 40 := i306340
                  have i321340 : 0 ≤ (u341.1 0 321).toInt ∧ (u341.1 0 321).toInt ≤ 501 := i321340
                  have i326340 : 0 ≤ (u341.1 0 326).toInt ∧ (u341.1 0 326).toInt ≤ 420 := i326340
                  have i381340 : 0 ≤ (u341.1 0 381).toInt ∧ (u341.1 0 381).toInt ≤ 3008 := i381340
                  have pd340 : (u341.1 0 381).toInt + (u341.1 0 326).toInt - 2 * (u341.1 0 305).toInt + (-1 - (1 : Int)) ≤ (u301.1 0 381).toInt + (u301.1 0 326).toInt - 2 * (u301.1 0 305).toInt := pd340
                  have pt340 : (u301.1 0 305).toInt + 2 ≤ (u341.1 0 305).toInt := pt340
                  have plb340 : (u301.1 0 317).toInt ≤ (u341.1 0 317).toInt ∧ (u341.1 0 317).toInt - 4 * (u341.1 0 305).toInt ≤ (u301.1 0 317).toInt - 4 * (u301.1 0 305).toInt + 0 := plb340
                  have po340 : (u341.1 0 306).toInt = (u301.1 0 306).toInt := po340
                  have rs340 : RS u301 u341 := rs340
                  refine lv_iconst (v := 1) hx hb dX2_named_205 (by decide) ?_
                  refine W.sz (fun hz => ?_)
                  refine vx_ret ?_
                  refine W.widen (k := 1) (n := 6) (Nat.le_of_ble_eq_true rfl) (Nat.le_of_ble_eq_true rfl) ?_
                  exact W.zret (v := 1) hx hb hr rfl (fun t ht9 hW => ⟨⟨1, u341, rfl, ⟨(FC.tr (FC.tr (FC.tr (FC.rf _) (FC.up fr288 (by decide) (by decide))) (FC.up fr300 (by decide) (by decide))) (FC.up fr340 (by decide) (by decide))), ⟨z304, z305, z306, z312, z321, z326, z373, z381, zd, zlb, r3, ex1, r6, ex4, r9, ex7, c7, (Or.inr (⟨z161, r164, ex162, r167, ex165, z170, (Or.inr (⟨z200, (Or.inl ⟨z202, r205, ex203, ⟨c203, d203⟩, (Or.inr (⟨z275, (Or.inr (⟨z286, (Or.inr (⟨u289, ex288, ⟨fr288, i305288, pt288, rs288⟩, (Or.inr (⟨u301, ex300, ⟨fr300, i305300, i306300, i321300, i326300, i381300, pd300, pt300, plb300, po300, rs300⟩, (Or.inr (⟨z317, r321, ex319, r324, ex322, ⟨b322, e322⟩, (Or.inr (⟨z337, (Or.inr (⟨u341, ex340, ⟨fr340, i305340, i306340, i321340, i326340, i381340, pd340, pt340, plb340, po340, rs340⟩, rfl, rfl, rfl⟩))⟩))⟩))⟩))⟩))⟩))⟩))⟩)⟩))⟩))⟩, (show 0 ≤ (u341.1 0 305).toInt ∧ (u341.1 0 305).toInt ≤ 1500 from (om_4c024736fb i305288 pt300 i305340 pt340)), (show 0 ≤ (u341.1 0 306).toInt ∧ (u341.1 0 306).toInt ≤ 40 from (om_7eaf33e007 i306340)), (show 0 ≤ (u341.1 0 321).toInt ∧ (u341.1 0 321).toInt ≤ 501 from (om_e1d35f5faf i321340)), (show 0 ≤ (u341.1 0 326).toInt ∧ (u341.1 0 326).toInt ≤ 420 from (om_839d7ed7dd i326340)), (show 0 ≤ (u341.1 0 381).toInt ∧ (u341.1 0 381).toInt ≤ 3008 from (om_47c7ea4719 zd q296 q298 pt288 pd300 i305340 i326340 i381340 pd340)), (show (u341.1 0 381).toInt + (u341.1 0 326).toInt - 2 * (u341.1 0 305).toInt + (1) ≤ (v.1 0 381).toInt + (v.1 0 326).toInt - 2 * (v.1 0 305).toInt from (om_7eb2e82a0c q296 q298 pt288 pd300 pd340)), (show (v.1 0 305).toInt + 1 ≤ (u341.1 0 305).toInt from (om_f81c97fcfd pt288 pt300 pt340)), (show (v.1 0 317).toInt ≤ (u341.1 0 317).toInt ∧ (u341.1 0 317).toInt - 4 * (u341.1 0 305).toInt ≤ (v.1 0 317).toInt - 4 * (v.1 0 305).toInt + 0 from (om_7d74887e57 q299 pt288 plb300 plb340)), (show (u341.1 0 306).toInt = (v.1 0 306).toInt from (om_698eb7995a q293 po300 po340)), (RS.tr (RS.tr (RS.tr RS.rf rs288) rs300) rs340), (Or.inr rfl)⟩, ⟨by rw [ht9]; exact hP, hD⟩, by rw [ht9]; exact hz⟩, hS.F ht9⟩) hS.2.2 dX2_named_206
        · have z343 : r3.toInt = (30 : Int) := eq_z rfl (show (30 : Int32).toInt = (30 : Int) by decide) h201
          refine lv_iload hx hb dX2_named_75 (lv_at hl 0 rfl) ?_
          refine lv_if_eq (tgt := 95) hx hb dX2_named_77 (by decide) (fun k344 => absurd k344 (by decide)) (fun _ => ?_)
          refine lv_aload_n hx hb dX2_named_80 rfl (lv_at hl 4 rfl) ?_
          refine va_get (D := (dC, dI)) (ci := 6) (fs := oF_X2 ad pr v) (v := .ref (ad 900)) (C := RX2) (T := TX2) (N := 5) hx hb ht itX2 hown hK hP 2 rfl rfl 0 (by decide) (ht _ tw_509) (fun _ h9 => h9) rfl dX2_named_81 ?_
          refine lv_iconst (v := 3) hx hb dX2_named_84 (by decide) ?_
          refine lv_aload_n hx hb dX2_named_85 rfl (lv_at hl 4 rfl) ?_
          refine va_get (D := (dC, dI)) (ci := 6) (fs := oF_X2 ad pr v) (v := .ref (ad 900)) (C := RX2) (T := TX2) (N := 5) hx hb ht itX2 hown hK hP 2 rfl rfl 0 (by decide) (ht _ tw_509) (fun _ h9 => h9) rfl dX2_named_86 ?_
          refine cu_i (rn_Vk (n := 0) (As := []) (rest := [.int 3, .ref (ad 900)]) hx hb hml hown ht hKK hFx hP hD hS hA (c_x_X9_place l dC dI cI cB cZ cJ cR tb H.size ad pr N L1 L2 v ps (show 0 ≤ (v.1 0 304).toInt ∧ (v.1 0 304).toInt ≤ 1503 from (om_c99648273b z304)) (show 0 ≤ (v.1 0 305).toInt ∧ (v.1 0 305).toInt ≤ 1500 from (om_7897b4ccef z305)) (show 0 ≤ (v.1 0 373).toInt ∧ (v.1 0 373).toInt ≤ 4000 from (om_c74a68af25 z373)) (show pr ps = ad 908 from hps) (show (v.1 0 300) = ps from es300)) tw_457 tw_510 (by decide +kernel) rfl rfl ⟨show 0 + 1 ≤ 8 * n + 15 from om_fce2c17b78, show 8 + (1 + 11) + 0 ≤ 28 * (8 * n + 15) from om_bca265e904⟩ (List.range (cW ad pr N cI cR L1 L2 v).length) (rg_map _) (nd_range _) 0 rfl rfl rfl rfl hl.1 rfl (Nat.le_of_ble_eq_true rfl) dX2_named_89 ⟨Nat.le_of_ble_eq_true rfl, Nat.le_of_ble_eq_true rfl⟩) hP hD hS hA (fun r347 u346 H locs hw345 hP hD hS => ?_)
          obtain ⟨rfl, ex345⟩ := hw345
          refine W.widen (k := 0) (n := 0) (Nat.le_refl _) (Nat.le_refl _) ?_
          refine W.sz (fun hz9 => ?_)
          refine czx_v (rx_Vk (n := 2) (As := [.int 3, .int r347]) (rest := []) hx hb hml hown ht hKK hFx hP hD hS hA (c_x_X9_refuse l dC dI cI cB cZ cJ cR tb H.size ad pr N L1 L2 v (3 : Int32) r347 (show l.stackTraces = false from hst) (show (3 : Int) ≠ 0 from om_59881768ad)) tw_459 tw_511 (by decide +kernel) rfl rfl ⟨show 6 + 1 ≤ 8 * n + 15 from om_838586afae, show 8 + (3 + 11) + 82 ≤ 28 * (8 * n + 15) from om_41a9d63453⟩ (List.range (cW ad pr N cI cR L1 L2 v).length) (rg_map _) (nd_range _) 0 rfl rfl rfl rfl hl.1 rfl (Nat.le_of_ble_eq_true rfl) dX2_named_92 ⟨Nat.le_of_ble_eq_true rfl, Nat.le_of_ble_eq_true rfl⟩) hP hD hS hA (fun u9 ce9 q9 H locs hx9 hP hD hS hc9 hv9 hf9 => ?_) (fun u349 H locs hw348 hP hD hS hz8 => ?_)
          · exact vx_out (fun x h9 => (hnt x h9).elim) hlocks hc9 hv9 hf9 (fun t9 ht9 hv8 => ⟨u9, ⟨FC.tr (FC.rf _) hx9.1, hx9.2.1, ⟨z304, z305, z306, z312, z321, z326, z373, z381, zd, zlb, r3, ex1, r6, ex4, r9, ex7, c7, (Or.inr (⟨z161, r164, ex162, r167, ex165, z170, (Or.inr (⟨z200, (Or.inr (⟨z343, r347, ex345, u9, hx9.2.2, rfl, rfl, rfl⟩))⟩))⟩))⟩⟩, ⟨rfl, by rw [ht9]; exact hP, hD⟩, hS.F ht9⟩) hS.2.2 (Nat.le_refl _) (Nat.le_refl _)
          refine W.shrink (hz8.trans hz9) ?_
          obtain ⟨fr348, ex348, no348, rs348⟩ := hw348
          exact no348.elim
theorem om_ae1d63f123 {n0 : Nat} : 0 + 1 ≤ 8 * n0 + 16 := by omega
theorem om_e9b1f44c62 {n0 : Nat} : 8 + (1 + 11) + 0 ≤ 28 * (8 * n0 + 16) := by omega
theorem om_e4ab3742b2 {n0 : Nat} : (8 * n0 + 15) + 1 ≤ 8 * n0 + 16 := by omega
theorem om_b6bf2dd701 {n0 : Nat} : 8 + (7 + 11) + 28 * (8 * n0 + 15) ≤ 28 * (8 * n0 + 16) := by omega
theorem om_c55c38ddc1 {x0 x1 : Int} (h0 : 0 ≤ x0 ∧ x0 ≤ 1500) (h1 : 0 ≤ x1 ∧ x1 ≤ 1500) (h2 : x0 + 1 ≤ x1) : 0 ≤ x1 ∧ x1 ≤ 1500 := by omega
theorem om_a26ca01a96 {x0 x1 x2 x3 x4 x5 : Int} (h0 : x0 + x1 - 2 * x2 ≤ 0) (h1 : 0 ≤ x3 ∧ x3 ≤ 1500) (h2 : 0 ≤ x4 ∧ x4 ≤ 420) (h3 : 0 ≤ x5 ∧ x5 ≤ 3008) (h4 : x5 + x4 - 2 * x3 + (1) ≤ x0 + x1 - 2 * x2) : 0 ≤ x5 ∧ x5 ≤ 3008 := by omega
theorem om_9440a3056d {x0 x1 x2 x3 x4 x5 : Int} (h0 : x0 + x1 - 2 * x2 + (1) ≤ x3 + x4 - 2 * x5) : x0 + x1 - 2 * x2 + (1) ≤ x3 + x4 - 2 * x5 := by omega
theorem om_57733d93f1 {x0 x1 : Int} (h0 : x0 + 1 ≤ x1) : x0 + 1 ≤ x1 := by omega
theorem om_ba94842585 {x0 x1 x2 : Int} (h0 : 0 ≤ x0 ∧ x0 ≤ 1500) (h1 : 0 ≤ x1 ∧ x1 ≤ 420) (h2 : x2 + x1 - 2 * x0 ≤ 0) : x2 < 3008 := by omega
theorem om_c598daa799 {n0 : Nat} : 8 + (5 + 11) + 0 ≤ 28 * (8 * n0 + 16) := by omega
theorem om_80738ea86d {n0 : Nat} : 7 + 1 ≤ 8 * n0 + 16 := by omega
theorem om_4c5be64de3 {n0 : Nat} : 8 + (1 + 11) + 104 ≤ 28 * (8 * n0 + 16) := by omega
theorem om_19c6d9200f {x0 x1 x2 x3 x4 : Int} (h0 : 0 ≤ x0 ∧ x0 ≤ 1500) (h1 : 0 ≤ x1 ∧ x1 ≤ 420) (h2 : 0 ≤ x2 ∧ x2 ≤ 3008) (h3 : x2 + x1 - 2 * x0 ≤ 0) (h4 : x3 = x2 + 1) (h5 : x4 = x3) : 0 ≤ x4 ∧ x4 ≤ 3008 := by omega
theorem om_355c2ebeb5 {x0 x1 x2 x3 x4 x5 x6 x7 x8 : Int} (h0 : x0 = x1) (h1 : x2 = x3) (h2 : x4 = x5 + 1) (h3 : x6 = x2) (h4 : x7 = x4) (h5 : x8 = x0 + 1) : x7 + x6 - 2 * x8 + (1) ≤ x5 + x3 - 2 * x1 := by omega
theorem om_5b4879894b {x0 x1 x2 : Int} (h0 : x0 = x1) (h1 : x2 = x0 + 1) : x1 + 1 ≤ x2 := by omega
theorem om_650fe47e88 {x0 x1 x2 x3 x4 x5 : Int} (h0 : x0 = x1) (h1 : x2 = x3) (h2 : x4 = x2) (h3 : x5 = x0 + 1) : x3 ≤ x4 ∧ x4 - 4 * x5 ≤ x3 - 4 * x1 + 0 := by omega
theorem om_65a2264104 {n0 : Nat} : 6 + 1 ≤ 8 * n0 + 16 := by omega
theorem om_65f670dc44 {n0 : Nat} : 8 + (3 + 11) + 82 ≤ 28 * (8 * n0 + 16) := by omega
theorem om_6c7d6f0de2 {n0 : Nat} : 8 + (2 + 11) + 104 ≤ 28 * (8 * n0 + 16) := by omega
theorem om_5b4796cdd5 {x0 x1 x2 x3 x4 x5 x6 x7 x8 : Int} (h0 : 0 ≤ x0 ∧ x0 ≤ 420) (h1 : 0 ≤ x1 ∧ x1 ≤ 3008) (h2 : x1 + x0 - 2 * x2 ≤ 0) (h3 : x3 = x1) (h4 : 0 ≤ x4 ∧ x4 ≤ 1500) (h5 : x4 = x2 + 1) (h6 : x5 = x3) (h7 : x6 = x5) (h8 : x7 = x6) (h9 : x8 = x7) : 0 ≤ x8 ∧ x8 ≤ 3008 := by omega
theorem om_7c6b58533c {x0 x1 x2 x3 x4 x5 x6 x7 x8 : Int} (h0 : 0 ≤ x0 ∧ x0 ≤ 420) (h1 : x1 + x0 - 2 * x2 ≤ 0) (h2 : x3 = x1) (h3 : 0 ≤ x4 ∧ x4 ≤ 1500) (h4 : x4 = x2 + 1) (h5 : x5 = x3) (h6 : x6 = x5) (h7 : x7 = x6) (h8 : x8 = x7) : x8 < 3008 := by omega
theorem om_11909f75cd {x0 x1 x2 x3 x4 x5 x6 : Int} (h0 : 0 ≤ x0 ∧ x0 ≤ 1500) (h1 : x1 = x0 + 1) (h2 : x2 = x1) (h3 : x3 = x2 + 1) (h4 : 0 ≤ x4 ∧ x4 ≤ 1500) (h5 : x4 = x3 + 1) (h6 : x5 = x4) (h7 : x6 = x5) : 0 ≤ x6 ∧ x6 ≤ 1500 := by omega
theorem om_69473c0e90 {x0 x1 x2 x3 x4 x5 x6 : Int} (h0 : 0 ≤ x0 ∧ x0 ≤ 501) (h1 : x1 = x0) (h2 : x2 = x1) (h3 : x3 = x2) (h4 : x4 = x3) (h5 : x5 = x4) (h6 : x6 = x5) : 0 ≤ x6 ∧ x6 ≤ 501 := by omega
theorem om_3c86b03c50 {x0 x1 x2 x3 x4 x5 x6 x7 x8 x9 x10 x11 x12 x13 x14 x15 x16 x17 x18 x19 x20 : Int} (h0 : x0 = x1) (h1 : x2 = x3) (h2 : x4 = x5 + 1) (h3 : x6 = x4) (h4 : x7 = x0) (h5 : x8 = x2) (h6 : x9 = x7) (h7 : x10 = x8) (h8 : x11 = x6 + 1) (h9 : x12 = x9) (h10 : x13 = x10) (h11 : x14 = x11 + 1) (h12 : x15 = x14) (h13 : x16 = x12) (h14 : x17 = x13) (h15 : x18 = x15) (h16 : x19 = x16) (h17 : x20 = x17 + 1) : x20 + x19 - 2 * x18 + (1) ≤ x3 + x1 - 2 * x5 := by omega
theorem om_97dde9319f {x0 x1 x2 x3 x4 x5 x6 : Int} (h0 : x0 = x1 + 1) (h1 : x2 = x0) (h2 : x3 = x2 + 1) (h3 : x4 = x3 + 1) (h4 : x5 = x4) (h5 : x6 = x5) : x1 + 1 ≤ x6 := by omega
theorem om_385d34433d {x0 x1 x2 x3 x4 x5 x6 x7 x8 x9 x10 x11 x12 x13 : Int} (h0 : x0 = x1) (h1 : x2 = x3 + 1) (h2 : x4 = x2) (h3 : x5 = x0) (h4 : x6 = x5) (h5 : x7 = x4 + 1) (h6 : x8 = x6) (h7 : x9 = x7 + 1) (h8 : x10 = x9) (h9 : x11 = x8) (h10 : x12 = x10) (h11 : x13 = x11) : x1 ≤ x13 ∧ x13 - 4 * x12 ≤ x1 - 4 * x3 + 0 := by omega
theorem om_c2eb7aaa98 {n0 n1 : Nat} (h0 : n0 = n1 + 1) : (8 * n1 + 20) + 1 ≤ 8 * n0 + 16 := by omega
theorem om_c2d39c1233 {n0 n1 : Nat} (h0 : n0 = n1 + 1) : 8 + (5 + 11) + 28 * (8 * n1 + 20) ≤ 28 * (8 * n0 + 16) := by omega
theorem om_fd2fd619f8 {x0 x1 x2 x3 x4 : Int} (h0 : 0 ≤ x0 ∧ x0 ≤ 1500) (h1 : x1 = x0 + 1) (h2 : x1 + 1 ≤ x2) (h3 : 0 ≤ x3 ∧ x3 ≤ 1500) (h4 : x3 = x2 + 1) (h5 : x4 = x3) : 0 ≤ x4 ∧ x4 ≤ 1500 := by omega
theorem om_30a810b581 {x0 x1 x2 x3 x4 x5 x6 x7 x8 x9 x10 : Int} (h0 : x0 + x1 - 2 * x2 ≤ 0) (h1 : x3 = x1) (h2 : x4 = x0) (h3 : x5 = x2 + 1) (h4 : 0 ≤ x6 ∧ x6 ≤ 1500) (h5 : 0 ≤ x7 ∧ x7 ≤ 420) (h6 : 0 ≤ x8 ∧ x8 ≤ 3008) (h7 : x8 + x7 - 2 * x6 + (1) ≤ x4 + x3 - 2 * x5) (h8 : x9 = x8) (h9 : x10 = x9) : 0 ≤ x10 ∧ x10 ≤ 3008 := by omega
theorem om_ce876ad6bf {x0 x1 x2 x3 x4 x5 x6 x7 x8 x9 x10 x11 x12 x13 x14 : Int} (h0 : x0 = x1) (h1 : x2 = x3) (h2 : x4 = x5 + 1) (h3 : x6 + x7 - 2 * x8 + (1) ≤ x2 + x0 - 2 * x4) (h4 : x9 = x7) (h5 : x10 = x6) (h6 : x11 = x8 + 1) (h7 : x12 = x11) (h8 : x13 = x9) (h9 : x14 = x10) : x14 + x13 - 2 * x12 + (1) ≤ x3 + x1 - 2 * x5 := by omega
theorem om_3334a63f53 {x0 x1 x2 x3 x4 : Int} (h0 : x0 = x1 + 1) (h1 : x0 + 1 ≤ x2) (h2 : x3 = x2 + 1) (h3 : x4 = x3) : x1 + 1 ≤ x4 := by omega
theorem om_08585cd7ae {x0 x1 x2 x3 x4 x5 x6 x7 x8 x9 : Int} (h0 : x0 = x1) (h1 : x2 = x3 + 1) (h2 : x0 ≤ x4 ∧ x4 - 4 * x5 ≤ x0 - 4 * x2 + 0) (h3 : x6 = x4) (h4 : x7 = x5 + 1) (h5 : x8 = x7) (h6 : x9 = x6) : x1 ≤ x9 ∧ x9 - 4 * x8 ≤ x1 - 4 * x3 + 0 := by omega
theorem om_4fee7d990b {x0 x1 x2 x3 x4 : Int} (h0 : x0 = x1 + 1) (h1 : x2 = x0) (h2 : x3 = x2) (h3 : x4 = x3 - 1) : x4 = x1 := by omega
theorem om_05cf7bd78c {n0 : Nat} : (8 * n0 + 14) + 1 ≤ 8 * n0 + 16 := by omega
theorem om_e3c8a2a66c {n0 : Nat} : 8 + (2 + 11) + 28 * (8 * n0 + 14) ≤ 28 * (8 * n0 + 16) := by omega
theorem om_bc66ba86e4 {x0 x1 x2 x3 x4 x5 : Int} (h0 : x0 + x1 - 2 * x2 ≤ 0) (h1 : 0 ≤ x3 ∧ x3 ≤ 1500) (h2 : 0 ≤ x4 ∧ x4 ≤ 420) (h3 : 0 ≤ x5 ∧ x5 ≤ 3008) (h4 : x5 + x4 - 2 * x3 + (2) ≤ x0 + x1 - 2 * x2) : 0 ≤ x5 ∧ x5 ≤ 3008 := by omega
theorem om_d419e8fae7 {x0 x1 x2 x3 x4 x5 : Int} (h0 : x0 + x1 - 2 * x2 + (2) ≤ x3 + x4 - 2 * x5) : x0 + x1 - 2 * x2 + (1) ≤ x3 + x4 - 2 * x5 := by omega
theorem om_8a2d1ecdf4 {x0 x1 : Int} (h0 : x0 + 2 ≤ x1) : x0 + 1 ≤ x1 := by omega
set_option maxHeartbeats 16000000 in
set_option maxRecDepth 100000 in
theorem c_x_X2_operand (l : Launch) (n : Nat) (ihE : ∀ m, n = m + 1 → Cq_expression l m) (ihO : ∀ m, n = m + 1 → Cq_operand l m) (dC : Nat → ClassId) (dI : Nat → Nat → Nat) (cI cB cZ cJ cR : ClassId) (tb : Nat → Nat) (sz : Nat) (ad : Nat → Nat) (pr : Int32 → Nat) (N : Nat) (L1 L2 : List Nat) (v : MS) (pa : Int32) (ps : Int32) (z304 : 0 ≤ (v.1 0 304).toInt ∧ (v.1 0 304).toInt ≤ 1503) (z305 : 0 ≤ (v.1 0 305).toInt ∧ (v.1 0 305).toInt ≤ 1500) (z306 : 0 ≤ (v.1 0 306).toInt ∧ (v.1 0 306).toInt ≤ 40) (z312 : 0 ≤ (v.1 0 312).toInt ∧ (v.1 0 312).toInt ≤ 500) (z321 : 0 ≤ (v.1 0 321).toInt ∧ (v.1 0 321).toInt ≤ 501) (z326 : 0 ≤ (v.1 0 326).toInt ∧ (v.1 0 326).toInt ≤ 420) (z373 : 0 ≤ (v.1 0 373).toInt ∧ (v.1 0 373).toInt ≤ 4000) (z381 : 0 ≤ (v.1 0 381).toInt ∧ (v.1 0 381).toInt ≤ 3008) (hL1 : L1.length = 40) (hL2 : L2.length = 60) (rp : RP v) (hps : pr ps = ad 908) (es300 : (v.1 0 300) = ps) (es310 : (v.1 0 310) = ps) (hst : l.stackTraces = false) (zd : (v.1 0 381).toInt + (v.1 0 326).toInt - 2 * (v.1 0 305).toInt ≤ 0) (zlb : 0 ≤ (v.1 0 317).toInt ∧ (v.1 0 317).toInt - 4 * (v.1 0 305).toInt ≤ 8) (zn : 40 ≤ (v.1 0 306).toInt + (n : Int)) : vx_Met l yX2_operand (Cond.code yX2_operand cX2_operand 2 (some .boolean) :: tw_W) ({ frames := 8 * n + 16, cells := 1, slots := 6, locals := 28 * (8 * n + 16) }) (pc_ (dC, dI) (tyS cI cB cZ cJ cR) tb (cW ad pr N cI cR L1 L2 v) sz [.ref (ad 902), .int pa]) (qiz_ (dC, dI) (cW ad pr N cI cR L1 L2 v) sz (fun (r : Int32) (u : MS) => FC [305, 306, 307, 314, 315, 317, 321, 326, 381] [0, 316, 318, 319, 320, 324, 325, 378, 379, 380] v u ∧ (QO L1 L2 n v pa false r u) ∧ (0 ≤ (u.1 0 305).toInt ∧ (u.1 0 305).toInt ≤ 1500) ∧ (0 ≤ (u.1 0 306).toInt ∧ (u.1 0 306).toInt ≤ 40) ∧ (0 ≤ (u.1 0 321).toInt ∧ (u.1 0 321).toInt ≤ 501) ∧ (0 ≤ (u.1 0 326).toInt ∧ (u.1 0 326).toInt ≤ 420) ∧ (0 ≤ (u.1 0 381).toInt ∧ (u.1 0 381).toInt ≤ 3008) ∧ ((u.1 0 381).toInt + (u.1 0 326).toInt - 2 * (u.1 0 305).toInt + (1) ≤ (v.1 0 381).toInt + (v.1 0 326).toInt - 2 * (v.1 0 305).toInt) ∧ ((v.1 0 305).toInt + 1 ≤ (u.1 0 305).toInt) ∧ ((v.1 0 317).toInt ≤ (u.1 0 317).toInt ∧ (u.1 0 317).toInt - 4 * (u.1 0 305).toInt ≤ (v.1 0 317).toInt - 4 * (v.1 0 305).toInt + 0) ∧ ((u.1 0 306).toInt = (v.1 0 306).toInt) ∧ (RS v u) ∧ (r = 0 ∨ r = 1)) (fun (u : MS) => (cW ad pr N cI cR L1 L2 u))) (qxc (dC, dI) (cW ad pr N cI cR L1 L2 v) sz (fun (u : MS) => (cW ad pr N cI cR L1 L2 u)) (fun (u : MS) => FC xfl xal v u ∧ (u.1 0 308).toInt ≠ 0 ∧ (QO L1 L2 n v pa true 0 u))) 1 6 (va_A (cW ad pr N cI cR L1 L2 v) sz) := by
  refine vx_ofW (cc := cX2_operand) (maxL := 2) (ret := (some .boolean)) (by decide) rfl ?_
  intro p e s m args below meth c s₁ B hml hnt hv
  obtain ⟨rfl, hsz, hP, hKK, hD0, hFx⟩ := hv
  have hK := hKK.1
  have hx := B.exec
  have hb := B.bytes
  have hr := B.returns
  have ht : ∀ w ∈ tw_W, w.before _ s = true := fun w h => atoms_spec (ws := Cond.code yX2_operand cX2_operand 2 (some .boolean) :: tw_W) B.pre w (List.mem_cons_of_mem _ h)
  have hown : s.vm.findClass RX2 = some m.cls := findClass_of_methodNamed B.named
  have hlocks := B.notSynchronized
  subst hsz
  unfold qiz_ qxc
  have hD := hD0.self (sz := s.heap.size)
  generalize hAe : va_A (cW ad pr N cI cR L1 L2 v) s.heap.size = A at hD hFx ⊢
  have hA : ∀ q : Nat, s.heap.size ≤ q → A q := fun q h => by rw [← hAe]; exact Or.inr h
  have hS : va_S A s.heap s.heap [] := va_S.rf
  have hl := lv_entry ([.ref (ad 902), .int pa]) (n := 2) (Nat.le_of_ble_eq_true rfl)
  rw [lg_entry_eq]
  generalize (lg_sl ([.ref (ad 902), .int pa]) ++ List.replicate (2 - (lg_sl ([.ref (ad 902), .int pa])).length) Slot.unset).toArray = ls at hl ⊢
  have hl : lv_has ls 2 [(0, .ref (ad 902)), (1, .int pa)] := hl
  refine lv_aload_n hx hb dX2_operand_0 rfl (lv_at hl 0 rfl) ?_
  refine va_get (D := (dC, dI)) (ci := 6) (fs := oF_X2 ad pr v) (v := .ref (ad 900)) (C := RX2) (T := TX2) (N := 5) hx hb ht itX2 hown hK hP 2 rfl rfl 0 (by decide) (ht _ tw_509) (fun _ h9 => h9) rfl dX2_operand_1 ?_
  refine cu_i (rn_Vk (n := 0) (As := []) (rest := []) hx hb hml hown ht hKK hFx hP hD hS hA (c_x_X9_kind l dC dI cI cB cZ cJ cR tb s.heap.size ad pr N L1 L2 v  (show 0 ≤ (v.1 0 304).toInt ∧ (v.1 0 304).toInt ≤ 1503 from (om_c99648273b z304)) (show 0 ≤ (v.1 0 305).toInt ∧ (v.1 0 305).toInt ≤ 1500 from (om_7897b4ccef z305))) tw_455 tw_532 (by decide +kernel) rfl rfl ⟨show 0 + 1 ≤ 8 * n + 16 from om_ae1d63f123, show 8 + (1 + 11) + 0 ≤ 28 * (8 * n + 16) from om_e9b1f44c62⟩ (List.range (cW ad pr N cI cR L1 L2 v).length) (rg_map _) (nd_range _) 0 rfl rfl rfl rfl hl.1 rfl (Nat.le_of_ble_eq_true rfl) dX2_operand_4 ⟨Nat.le_of_ble_eq_true rfl, Nat.le_of_ble_eq_true rfl⟩) hP hD hS hA (fun r3 u2 H locs hw1 hP hD hS => ?_)
  obtain ⟨rfl, ex1⟩ := hw1
  refine W.widen (k := 0) (n := 0) (Nat.le_refl _) (Nat.le_refl _) ?_
  by_cases h4 : r3 = 2
  · refine lv_lookup (off := 229) (tgt := 236) hx hb dX2_operand_7 (by decide) (by rw [h4]; decide) (by decide) ?_
    refine lv_aload_n hx hb dX2_operand_236 rfl (lv_at hl 0 rfl) ?_
    refine lv_iload_n hx hb dX2_operand_237 rfl (lv_at hl 1 rfl) ?_
    refine W.sz (fun hz9 => ?_)
    refine czx_i (rx_Vk (n := 1) (As := [.int pa]) (rest := []) hx hb hml hown ht hKK hFx hP hD hS hA (c_x_X2_named l n ihE dC dI cI cB cZ cJ cR tb H.size ad pr N L1 L2 v pa ps (show 0 ≤ (v.1 0 304).toInt ∧ (v.1 0 304).toInt ≤ 1503 from (om_c99648273b z304)) (show 0 ≤ (v.1 0 305).toInt ∧ (v.1 0 305).toInt ≤ 1500 from (om_7897b4ccef z305)) (show 0 ≤ (v.1 0 306).toInt ∧ (v.1 0 306).toInt ≤ 40 from (om_7eaf33e007 z306)) (show 0 ≤ (v.1 0 312).toInt ∧ (v.1 0 312).toInt ≤ 500 from (om_9861e69da5 z312)) (show 0 ≤ (v.1 0 321).toInt ∧ (v.1 0 321).toInt ≤ 501 from (om_e1d35f5faf z321)) (show 0 ≤ (v.1 0 326).toInt ∧ (v.1 0 326).toInt ≤ 420 from (om_839d7ed7dd z326)) (show 0 ≤ (v.1 0 373).toInt ∧ (v.1 0 373).toInt ≤ 4000 from (om_c74a68af25 z373)) (show 0 ≤ (v.1 0 381).toInt ∧ (v.1 0 381).toInt ≤ 3008 from (om_d5d375da37 z305 z326 z381 zd)) (show L1.length = 40 from hL1) (show L2.length = 60 from hL2) (show RP v from rp) (show pr ps = ad 908 from hps) (show (v.1 0 300) = ps from es300) (show (v.1 0 310) = ps from es310) (show l.stackTraces = false from hst) (show (v.1 0 381).toInt + (v.1 0 326).toInt - 2 * (v.1 0 305).toInt ≤ 0 from (om_53f6704e77 zd)) (show 0 ≤ (v.1 0 317).toInt ∧ (v.1 0 317).toInt - 4 * (v.1 0 305).toInt ≤ 8 from (om_8c45074a6a zlb)) (show 40 ≤ (v.1 0 306).toInt + (n : Int) from (om_a9150ae9b6 zn))) tw_557 tw_558 (by decide +kernel) rfl rfl ⟨show (8 * n + 15) + 1 ≤ 8 * n + 16 from om_e4ab3742b2, show 8 + (7 + 11) + 28 * (8 * n + 15) ≤ 28 * (8 * n + 16) from om_b6bf2dd701⟩ (List.range (cW ad pr N cI cR L1 L2 v).length) (rg_map _) (nd_range _) 2 rfl rfl rfl rfl hl.1 rfl (Nat.le_of_ble_eq_true rfl) dX2_operand_238 ⟨Nat.le_of_ble_eq_true rfl, Nat.le_of_ble_eq_true rfl⟩) hP hD hS hA (fun u9 ce9 q9 H locs hx9 hP hD hS hc9 hv9 hf9 => ?_) (fun r7 u6 H locs hw5 hP hD hS hz8 => ?_)
    · exact vx_out (fun x h9 => (hnt x h9).elim) hlocks hc9 hv9 hf9 (fun t9 ht9 hv8 => ⟨u9, ⟨FC.tr (FC.rf _) hx9.1, hx9.2.1, (by rw [QO_eq]; exact ⟨z304, z305, z306, z312, z321, z326, z373, z381, zd, zlb, r3, ex1, (Or.inl ⟨h4, (Or.inl ⟨u9, hx9.2.2, rfl, rfl, rfl⟩)⟩)⟩)⟩, ⟨rfl, by rw [ht9]; exact hP, hD⟩, hS.F ht9⟩) hS.2.2 (Nat.le_refl _) (Nat.le_refl _)
    refine W.shrink (hz8.trans hz9) ?_
    obtain ⟨fr5, ex5, i3055, i3065, i3215, i3265, i3815, pd5, pt5, plb5, po5, rs5, bz5⟩ := hw5
    refine W.sz (fun hz => ?_)
    refine vx_ret ?_
    refine W.widen (k := 1) (n := 6) (Nat.le_of_ble_eq_true rfl) (Nat.le_of_ble_eq_true rfl) ?_
    exact W.zret (v := r7) hx hb hr (bz_ bz5) (fun t ht9 hW => ⟨⟨r7, u6, rfl, ⟨(FC.tr (FC.rf _) (FC.up fr5 (by decide) (by decide))), (by rw [QO_eq]; exact ⟨z304, z305, z306, z312, z321, z326, z373, z381, zd, zlb, r3, ex1, (Or.inl ⟨h4, (Or.inr (⟨r7, u6, ex5, ⟨fr5, i3055, i3065, i3215, i3265, i3815, pd5, pt5, plb5, po5, rs5⟩, rfl, rfl, rfl⟩))⟩)⟩), (show 0 ≤ (u6.1 0 305).toInt ∧ (u6.1 0 305).toInt ≤ 1500 from (om_c55c38ddc1 z305 i3055 pt5)), (show 0 ≤ (u6.1 0 306).toInt ∧ (u6.1 0 306).toInt ≤ 40 from (om_7eaf33e007 i3065)), (show 0 ≤ (u6.1 0 321).toInt ∧ (u6.1 0 321).toInt ≤ 501 from (om_e1d35f5faf i3215)), (show 0 ≤ (u6.1 0 326).toInt ∧ (u6.1 0 326).toInt ≤ 420 from (om_839d7ed7dd i3265)), (show 0 ≤ (u6.1 0 381).toInt ∧ (u6.1 0 381).toInt ≤ 3008 from (om_a26ca01a96 zd i3055 i3265 i3815 pd5)), (show (u6.1 0 381).toInt + (u6.1 0 326).toInt - 2 * (u6.1 0 305).toInt + (1) ≤ (v.1 0 381).toInt + (v.1 0 326).toInt - 2 * (v.1 0 305).toInt from (om_9440a3056d pd5)), (show (v.1 0 305).toInt + 1 ≤ (u6.1 0 305).toInt from (om_57733d93f1 pt5)), (show (v.1 0 317).toInt ≤ (u6.1 0 317).toInt ∧ (u6.1 0 317).toInt - 4 * (u6.1 0 305).toInt ≤ (v.1 0 317).toInt - 4 * (v.1 0 305).toInt + 0 from (om_53a6d658c3 plb5)), (show (u6.1 0 306).toInt = (v.1 0 306).toInt from (om_5049cbdce5 po5)), (RS.tr RS.rf rs5), bz5⟩, ⟨by rw [ht9]; exact hP, hD⟩, by rw [ht9]; exact hz⟩, hS.F ht9⟩) hS.2.2 dX2_operand_241
  ·
    by_cases h8 : r3 = 3
    · refine lv_lookup (off := 105) (tgt := 112) hx hb dX2_operand_7 (by decide) (by rw [h8]; decide) (by decide) ?_
      refine lv_aload_n hx hb dX2_operand_112 rfl (lv_at hl 0 rfl) ?_
      refine va_get (D := (dC, dI)) (ci := 6) (fs := oF_X2 ad pr v) (v := .ref (ad 901)) (C := RX2) (T := TX2) (N := 5) hx hb ht itX2 hown hK hP 2 rfl rfl 1 (by decide) (ht _ tw_498) (fun _ h9 => h9) rfl dX2_operand_113 ?_
      refine lv_iconst (v := 2) hx hb dX2_operand_116 (by decide) ?_
      refine lv_aload_n hx hb dX2_operand_117 rfl (lv_at hl 0 rfl) ?_
      refine va_get (D := (dC, dI)) (ci := 6) (fs := oF_X2 ad pr v) (v := .ref (ad 900)) (C := RX2) (T := TX2) (N := 5) hx hb ht itX2 hown hK hP 2 rfl rfl 0 (by decide) (ht _ tw_509) (fun _ h9 => h9) rfl dX2_operand_118 ?_
      refine cu_i (rn_Vk (n := 0) (As := []) (rest := [.int 2, .ref (ad 901)]) hx hb hml hown ht hKK hFx hP hD hS hA (c_x_X9_value l dC dI cI cB cZ cJ cR tb H.size ad pr N L1 L2 v  (show 0 ≤ (v.1 0 304).toInt ∧ (v.1 0 304).toInt ≤ 1503 from (om_c99648273b z304)) (show 0 ≤ (v.1 0 305).toInt ∧ (v.1 0 305).toInt ≤ 1500 from (om_7897b4ccef z305))) tw_535 tw_536 (by decide +kernel) rfl rfl ⟨show 0 + 1 ≤ 8 * n + 16 from om_ae1d63f123, show 8 + (1 + 11) + 0 ≤ 28 * (8 * n + 16) from om_e9b1f44c62⟩ (List.range (cW ad pr N cI cR L1 L2 v).length) (rg_map _) (nd_range _) 0 rfl rfl rfl rfl hl.1 rfl (Nat.le_of_ble_eq_true rfl) dX2_operand_121 ⟨Nat.le_of_ble_eq_true rfl, Nat.le_of_ble_eq_true rfl⟩) hP hD hS hA (fun r11 u10 H locs hw9 hP hD hS => ?_)
      obtain ⟨rfl, ex9⟩ := hw9
      refine W.widen (k := 0) (n := 0) (Nat.le_refl _) (Nat.le_refl _) ?_
      refine lv_iconst (v := 0) hx hb dX2_operand_124 (by decide) ?_
      refine cu_v (rn_Vk (n := 3) (As := [.int 2, .int r11, .int 0]) (rest := []) hx hb hml hown ht hKK hFx hP hD hS hA (c_x_X1_add l dC dI cI cB cZ cJ cR tb H.size ad pr N L1 L2 v (2 : Int32) r11 (0 : Int32) ps (show 0 ≤ (v.1 0 381).toInt ∧ (v.1 0 381).toInt ≤ 3008 from (om_d5d375da37 z305 z326 z381 zd)) (show pr ps = ad 908 from hps) (show (v.1 0 310) = ps from es310) (show (v.1 0 381).toInt < 3008 from (om_ba94842585 z305 z326 zd))) tw_499 tw_500 (by decide +kernel) rfl rfl ⟨show 0 + 1 ≤ 8 * n + 16 from om_ae1d63f123, show 8 + (5 + 11) + 0 ≤ 28 * (8 * n + 16) from om_c598daa799⟩ (List.range (cW ad pr N cI cR L1 L2 v).length) (rg_map _) (nd_range _) 1 rfl rfl rfl rfl hl.1 rfl (Nat.le_of_ble_eq_true rfl) dX2_operand_125 ⟨Nat.le_of_ble_eq_true rfl, Nat.le_of_ble_eq_true rfl⟩) hP hD hS hA (fun u13 H locs hw12 hP hD hS => ?_)
      obtain ⟨fr12, ex12, i38112, pd12, rs12⟩ := hw12
      refine W.widen (k := 0) (n := 0) (Nat.le_refl _) (Nat.le_refl _) ?_
      refine lv_aload_n hx hb dX2_operand_128 rfl (lv_at hl 0 rfl) ?_
      refine va_get (D := (dC, dI)) (ci := 6) (fs := oF_X2 ad pr u13) (v := .ref (ad 900)) (C := RX2) (T := TX2) (N := 5) hx hb ht itX2 hown hK hP 2 rfl rfl 0 (by decide) (ht _ tw_509) (fun _ h9 => h9) rfl dX2_operand_129 ?_
      have q15 : (u13.1 0 304).toInt = (v.1 0 304).toInt := congrArg Int32.toInt ((fr12.2.1 304 (by decide)).trans (show v.1 0 304 = (v.1 0 304) by rfl))
      have q16 : (u13.1 0 305).toInt = (v.1 0 305).toInt := congrArg Int32.toInt ((fr12.2.1 305 (by decide)).trans (show v.1 0 305 = (v.1 0 305) by rfl))
      have q17 : (u13.1 0 373).toInt = (v.1 0 373).toInt := congrArg Int32.toInt ((fr12.2.1 373 (by decide)).trans (show v.1 0 373 = (v.1 0 373) by rfl))
      refine W.sz (fun hz9 => ?_)
      refine czx_v (rx_Vk (n := 0) (As := []) (rest := []) hx hb hml hown ht hKK hFx hP hD hS hA (c_x_X9_take l dC dI cI cB cZ cJ cR tb H.size ad pr N L1 L2 u13 ps (show 0 ≤ (u13.1 0 304).toInt ∧ (u13.1 0 304).toInt ≤ 1503 from (om_73002589c1 z304 q15)) (show 0 ≤ (u13.1 0 305).toInt ∧ (u13.1 0 305).toInt ≤ 1500 from (om_c93ca3468d z305 q16)) (show 0 ≤ (u13.1 0 373).toInt ∧ (u13.1 0 373).toInt ≤ 4000 from (om_9084c127ed z373 q17)) (show pr ps = ad 908 from hps) (show (u13.1 0 300) = ps from (Eq.trans (fr12.2.1 300 (by decide)) es300)) (show l.stackTraces = false from hst)) tw_539 tw_540 (by decide +kernel) rfl rfl ⟨show 7 + 1 ≤ 8 * n + 16 from om_80738ea86d, show 8 + (1 + 11) + 104 ≤ 28 * (8 * n + 16) from om_4c5be64de3⟩ (List.range (cW ad pr N cI cR L1 L2 u13).length) (rg_map _) (nd_range _) 0 rfl rfl rfl rfl hl.1 rfl (Nat.le_of_ble_eq_true rfl) dX2_operand_132 ⟨Nat.le_of_ble_eq_true rfl, Nat.le_of_ble_eq_true rfl⟩) hP hD hS hA (fun u9 ce9 q9 H locs hx9 hP hD hS hc9 hv9 hf9 => ?_) (fun u19 H locs hw18 hP hD hS hz8 => ?_)
      · exact vx_out (fun x h9 => (hnt x h9).elim) hlocks hc9 hv9 hf9 (fun t9 ht9 hv8 => ⟨u9, ⟨FC.tr (FC.tr (FC.rf _) (FC.up fr12 (by decide) (by decide))) hx9.1, hx9.2.1, (by rw [QO_eq]; exact ⟨z304, z305, z306, z312, z321, z326, z373, z381, zd, zlb, r3, ex1, (Or.inr (⟨h4, (Or.inl ⟨h8, r11, ex9, u13, ex12, ⟨fr12, i38112, pd12, rs12⟩, (Or.inl ⟨u9, hx9.2.2, rfl, rfl, rfl⟩)⟩)⟩))⟩)⟩, ⟨rfl, by rw [ht9]; exact hP, hD⟩, hS.F ht9⟩) hS.2.2 (Nat.le_refl _) (Nat.le_refl _)
      refine W.shrink (hz8.trans hz9) ?_
      obtain ⟨fr18, ex18, i30518, pt18, rs18⟩ := hw18
      have i30518 : 0 ≤ (u19.1 0 305).toInt ∧ (u19.1 0 305).toInt ≤ 1500 := i30518
      have pt18 : (u19.1 0 305).toInt = (u13.1 0 305).toInt + 1 := pt18
      have rs18 : RS u13 u19 := rs18
      refine lv_iconst (v := 0) hx hb dX2_operand_135 (by decide) ?_
      have q21 : (u13.1 0 306).toInt = (v.1 0 306).toInt := congrArg Int32.toInt ((fr12.2.1 306 (by decide)).trans (show v.1 0 306 = (v.1 0 306) by rfl))
      have q22 : (u19.1 0 306).toInt = (u13.1 0 306).toInt := congrArg Int32.toInt ((fr18.2.1 306 (by decide)).trans (show u13.1 0 306 = (u13.1 0 306) by rfl))
      have q23 : (u13.1 0 321).toInt = (v.1 0 321).toInt := congrArg Int32.toInt ((fr12.2.1 321 (by decide)).trans (show v.1 0 321 = (v.1 0 321) by rfl))
      have q24 : (u19.1 0 321).toInt = (u13.1 0 321).toInt := congrArg Int32.toInt ((fr18.2.1 321 (by decide)).trans (show u13.1 0 321 = (u13.1 0 321) by rfl))
      have q25 : (u13.1 0 326).toInt = (v.1 0 326).toInt := congrArg Int32.toInt ((fr12.2.1 326 (by decide)).trans (show v.1 0 326 = (v.1 0 326) by rfl))
      have q26 : (u19.1 0 326).toInt = (u13.1 0 326).toInt := congrArg Int32.toInt ((fr18.2.1 326 (by decide)).trans (show u13.1 0 326 = (u13.1 0 326) by rfl))
      have q27 : (u19.1 0 381).toInt = (u13.1 0 381).toInt := congrArg Int32.toInt ((fr18.2.1 381 (by decide)).trans (show u13.1 0 381 = (u13.1 0 381) by rfl))
      have q28 : (u13.1 0 317).toInt = (v.1 0 317).toInt := congrArg Int32.toInt ((fr12.2.1 317 (by decide)).trans (show v.1 0 317 = (v.1 0 317) by rfl))
      have q29 : (u19.1 0 317).toInt = (u13.1 0 317).toInt := congrArg Int32.toInt ((fr18.2.1 317 (by decide)).trans (show u13.1 0 317 = (u13.1 0 317) by rfl))
      refine W.sz (fun hz => ?_)
      refine vx_ret ?_
      refine W.widen (k := 1) (n := 6) (Nat.le_of_ble_eq_true rfl) (Nat.le_of_ble_eq_true rfl) ?_
      exact W.zret (v := 0) hx hb hr rfl (fun t ht9 hW => ⟨⟨0, u19, rfl, ⟨(FC.tr (FC.tr (FC.rf _) (FC.up fr12 (by decide) (by decide))) (FC.up fr18 (by decide) (by decide))), (by rw [QO_eq]; exact ⟨z304, z305, z306, z312, z321, z326, z373, z381, zd, zlb, r3, ex1, (Or.inr (⟨h4, (Or.inl ⟨h8, r11, ex9, u13, ex12, ⟨fr12, i38112, pd12, rs12⟩, (Or.inr (⟨u19, ex18, ⟨fr18, i30518, pt18, rs18⟩, rfl, rfl, rfl⟩))⟩)⟩))⟩), (show 0 ≤ (u19.1 0 305).toInt ∧ (u19.1 0 305).toInt ≤ 1500 from (om_7897b4ccef i30518)), (show 0 ≤ (u19.1 0 306).toInt ∧ (u19.1 0 306).toInt ≤ 40 from (om_68f540929a z306 q21 q22)), (show 0 ≤ (u19.1 0 321).toInt ∧ (u19.1 0 321).toInt ≤ 501 from (om_4dfa815534 z321 q23 q24)), (show 0 ≤ (u19.1 0 326).toInt ∧ (u19.1 0 326).toInt ≤ 420 from (om_9591dea625 z326 q25 q26)), (show 0 ≤ (u19.1 0 381).toInt ∧ (u19.1 0 381).toInt ≤ 3008 from (om_19c6d9200f z305 z326 z381 zd pd12 q27)), (show (u19.1 0 381).toInt + (u19.1 0 326).toInt - 2 * (u19.1 0 305).toInt + (1) ≤ (v.1 0 381).toInt + (v.1 0 326).toInt - 2 * (v.1 0 305).toInt from (om_355c2ebeb5 q16 q25 pd12 q26 q27 pt18)), (show (v.1 0 305).toInt + 1 ≤ (u19.1 0 305).toInt from (om_5b4879894b q16 pt18)), (show (v.1 0 317).toInt ≤ (u19.1 0 317).toInt ∧ (u19.1 0 317).toInt - 4 * (u19.1 0 305).toInt ≤ (v.1 0 317).toInt - 4 * (v.1 0 305).toInt + 0 from (om_650fe47e88 q16 q28 q29 pt18)), (show (u19.1 0 306).toInt = (v.1 0 306).toInt from (om_837b7bd001 q21 q22)), (RS.tr (RS.tr RS.rf rs12) rs18), (Or.inl rfl)⟩, ⟨by rw [ht9]; exact hP, hD⟩, by rw [ht9]; exact hz⟩, hS.F ht9⟩) hS.2.2 dX2_operand_136
    ·
      by_cases h30 : r3 = 4
      · refine lv_lookup (off := 130) (tgt := 137) hx hb dX2_operand_7 (by decide) (by rw [h30]; decide) (by decide) ?_
        refine lv_aload_n hx hb dX2_operand_137 rfl (lv_at hl 0 rfl) ?_
        refine va_get (D := (dC, dI)) (ci := 6) (fs := oF_X2 ad pr v) (v := .ref (ad 900)) (C := RX2) (T := TX2) (N := 5) hx hb ht itX2 hown hK hP 2 rfl rfl 0 (by decide) (ht _ tw_509) (fun _ h9 => h9) rfl dX2_operand_138 ?_
        refine lv_iconst (v := 5) hx hb dX2_operand_141 (by decide) ?_
        refine lv_aload_n hx hb dX2_operand_142 rfl (lv_at hl 0 rfl) ?_
        refine va_get (D := (dC, dI)) (ci := 6) (fs := oF_X2 ad pr v) (v := .ref (ad 900)) (C := RX2) (T := TX2) (N := 5) hx hb ht itX2 hown hK hP 2 rfl rfl 0 (by decide) (ht _ tw_509) (fun _ h9 => h9) rfl dX2_operand_143 ?_
        refine cu_i (rn_Vk (n := 0) (As := []) (rest := [.int 5, .ref (ad 900)]) hx hb hml hown ht hKK hFx hP hD hS hA (c_x_X9_place l dC dI cI cB cZ cJ cR tb H.size ad pr N L1 L2 v ps (show 0 ≤ (v.1 0 304).toInt ∧ (v.1 0 304).toInt ≤ 1503 from (om_c99648273b z304)) (show 0 ≤ (v.1 0 305).toInt ∧ (v.1 0 305).toInt ≤ 1500 from (om_7897b4ccef z305)) (show 0 ≤ (v.1 0 373).toInt ∧ (v.1 0 373).toInt ≤ 4000 from (om_c74a68af25 z373)) (show pr ps = ad 908 from hps) (show (v.1 0 300) = ps from es300)) tw_457 tw_510 (by decide +kernel) rfl rfl ⟨show 0 + 1 ≤ 8 * n + 16 from om_ae1d63f123, show 8 + (1 + 11) + 0 ≤ 28 * (8 * n + 16) from om_e9b1f44c62⟩ (List.range (cW ad pr N cI cR L1 L2 v).length) (rg_map _) (nd_range _) 0 rfl rfl rfl rfl hl.1 rfl (Nat.le_of_ble_eq_true rfl) dX2_operand_146 ⟨Nat.le_of_ble_eq_true rfl, Nat.le_of_ble_eq_true rfl⟩) hP hD hS hA (fun r33 u32 H locs hw31 hP hD hS => ?_)
        obtain ⟨rfl, ex31⟩ := hw31
        refine W.widen (k := 0) (n := 0) (Nat.le_refl _) (Nat.le_refl _) ?_
        refine W.sz (fun hz9 => ?_)
        refine czx_v (rx_Vk (n := 2) (As := [.int 5, .int r33]) (rest := []) hx hb hml hown ht hKK hFx hP hD hS hA (c_x_X9_refuse l dC dI cI cB cZ cJ cR tb H.size ad pr N L1 L2 v (5 : Int32) r33 (show l.stackTraces = false from hst) (show (5 : Int) ≠ 0 from om_5e02973d50)) tw_459 tw_511 (by decide +kernel) rfl rfl ⟨show 6 + 1 ≤ 8 * n + 16 from om_65a2264104, show 8 + (3 + 11) + 82 ≤ 28 * (8 * n + 16) from om_65f670dc44⟩ (List.range (cW ad pr N cI cR L1 L2 v).length) (rg_map _) (nd_range _) 0 rfl rfl rfl rfl hl.1 rfl (Nat.le_of_ble_eq_true rfl) dX2_operand_149 ⟨Nat.le_of_ble_eq_true rfl, Nat.le_of_ble_eq_true rfl⟩) hP hD hS hA (fun u9 ce9 q9 H locs hx9 hP hD hS hc9 hv9 hf9 => ?_) (fun u35 H locs hw34 hP hD hS hz8 => ?_)
        · exact vx_out (fun x h9 => (hnt x h9).elim) hlocks hc9 hv9 hf9 (fun t9 ht9 hv8 => ⟨u9, ⟨FC.tr (FC.rf _) hx9.1, hx9.2.1, (by rw [QO_eq]; exact ⟨z304, z305, z306, z312, z321, z326, z373, z381, zd, zlb, r3, ex1, (Or.inr (⟨h4, (Or.inr (⟨h8, (Or.inl ⟨h30, r33, ex31, u9, hx9.2.2, rfl, rfl, rfl⟩)⟩))⟩))⟩)⟩, ⟨rfl, by rw [ht9]; exact hP, hD⟩, hS.F ht9⟩) hS.2.2 (Nat.le_refl _) (Nat.le_refl _)
        refine W.shrink (hz8.trans hz9) ?_
        obtain ⟨fr34, ex34, no34, rs34⟩ := hw34
        exact no34.elim
      ·
        by_cases h37 : r3 = 5
        · refine lv_lookup (off := 105) (tgt := 112) hx hb dX2_operand_7 (by decide) (by rw [h37]; decide) (by decide) ?_
          refine lv_aload_n hx hb dX2_operand_112 rfl (lv_at hl 0 rfl) ?_
          refine va_get (D := (dC, dI)) (ci := 6) (fs := oF_X2 ad pr v) (v := .ref (ad 901)) (C := RX2) (T := TX2) (N := 5) hx hb ht itX2 hown hK hP 2 rfl rfl 1 (by decide) (ht _ tw_498) (fun _ h9 => h9) rfl dX2_operand_113 ?_
          refine lv_iconst (v := 2) hx hb dX2_operand_116 (by decide) ?_
          refine lv_aload_n hx hb dX2_operand_117 rfl (lv_at hl 0 rfl) ?_
          refine va_get (D := (dC, dI)) (ci := 6) (fs := oF_X2 ad pr v) (v := .ref (ad 900)) (C := RX2) (T := TX2) (N := 5) hx hb ht itX2 hown hK hP 2 rfl rfl 0 (by decide) (ht _ tw_509) (fun _ h9 => h9) rfl dX2_operand_118 ?_
          refine cu_i (rn_Vk (n := 0) (As := []) (rest := [.int 2, .ref (ad 901)]) hx hb hml hown ht hKK hFx hP hD hS hA (c_x_X9_value l dC dI cI cB cZ cJ cR tb H.size ad pr N L1 L2 v  (show 0 ≤ (v.1 0 304).toInt ∧ (v.1 0 304).toInt ≤ 1503 from (om_c99648273b z304)) (show 0 ≤ (v.1 0 305).toInt ∧ (v.1 0 305).toInt ≤ 1500 from (om_7897b4ccef z305))) tw_535 tw_536 (by decide +kernel) rfl rfl ⟨show 0 + 1 ≤ 8 * n + 16 from om_ae1d63f123, show 8 + (1 + 11) + 0 ≤ 28 * (8 * n + 16) from om_e9b1f44c62⟩ (List.range (cW ad pr N cI cR L1 L2 v).length) (rg_map _) (nd_range _) 0 rfl rfl rfl rfl hl.1 rfl (Nat.le_of_ble_eq_true rfl) dX2_operand_121 ⟨Nat.le_of_ble_eq_true rfl, Nat.le_of_ble_eq_true rfl⟩) hP hD hS hA (fun r40 u39 H locs hw38 hP hD hS => ?_)
          obtain ⟨rfl, ex38⟩ := hw38
          refine W.widen (k := 0) (n := 0) (Nat.le_refl _) (Nat.le_refl _) ?_
          refine lv_iconst (v := 0) hx hb dX2_operand_124 (by decide) ?_
          refine cu_v (rn_Vk (n := 3) (As := [.int 2, .int r40, .int 0]) (rest := []) hx hb hml hown ht hKK hFx hP hD hS hA (c_x_X1_add l dC dI cI cB cZ cJ cR tb H.size ad pr N L1 L2 v (2 : Int32) r40 (0 : Int32) ps (show 0 ≤ (v.1 0 381).toInt ∧ (v.1 0 381).toInt ≤ 3008 from (om_d5d375da37 z305 z326 z381 zd)) (show pr ps = ad 908 from hps) (show (v.1 0 310) = ps from es310) (show (v.1 0 381).toInt < 3008 from (om_ba94842585 z305 z326 zd))) tw_499 tw_500 (by decide +kernel) rfl rfl ⟨show 0 + 1 ≤ 8 * n + 16 from om_ae1d63f123, show 8 + (5 + 11) + 0 ≤ 28 * (8 * n + 16) from om_c598daa799⟩ (List.range (cW ad pr N cI cR L1 L2 v).length) (rg_map _) (nd_range _) 1 rfl rfl rfl rfl hl.1 rfl (Nat.le_of_ble_eq_true rfl) dX2_operand_125 ⟨Nat.le_of_ble_eq_true rfl, Nat.le_of_ble_eq_true rfl⟩) hP hD hS hA (fun u42 H locs hw41 hP hD hS => ?_)
          obtain ⟨fr41, ex41, i38141, pd41, rs41⟩ := hw41
          refine W.widen (k := 0) (n := 0) (Nat.le_refl _) (Nat.le_refl _) ?_
          refine lv_aload_n hx hb dX2_operand_128 rfl (lv_at hl 0 rfl) ?_
          refine va_get (D := (dC, dI)) (ci := 6) (fs := oF_X2 ad pr u42) (v := .ref (ad 900)) (C := RX2) (T := TX2) (N := 5) hx hb ht itX2 hown hK hP 2 rfl rfl 0 (by decide) (ht _ tw_509) (fun _ h9 => h9) rfl dX2_operand_129 ?_
          have q44 : (u42.1 0 304).toInt = (v.1 0 304).toInt := congrArg Int32.toInt ((fr41.2.1 304 (by decide)).trans (show v.1 0 304 = (v.1 0 304) by rfl))
          have q45 : (u42.1 0 305).toInt = (v.1 0 305).toInt := congrArg Int32.toInt ((fr41.2.1 305 (by decide)).trans (show v.1 0 305 = (v.1 0 305) by rfl))
          have q46 : (u42.1 0 373).toInt = (v.1 0 373).toInt := congrArg Int32.toInt ((fr41.2.1 373 (by decide)).trans (show v.1 0 373 = (v.1 0 373) by rfl))
          refine W.sz (fun hz9 => ?_)
          refine czx_v (rx_Vk (n := 0) (As := []) (rest := []) hx hb hml hown ht hKK hFx hP hD hS hA (c_x_X9_take l dC dI cI cB cZ cJ cR tb H.size ad pr N L1 L2 u42 ps (show 0 ≤ (u42.1 0 304).toInt ∧ (u42.1 0 304).toInt ≤ 1503 from (om_73002589c1 z304 q44)) (show 0 ≤ (u42.1 0 305).toInt ∧ (u42.1 0 305).toInt ≤ 1500 from (om_c93ca3468d z305 q45)) (show 0 ≤ (u42.1 0 373).toInt ∧ (u42.1 0 373).toInt ≤ 4000 from (om_9084c127ed z373 q46)) (show pr ps = ad 908 from hps) (show (u42.1 0 300) = ps from (Eq.trans (fr41.2.1 300 (by decide)) es300)) (show l.stackTraces = false from hst)) tw_539 tw_540 (by decide +kernel) rfl rfl ⟨show 7 + 1 ≤ 8 * n + 16 from om_80738ea86d, show 8 + (1 + 11) + 104 ≤ 28 * (8 * n + 16) from om_4c5be64de3⟩ (List.range (cW ad pr N cI cR L1 L2 u42).length) (rg_map _) (nd_range _) 0 rfl rfl rfl rfl hl.1 rfl (Nat.le_of_ble_eq_true rfl) dX2_operand_132 ⟨Nat.le_of_ble_eq_true rfl, Nat.le_of_ble_eq_true rfl⟩) hP hD hS hA (fun u9 ce9 q9 H locs hx9 hP hD hS hc9 hv9 hf9 => ?_) (fun u48 H locs hw47 hP hD hS hz8 => ?_)
          · exact vx_out (fun x h9 => (hnt x h9).elim) hlocks hc9 hv9 hf9 (fun t9 ht9 hv8 => ⟨u9, ⟨FC.tr (FC.tr (FC.rf _) (FC.up fr41 (by decide) (by decide))) hx9.1, hx9.2.1, (by rw [QO_eq]; exact ⟨z304, z305, z306, z312, z321, z326, z373, z381, zd, zlb, r3, ex1, (Or.inr (⟨h4, (Or.inr (⟨h8, (Or.inr (⟨h30, (Or.inl ⟨h37, r40, ex38, u42, ex41, ⟨fr41, i38141, pd41, rs41⟩, (Or.inl ⟨u9, hx9.2.2, rfl, rfl, rfl⟩)⟩)⟩))⟩))⟩))⟩)⟩, ⟨rfl, by rw [ht9]; exact hP, hD⟩, hS.F ht9⟩) hS.2.2 (Nat.le_refl _) (Nat.le_refl _)
          refine W.shrink (hz8.trans hz9) ?_
          obtain ⟨fr47, ex47, i30547, pt47, rs47⟩ := hw47
          have i30547 : 0 ≤ (u48.1 0 305).toInt ∧ (u48.1 0 305).toInt ≤ 1500 := i30547
          have pt47 : (u48.1 0 305).toInt = (u42.1 0 305).toInt + 1 := pt47
          have rs47 : RS u42 u48 := rs47
          refine lv_iconst (v := 0) hx hb dX2_operand_135 (by decide) ?_
          have q50 : (u42.1 0 306).toInt = (v.1 0 306).toInt := congrArg Int32.toInt ((fr41.2.1 306 (by decide)).trans (show v.1 0 306 = (v.1 0 306) by rfl))
          have q51 : (u48.1 0 306).toInt = (u42.1 0 306).toInt := congrArg Int32.toInt ((fr47.2.1 306 (by decide)).trans (show u42.1 0 306 = (u42.1 0 306) by rfl))
          have q52 : (u42.1 0 321).toInt = (v.1 0 321).toInt := congrArg Int32.toInt ((fr41.2.1 321 (by decide)).trans (show v.1 0 321 = (v.1 0 321) by rfl))
          have q53 : (u48.1 0 321).toInt = (u42.1 0 321).toInt := congrArg Int32.toInt ((fr47.2.1 321 (by decide)).trans (show u42.1 0 321 = (u42.1 0 321) by rfl))
          have q54 : (u42.1 0 326).toInt = (v.1 0 326).toInt := congrArg Int32.toInt ((fr41.2.1 326 (by decide)).trans (show v.1 0 326 = (v.1 0 326) by rfl))
          have q55 : (u48.1 0 326).toInt = (u42.1 0 326).toInt := congrArg Int32.toInt ((fr47.2.1 326 (by decide)).trans (show u42.1 0 326 = (u42.1 0 326) by rfl))
          have q56 : (u48.1 0 381).toInt = (u42.1 0 381).toInt := congrArg Int32.toInt ((fr47.2.1 381 (by decide)).trans (show u42.1 0 381 = (u42.1 0 381) by rfl))
          have q57 : (u42.1 0 317).toInt = (v.1 0 317).toInt := congrArg Int32.toInt ((fr41.2.1 317 (by decide)).trans (show v.1 0 317 = (v.1 0 317) by rfl))
          have q58 : (u48.1 0 317).toInt = (u42.1 0 317).toInt := congrArg Int32.toInt ((fr47.2.1 317 (by decide)).trans (show u42.1 0 317 = (u42.1 0 317) by rfl))
          refine W.sz (fun hz => ?_)
          refine vx_ret ?_
          refine W.widen (k := 1) (n := 6) (Nat.le_of_ble_eq_true rfl) (Nat.le_of_ble_eq_true rfl) ?_
          exact W.zret (v := 0) hx hb hr rfl (fun t ht9 hW => ⟨⟨0, u48, rfl, ⟨(FC.tr (FC.tr (FC.rf _) (FC.up fr41 (by decide) (by decide))) (FC.up fr47 (by decide) (by decide))), (by rw [QO_eq]; exact ⟨z304, z305, z306, z312, z321, z326, z373, z381, zd, zlb, r3, ex1, (Or.inr (⟨h4, (Or.inr (⟨h8, (Or.inr (⟨h30, (Or.inl ⟨h37, r40, ex38, u42, ex41, ⟨fr41, i38141, pd41, rs41⟩, (Or.inr (⟨u48, ex47, ⟨fr47, i30547, pt47, rs47⟩, rfl, rfl, rfl⟩))⟩)⟩))⟩))⟩))⟩), (show 0 ≤ (u48.1 0 305).toInt ∧ (u48.1 0 305).toInt ≤ 1500 from (om_7897b4ccef i30547)), (show 0 ≤ (u48.1 0 306).toInt ∧ (u48.1 0 306).toInt ≤ 40 from (om_68f540929a z306 q50 q51)), (show 0 ≤ (u48.1 0 321).toInt ∧ (u48.1 0 321).toInt ≤ 501 from (om_4dfa815534 z321 q52 q53)), (show 0 ≤ (u48.1 0 326).toInt ∧ (u48.1 0 326).toInt ≤ 420 from (om_9591dea625 z326 q54 q55)), (show 0 ≤ (u48.1 0 381).toInt ∧ (u48.1 0 381).toInt ≤ 3008 from (om_19c6d9200f z305 z326 z381 zd pd41 q56)), (show (u48.1 0 381).toInt + (u48.1 0 326).toInt - 2 * (u48.1 0 305).toInt + (1) ≤ (v.1 0 381).toInt + (v.1 0 326).toInt - 2 * (v.1 0 305).toInt from (om_355c2ebeb5 q45 q54 pd41 q55 q56 pt47)), (show (v.1 0 305).toInt + 1 ≤ (u48.1 0 305).toInt from (om_5b4879894b q45 pt47)), (show (v.1 0 317).toInt ≤ (u48.1 0 317).toInt ∧ (u48.1 0 317).toInt - 4 * (u48.1 0 305).toInt ≤ (v.1 0 317).toInt - 4 * (v.1 0 305).toInt + 0 from (om_650fe47e88 q45 q57 q58 pt47)), (show (u48.1 0 306).toInt = (v.1 0 306).toInt from (om_837b7bd001 q50 q51)), (RS.tr (RS.tr RS.rf rs41) rs47), (Or.inl rfl)⟩, ⟨by rw [ht9]; exact hP, hD⟩, by rw [ht9]; exact hz⟩, hS.F ht9⟩) hS.2.2 dX2_operand_136
        ·
          by_cases h59 : r3 = 20
          · refine lv_lookup (off := 147) (tgt := 154) hx hb dX2_operand_7 (by decide) (by rw [h59]; decide) (by decide) ?_
            refine lv_aload_n hx hb dX2_operand_154 rfl (lv_at hl 0 rfl) ?_
            refine va_get (D := (dC, dI)) (ci := 6) (fs := oF_X2 ad pr v) (v := .ref (ad 900)) (C := RX2) (T := TX2) (N := 5) hx hb ht itX2 hown hK hP 2 rfl rfl 0 (by decide) (ht _ tw_509) (fun _ h9 => h9) rfl dX2_operand_155 ?_
            refine W.sz (fun hz9 => ?_)
            refine czx_v (rx_Vk (n := 0) (As := []) (rest := []) hx hb hml hown ht hKK hFx hP hD hS hA (c_x_X9_take l dC dI cI cB cZ cJ cR tb H.size ad pr N L1 L2 v ps (show 0 ≤ (v.1 0 304).toInt ∧ (v.1 0 304).toInt ≤ 1503 from (om_c99648273b z304)) (show 0 ≤ (v.1 0 305).toInt ∧ (v.1 0 305).toInt ≤ 1500 from (om_7897b4ccef z305)) (show 0 ≤ (v.1 0 373).toInt ∧ (v.1 0 373).toInt ≤ 4000 from (om_c74a68af25 z373)) (show pr ps = ad 908 from hps) (show (v.1 0 300) = ps from es300) (show l.stackTraces = false from hst)) tw_539 tw_540 (by decide +kernel) rfl rfl ⟨show 7 + 1 ≤ 8 * n + 16 from om_80738ea86d, show 8 + (1 + 11) + 104 ≤ 28 * (8 * n + 16) from om_4c5be64de3⟩ (List.range (cW ad pr N cI cR L1 L2 v).length) (rg_map _) (nd_range _) 0 rfl rfl rfl rfl hl.1 rfl (Nat.le_of_ble_eq_true rfl) dX2_operand_158 ⟨Nat.le_of_ble_eq_true rfl, Nat.le_of_ble_eq_true rfl⟩) hP hD hS hA (fun u9 ce9 q9 H locs hx9 hP hD hS hc9 hv9 hf9 => ?_) (fun u61 H locs hw60 hP hD hS hz8 => ?_)
            · exact vx_out (fun x h9 => (hnt x h9).elim) hlocks hc9 hv9 hf9 (fun t9 ht9 hv8 => ⟨u9, ⟨FC.tr (FC.rf _) hx9.1, hx9.2.1, (by rw [QO_eq]; exact ⟨z304, z305, z306, z312, z321, z326, z373, z381, zd, zlb, r3, ex1, (Or.inr (⟨h4, (Or.inr (⟨h8, (Or.inr (⟨h30, (Or.inr (⟨h37, (Or.inl ⟨h59, (Or.inl ⟨u9, hx9.2.2, rfl, rfl, rfl⟩)⟩)⟩))⟩))⟩))⟩))⟩)⟩, ⟨rfl, by rw [ht9]; exact hP, hD⟩, hS.F ht9⟩) hS.2.2 (Nat.le_refl _) (Nat.le_refl _)
            refine W.shrink (hz8.trans hz9) ?_
            obtain ⟨fr60, ex60, i30560, pt60, rs60⟩ := hw60
            refine lv_aload_n hx hb dX2_operand_161 rfl (lv_at hl 0 rfl) ?_
            refine va_get (D := (dC, dI)) (ci := 6) (fs := oF_X2 ad pr u61) (v := .ref (ad 900)) (C := RX2) (T := TX2) (N := 5) hx hb ht itX2 hown hK hP 2 rfl rfl 0 (by decide) (ht _ tw_509) (fun _ h9 => h9) rfl dX2_operand_162 ?_
            refine lv_bipush (v := 30) hx hb dX2_operand_165 (by decide) ?_
            have q63 : (u61.1 0 304).toInt = (v.1 0 304).toInt := congrArg Int32.toInt ((fr60.2.1 304 (by decide)).trans (show v.1 0 304 = (v.1 0 304) by rfl))
            have q64 : (u61.1 0 373).toInt = (v.1 0 373).toInt := congrArg Int32.toInt ((fr60.2.1 373 (by decide)).trans (show v.1 0 373 = (v.1 0 373) by rfl))
            refine W.sz (fun hz9 => ?_)
            refine czx_v (rx_Vk (n := 1) (As := [.int 30]) (rest := []) hx hb hml hown ht hKK hFx hP hD hS hA (c_x_X9_need l dC dI cI cB cZ cJ cR tb H.size ad pr N L1 L2 u61 (30 : Int32) ps (show 0 ≤ (u61.1 0 304).toInt ∧ (u61.1 0 304).toInt ≤ 1503 from (om_73002589c1 z304 q63)) (show 0 ≤ (u61.1 0 305).toInt ∧ (u61.1 0 305).toInt ≤ 1500 from (om_89213937cb z305 i30560 pt60)) (show 0 ≤ (u61.1 0 373).toInt ∧ (u61.1 0 373).toInt ≤ 4000 from (om_9084c127ed z373 q64)) (show pr ps = ad 908 from hps) (show (u61.1 0 300) = ps from (Eq.trans (fr60.2.1 300 (by decide)) es300)) (show l.stackTraces = false from hst)) tw_559 tw_560 (by decide +kernel) rfl rfl ⟨show 7 + 1 ≤ 8 * n + 16 from om_80738ea86d, show 8 + (2 + 11) + 104 ≤ 28 * (8 * n + 16) from om_6c7d6f0de2⟩ (List.range (cW ad pr N cI cR L1 L2 u61).length) (rg_map _) (nd_range _) 0 rfl rfl rfl rfl hl.1 rfl (Nat.le_of_ble_eq_true rfl) dX2_operand_167 ⟨Nat.le_of_ble_eq_true rfl, Nat.le_of_ble_eq_true rfl⟩) hP hD hS hA (fun u9 ce9 q9 H locs hx9 hP hD hS hc9 hv9 hf9 => ?_) (fun u66 H locs hw65 hP hD hS hz8 => ?_)
            · exact vx_out (fun x h9 => (hnt x h9).elim) hlocks hc9 hv9 hf9 (fun t9 ht9 hv8 => ⟨u9, ⟨FC.tr (FC.tr (FC.rf _) (FC.up fr60 (by decide) (by decide))) hx9.1, hx9.2.1, (by rw [QO_eq]; exact ⟨z304, z305, z306, z312, z321, z326, z373, z381, zd, zlb, r3, ex1, (Or.inr (⟨h4, (Or.inr (⟨h8, (Or.inr (⟨h30, (Or.inr (⟨h37, (Or.inl ⟨h59, (Or.inr (⟨u61, ex60, ⟨fr60, i30560, pt60, rs60⟩, (Or.inl ⟨u9, hx9.2.2, rfl, rfl, rfl⟩)⟩))⟩)⟩))⟩))⟩))⟩))⟩)⟩, ⟨rfl, by rw [ht9]; exact hP, hD⟩, hS.F ht9⟩) hS.2.2 (Nat.le_refl _) (Nat.le_refl _)
            refine W.shrink (hz8.trans hz9) ?_
            obtain ⟨fr65, ex65, rs65⟩ := hw65
            have rs65 : RS u61 u66 := rs65
            refine lv_aload_n hx hb dX2_operand_170 rfl (lv_at hl 0 rfl) ?_
            refine va_get (D := (dC, dI)) (ci := 6) (fs := oF_X2 ad pr u66) (v := .ref (ad 900)) (C := RX2) (T := TX2) (N := 5) hx hb ht itX2 hown hK hP 2 rfl rfl 0 (by decide) (ht _ tw_509) (fun _ h9 => h9) rfl dX2_operand_171 ?_
            have q68 : (u66.1 0 304).toInt = (u61.1 0 304).toInt := congrArg Int32.toInt ((fr65.2.1 304 (by decide)).trans (show u61.1 0 304 = (u61.1 0 304) by rfl))
            have q69 : (u66.1 0 305).toInt = (u61.1 0 305).toInt := congrArg Int32.toInt ((fr65.2.1 305 (by decide)).trans (show u61.1 0 305 = (u61.1 0 305) by rfl))
            have q70 : (u61.1 0 306).toInt = (v.1 0 306).toInt := congrArg Int32.toInt ((fr60.2.1 306 (by decide)).trans (show v.1 0 306 = (v.1 0 306) by rfl))
            have q71 : (u66.1 0 306).toInt = (u61.1 0 306).toInt := congrArg Int32.toInt ((fr65.2.1 306 (by decide)).trans (show u61.1 0 306 = (u61.1 0 306) by rfl))
            have q72 : (u66.1 0 373).toInt = (u61.1 0 373).toInt := congrArg Int32.toInt ((fr65.2.1 373 (by decide)).trans (show u61.1 0 373 = (u61.1 0 373) by rfl))
            refine W.sz (fun hz9 => ?_)
            refine czx_v (rx_Vk (n := 0) (As := []) (rest := []) hx hb hml hown ht hKK hFx hP hD hS hA (c_x_X9_open l dC dI cI cB cZ cJ cR tb H.size ad pr N L1 L2 u66 ps (show 0 ≤ (u66.1 0 304).toInt ∧ (u66.1 0 304).toInt ≤ 1503 from (om_dd87ee851a z304 q63 q68)) (show 0 ≤ (u66.1 0 305).toInt ∧ (u66.1 0 305).toInt ≤ 1500 from (om_570f2378f1 z305 i30560 pt60 q69)) (show 0 ≤ (u66.1 0 306).toInt ∧ (u66.1 0 306).toInt ≤ 40 from (om_68f540929a z306 q70 q71)) (show 0 ≤ (u66.1 0 373).toInt ∧ (u66.1 0 373).toInt ≤ 4000 from (om_03cd8767ac z373 q64 q72)) (show pr ps = ad 908 from hps) (show (u66.1 0 300) = ps from (Eq.trans (fr65.2.1 300 (by decide)) (Eq.trans (fr60.2.1 300 (by decide)) es300))) (show l.stackTraces = false from hst)) tw_524 tw_525 (by decide +kernel) rfl rfl ⟨show 7 + 1 ≤ 8 * n + 16 from om_80738ea86d, show 8 + (1 + 11) + 104 ≤ 28 * (8 * n + 16) from om_4c5be64de3⟩ (List.range (cW ad pr N cI cR L1 L2 u66).length) (rg_map _) (nd_range _) 0 rfl rfl rfl rfl hl.1 rfl (Nat.le_of_ble_eq_true rfl) dX2_operand_174 ⟨Nat.le_of_ble_eq_true rfl, Nat.le_of_ble_eq_true rfl⟩) hP hD hS hA (fun u9 ce9 q9 H locs hx9 hP hD hS hc9 hv9 hf9 => ?_) (fun u74 H locs hw73 hP hD hS hz8 => ?_)
            · exact vx_out (fun x h9 => (hnt x h9).elim) hlocks hc9 hv9 hf9 (fun t9 ht9 hv8 => ⟨u9, ⟨FC.tr (FC.tr (FC.tr (FC.rf _) (FC.up fr60 (by decide) (by decide))) (FC.up fr65 (by decide) (by decide))) hx9.1, hx9.2.1, (by rw [QO_eq]; exact ⟨z304, z305, z306, z312, z321, z326, z373, z381, zd, zlb, r3, ex1, (Or.inr (⟨h4, (Or.inr (⟨h8, (Or.inr (⟨h30, (Or.inr (⟨h37, (Or.inl ⟨h59, (Or.inr (⟨u61, ex60, ⟨fr60, i30560, pt60, rs60⟩, (Or.inr (⟨u66, ex65, ⟨fr65, rs65⟩, (Or.inl ⟨u9, hx9.2.2, rfl, rfl, rfl⟩)⟩))⟩))⟩)⟩))⟩))⟩))⟩))⟩)⟩, ⟨rfl, by rw [ht9]; exact hP, hD⟩, hS.F ht9⟩) hS.2.2 (Nat.le_refl _) (Nat.le_refl _)
            refine W.shrink (hz8.trans hz9) ?_
            obtain ⟨fr73, ex73, i30573, i30673, pj73, pt73, rs73⟩ := hw73
            have i30573 : 0 ≤ (u74.1 0 305).toInt ∧ (u74.1 0 305).toInt ≤ 1500 := i30573
            have i30673 : 0 ≤ (u74.1 0 306).toInt ∧ (u74.1 0 306).toInt ≤ 40 := i30673
            have pj73 : (u74.1 0 306).toInt = (u66.1 0 306).toInt + 1 := pj73
            have pt73 : (u74.1 0 305).toInt = (u66.1 0 305).toInt + 1 := pt73
            have rs73 : RS u66 u74 := rs73
            refine lv_aload_n hx hb dX2_operand_177 rfl (lv_at hl 0 rfl) ?_
            refine va_get (D := (dC, dI)) (ci := 6) (fs := oF_X2 ad pr u74) (v := .ref (ad 900)) (C := RX2) (T := TX2) (N := 5) hx hb ht itX2 hown hK hP 2 rfl rfl 0 (by decide) (ht _ tw_509) (fun _ h9 => h9) rfl dX2_operand_178 ?_
            refine lv_bipush (v := 31) hx hb dX2_operand_181 (by decide) ?_
            have q76 : (u74.1 0 304).toInt = (u66.1 0 304).toInt := congrArg Int32.toInt ((fr73.2.1 304 (by decide)).trans (show u66.1 0 304 = (u66.1 0 304) by rfl))
            have q77 : (u74.1 0 373).toInt = (u66.1 0 373).toInt := congrArg Int32.toInt ((fr73.2.1 373 (by decide)).trans (show u66.1 0 373 = (u66.1 0 373) by rfl))
            refine W.sz (fun hz9 => ?_)
            refine czx_v (rx_Vk (n := 1) (As := [.int 31]) (rest := []) hx hb hml hown ht hKK hFx hP hD hS hA (c_x_X9_expect l dC dI cI cB cZ cJ cR tb H.size ad pr N L1 L2 u74 (31 : Int32) ps (show 0 ≤ (u74.1 0 304).toInt ∧ (u74.1 0 304).toInt ≤ 1503 from (om_57e3d9ffbd z304 q63 q68 q76)) (show 0 ≤ (u74.1 0 305).toInt ∧ (u74.1 0 305).toInt ≤ 1500 from (om_7897b4ccef i30573)) (show 0 ≤ (u74.1 0 373).toInt ∧ (u74.1 0 373).toInt ≤ 4000 from (om_282c7f458f z373 q64 q72 q77)) (show pr ps = ad 908 from hps) (show (u74.1 0 300) = ps from (Eq.trans (fr73.2.1 300 (by decide)) (Eq.trans (fr65.2.1 300 (by decide)) (Eq.trans (fr60.2.1 300 (by decide)) es300)))) (show l.stackTraces = false from hst)) tw_526 tw_527 (by decide +kernel) rfl rfl ⟨show 7 + 1 ≤ 8 * n + 16 from om_80738ea86d, show 8 + (2 + 11) + 104 ≤ 28 * (8 * n + 16) from om_6c7d6f0de2⟩ (List.range (cW ad pr N cI cR L1 L2 u74).length) (rg_map _) (nd_range _) 0 rfl rfl rfl rfl hl.1 rfl (Nat.le_of_ble_eq_true rfl) dX2_operand_183 ⟨Nat.le_of_ble_eq_true rfl, Nat.le_of_ble_eq_true rfl⟩) hP hD hS hA (fun u9 ce9 q9 H locs hx9 hP hD hS hc9 hv9 hf9 => ?_) (fun u79 H locs hw78 hP hD hS hz8 => ?_)
            · exact vx_out (fun x h9 => (hnt x h9).elim) hlocks hc9 hv9 hf9 (fun t9 ht9 hv8 => ⟨u9, ⟨FC.tr (FC.tr (FC.tr (FC.tr (FC.rf _) (FC.up fr60 (by decide) (by decide))) (FC.up fr65 (by decide) (by decide))) (FC.up fr73 (by decide) (by decide))) hx9.1, hx9.2.1, (by rw [QO_eq]; exact ⟨z304, z305, z306, z312, z321, z326, z373, z381, zd, zlb, r3, ex1, (Or.inr (⟨h4, (Or.inr (⟨h8, (Or.inr (⟨h30, (Or.inr (⟨h37, (Or.inl ⟨h59, (Or.inr (⟨u61, ex60, ⟨fr60, i30560, pt60, rs60⟩, (Or.inr (⟨u66, ex65, ⟨fr65, rs65⟩, (Or.inr (⟨u74, ex73, ⟨fr73, i30573, i30673, pj73, pt73, rs73⟩, (Or.inl ⟨u9, hx9.2.2, rfl, rfl, rfl⟩)⟩))⟩))⟩))⟩)⟩))⟩))⟩))⟩))⟩)⟩, ⟨rfl, by rw [ht9]; exact hP, hD⟩, hS.F ht9⟩) hS.2.2 (Nat.le_refl _) (Nat.le_refl _)
            refine W.shrink (hz8.trans hz9) ?_
            obtain ⟨fr78, ex78, i30578, pt78, rs78⟩ := hw78
            have i30578 : 0 ≤ (u79.1 0 305).toInt ∧ (u79.1 0 305).toInt ≤ 1500 := i30578
            have pt78 : (u79.1 0 305).toInt = (u74.1 0 305).toInt + 1 := pt78
            have rs78 : RS u74 u79 := rs78
            refine lv_aload_n hx hb dX2_operand_186 rfl (lv_at hl 0 rfl) ?_
            refine va_get (D := (dC, dI)) (ci := 6) (fs := oF_X2 ad pr u79) (v := .ref (ad 900)) (C := RX2) (T := TX2) (N := 5) hx hb ht itX2 hown hK hP 2 rfl rfl 0 (by decide) (ht _ tw_509) (fun _ h9 => h9) rfl dX2_operand_187 ?_
            have q81 : (u79.1 0 306).toInt = (u74.1 0 306).toInt := congrArg Int32.toInt ((fr78.2.1 306 (by decide)).trans (show u74.1 0 306 = (u74.1 0 306) by rfl))
            refine cu_v (rn_Vk (n := 0) (As := []) (rest := []) hx hb hml hown ht hKK hFx hP hD hS hA (c_x_X9_close l dC dI cI cB cZ cJ cR tb H.size ad pr N L1 L2 u79  (show 0 ≤ (u79.1 0 306).toInt ∧ (u79.1 0 306).toInt ≤ 40 from (om_99e115f631 i30673 q81)) (show 1 ≤ (u79.1 0 306).toInt from (om_dd7a401061 z306 q70 q71 pj73 q81))) tw_528 tw_529 (by decide +kernel) rfl rfl ⟨show 0 + 1 ≤ 8 * n + 16 from om_ae1d63f123, show 8 + (1 + 11) + 0 ≤ 28 * (8 * n + 16) from om_e9b1f44c62⟩ (List.range (cW ad pr N cI cR L1 L2 u79).length) (rg_map _) (nd_range _) 0 rfl rfl rfl rfl hl.1 rfl (Nat.le_of_ble_eq_true rfl) dX2_operand_190 ⟨Nat.le_of_ble_eq_true rfl, Nat.le_of_ble_eq_true rfl⟩) hP hD hS hA (fun u83 H locs hw82 hP hD hS => ?_)
            obtain ⟨fr82, ex82, i30682, pj82, rs82⟩ := hw82
            have i30682 : 0 ≤ (u83.1 0 306).toInt ∧ (u83.1 0 306).toInt ≤ 40 := i30682
            have pj82 : (u83.1 0 306).toInt = (u79.1 0 306).toInt - 1 := pj82
            have rs82 : RS u79 u83 := rs82
            refine W.widen (k := 0) (n := 0) (Nat.le_refl _) (Nat.le_refl _) ?_
            refine lv_aload_n hx hb dX2_operand_193 rfl (lv_at hl 0 rfl) ?_
            refine va_get (D := (dC, dI)) (ci := 6) (fs := oF_X2 ad pr u83) (v := .ref (ad 901)) (C := RX2) (T := TX2) (N := 5) hx hb ht itX2 hown hK hP 2 rfl rfl 1 (by decide) (ht _ tw_498) (fun _ h9 => h9) rfl dX2_operand_194 ?_
            refine lv_bipush (v := 23) hx hb dX2_operand_197 (by decide) ?_
            refine lv_iconst (v := 0) hx hb dX2_operand_199 (by decide) ?_
            refine lv_iconst (v := 0) hx hb dX2_operand_200 (by decide) ?_
            have q85 : (u61.1 0 381).toInt = (v.1 0 381).toInt := congrArg Int32.toInt ((fr60.2.1 381 (by decide)).trans (show v.1 0 381 = (v.1 0 381) by rfl))
            have q86 : (u66.1 0 381).toInt = (u61.1 0 381).toInt := congrArg Int32.toInt ((fr65.2.1 381 (by decide)).trans (show u61.1 0 381 = (u61.1 0 381) by rfl))
            have q87 : (u74.1 0 381).toInt = (u66.1 0 381).toInt := congrArg Int32.toInt ((fr73.2.1 381 (by decide)).trans (show u66.1 0 381 = (u66.1 0 381) by rfl))
            have q88 : (u79.1 0 381).toInt = (u74.1 0 381).toInt := congrArg Int32.toInt ((fr78.2.1 381 (by decide)).trans (show u74.1 0 381 = (u74.1 0 381) by rfl))
            have q89 : (u83.1 0 381).toInt = (u79.1 0 381).toInt := congrArg Int32.toInt ((fr82.2.1 381 (by decide)).trans (show u79.1 0 381 = (u79.1 0 381) by rfl))
            refine cu_v (rn_Vk (n := 3) (As := [.int 23, .int 0, .int 0]) (rest := []) hx hb hml hown ht hKK hFx hP hD hS hA (c_x_X1_add l dC dI cI cB cZ cJ cR tb H.size ad pr N L1 L2 u83 (23 : Int32) (0 : Int32) (0 : Int32) ps (show 0 ≤ (u83.1 0 381).toInt ∧ (u83.1 0 381).toInt ≤ 3008 from (om_5b4796cdd5 z326 z381 zd q85 i30560 pt60 q86 q87 q88 q89)) (show pr ps = ad 908 from hps) (show (u83.1 0 310) = ps from (Eq.trans (fr82.2.1 310 (by decide)) (Eq.trans (fr78.2.1 310 (by decide)) (Eq.trans (fr73.2.1 310 (by decide)) (Eq.trans (fr65.2.1 310 (by decide)) (Eq.trans (fr60.2.1 310 (by decide)) es310)))))) (show (u83.1 0 381).toInt < 3008 from (om_7c6b58533c z326 zd q85 i30560 pt60 q86 q87 q88 q89))) tw_499 tw_500 (by decide +kernel) rfl rfl ⟨show 0 + 1 ≤ 8 * n + 16 from om_ae1d63f123, show 8 + (5 + 11) + 0 ≤ 28 * (8 * n + 16) from om_c598daa799⟩ (List.range (cW ad pr N cI cR L1 L2 u83).length) (rg_map _) (nd_range _) 1 rfl rfl rfl rfl hl.1 rfl (Nat.le_of_ble_eq_true rfl) dX2_operand_201 ⟨Nat.le_of_ble_eq_true rfl, Nat.le_of_ble_eq_true rfl⟩) hP hD hS hA (fun u91 H locs hw90 hP hD hS => ?_)
            obtain ⟨fr90, ex90, i38190, pd90, rs90⟩ := hw90
            have i38190 : 0 ≤ (u91.1 0 381).toInt ∧ (u91.1 0 381).toInt ≤ 3008 := i38190
            have pd90 : (u91.1 0 381).toInt = (u83.1 0 381).toInt + 1 := pd90
            have rs90 : RS u83 u91 := rs90
            refine W.widen (k := 0) (n := 0) (Nat.le_refl _) (Nat.le_refl _) ?_
            refine lv_iconst (v := 0) hx hb dX2_operand_204 (by decide) ?_
            have q93 : (u83.1 0 305).toInt = (u79.1 0 305).toInt := congrArg Int32.toInt ((fr82.2.1 305 (by decide)).trans (show u79.1 0 305 = (u79.1 0 305) by rfl))
            have q94 : (u91.1 0 305).toInt = (u83.1 0 305).toInt := congrArg Int32.toInt ((fr90.2.1 305 (by decide)).trans (show u83.1 0 305 = (u83.1 0 305) by rfl))
            have q95 : (u91.1 0 306).toInt = (u83.1 0 306).toInt := congrArg Int32.toInt ((fr90.2.1 306 (by decide)).trans (show u83.1 0 306 = (u83.1 0 306) by rfl))
            have q96 : (u61.1 0 321).toInt = (v.1 0 321).toInt := congrArg Int32.toInt ((fr60.2.1 321 (by decide)).trans (show v.1 0 321 = (v.1 0 321) by rfl))
            have q97 : (u66.1 0 321).toInt = (u61.1 0 321).toInt := congrArg Int32.toInt ((fr65.2.1 321 (by decide)).trans (show u61.1 0 321 = (u61.1 0 321) by rfl))
            have q98 : (u74.1 0 321).toInt = (u66.1 0 321).toInt := congrArg Int32.toInt ((fr73.2.1 321 (by decide)).trans (show u66.1 0 321 = (u66.1 0 321) by rfl))
            have q99 : (u79.1 0 321).toInt = (u74.1 0 321).toInt := congrArg Int32.toInt ((fr78.2.1 321 (by decide)).trans (show u74.1 0 321 = (u74.1 0 321) by rfl))
            have q100 : (u83.1 0 321).toInt = (u79.1 0 321).toInt := congrArg Int32.toInt ((fr82.2.1 321 (by decide)).trans (show u79.1 0 321 = (u79.1 0 321) by rfl))
            have q101 : (u91.1 0 321).toInt = (u83.1 0 321).toInt := congrArg Int32.toInt ((fr90.2.1 321 (by decide)).trans (show u83.1 0 321 = (u83.1 0 321) by rfl))
            have q102 : (u61.1 0 326).toInt = (v.1 0 326).toInt := congrArg Int32.toInt ((fr60.2.1 326 (by decide)).trans (show v.1 0 326 = (v.1 0 326) by rfl))
            have q103 : (u66.1 0 326).toInt = (u61.1 0 326).toInt := congrArg Int32.toInt ((fr65.2.1 326 (by decide)).trans (show u61.1 0 326 = (u61.1 0 326) by rfl))
            have q104 : (u74.1 0 326).toInt = (u66.1 0 326).toInt := congrArg Int32.toInt ((fr73.2.1 326 (by decide)).trans (show u66.1 0 326 = (u66.1 0 326) by rfl))
            have q105 : (u79.1 0 326).toInt = (u74.1 0 326).toInt := congrArg Int32.toInt ((fr78.2.1 326 (by decide)).trans (show u74.1 0 326 = (u74.1 0 326) by rfl))
            have q106 : (u83.1 0 326).toInt = (u79.1 0 326).toInt := congrArg Int32.toInt ((fr82.2.1 326 (by decide)).trans (show u79.1 0 326 = (u79.1 0 326) by rfl))
            have q107 : (u91.1 0 326).toInt = (u83.1 0 326).toInt := congrArg Int32.toInt ((fr90.2.1 326 (by decide)).trans (show u83.1 0 326 = (u83.1 0 326) by rfl))
            have q108 : (u61.1 0 317).toInt = (v.1 0 317).toInt := congrArg Int32.toInt ((fr60.2.1 317 (by decide)).trans (show v.1 0 317 = (v.1 0 317) by rfl))
            have q109 : (u66.1 0 317).toInt = (u61.1 0 317).toInt := congrArg Int32.toInt ((fr65.2.1 317 (by decide)).trans (show u61.1 0 317 = (u61.1 0 317) by rfl))
            have q110 : (u74.1 0 317).toInt = (u66.1 0 317).toInt := congrArg Int32.toInt ((fr73.2.1 317 (by decide)).trans (show u66.1 0 317 = (u66.1 0 317) by rfl))
            have q111 : (u79.1 0 317).toInt = (u74.1 0 317).toInt := congrArg Int32.toInt ((fr78.2.1 317 (by decide)).trans (show u74.1 0 317 = (u74.1 0 317) by rfl))
            have q112 : (u83.1 0 317).toInt = (u79.1 0 317).toInt := congrArg Int32.toInt ((fr82.2.1 317 (by decide)).trans (show u79.1 0 317 = (u79.1 0 317) by rfl))
            have q113 : (u91.1 0 317).toInt = (u83.1 0 317).toInt := congrArg Int32.toInt ((fr90.2.1 317 (by decide)).trans (show u83.1 0 317 = (u83.1 0 317) by rfl))
            refine W.sz (fun hz => ?_)
            refine vx_ret ?_
            refine W.widen (k := 1) (n := 6) (Nat.le_of_ble_eq_true rfl) (Nat.le_of_ble_eq_true rfl) ?_
            exact W.zret (v := 0) hx hb hr rfl (fun t ht9 hW => ⟨⟨0, u91, rfl, ⟨(FC.tr (FC.tr (FC.tr (FC.tr (FC.tr (FC.tr (FC.rf _) (FC.up fr60 (by decide) (by decide))) (FC.up fr65 (by decide) (by decide))) (FC.up fr73 (by decide) (by decide))) (FC.up fr78 (by decide) (by decide))) (FC.up fr82 (by decide) (by decide))) (FC.up fr90 (by decide) (by decide))), (by rw [QO_eq]; exact ⟨z304, z305, z306, z312, z321, z326, z373, z381, zd, zlb, r3, ex1, (Or.inr (⟨h4, (Or.inr (⟨h8, (Or.inr (⟨h30, (Or.inr (⟨h37, (Or.inl ⟨h59, (Or.inr (⟨u61, ex60, ⟨fr60, i30560, pt60, rs60⟩, (Or.inr (⟨u66, ex65, ⟨fr65, rs65⟩, (Or.inr (⟨u74, ex73, ⟨fr73, i30573, i30673, pj73, pt73, rs73⟩, (Or.inr (⟨u79, ex78, ⟨fr78, i30578, pt78, rs78⟩, u83, ex82, ⟨fr82, i30682, pj82, rs82⟩, u91, ex90, ⟨fr90, i38190, pd90, rs90⟩, rfl, rfl, rfl⟩))⟩))⟩))⟩))⟩)⟩))⟩))⟩))⟩))⟩), (show 0 ≤ (u91.1 0 305).toInt ∧ (u91.1 0 305).toInt ≤ 1500 from (om_11909f75cd z305 pt60 q69 pt73 i30578 pt78 q93 q94)), (show 0 ≤ (u91.1 0 306).toInt ∧ (u91.1 0 306).toInt ≤ 40 from (om_9c4f3a2e9c i30673 q81 i30682 pj82 q95)), (show 0 ≤ (u91.1 0 321).toInt ∧ (u91.1 0 321).toInt ≤ 501 from (om_69473c0e90 z321 q96 q97 q98 q99 q100 q101)), (show 0 ≤ (u91.1 0 326).toInt ∧ (u91.1 0 326).toInt ≤ 420 from (om_49eb06c282 z326 q102 q103 q104 q105 q106 q107)), (show 0 ≤ (u91.1 0 381).toInt ∧ (u91.1 0 381).toInt ≤ 3008 from (om_e78eec72e1 i38190)), (show (u91.1 0 381).toInt + (u91.1 0 326).toInt - 2 * (u91.1 0 305).toInt + (1) ≤ (v.1 0 381).toInt + (v.1 0 326).toInt - 2 * (v.1 0 305).toInt from (om_3c86b03c50 q102 q85 pt60 q69 q103 q86 q104 q87 pt73 q105 q88 pt78 q93 q106 q89 q94 q107 pd90)), (show (v.1 0 305).toInt + 1 ≤ (u91.1 0 305).toInt from (om_97dde9319f pt60 q69 pt73 pt78 q93 q94)), (show (v.1 0 317).toInt ≤ (u91.1 0 317).toInt ∧ (u91.1 0 317).toInt - 4 * (u91.1 0 305).toInt ≤ (v.1 0 317).toInt - 4 * (v.1 0 305).toInt + 0 from (om_385d34433d q108 pt60 q69 q109 q110 pt73 q111 pt78 q93 q112 q94 q113)), (show (u91.1 0 306).toInt = (v.1 0 306).toInt from (om_901bcf77d5 q70 q71 pj73 q81 pj82 q95)), (RS.tr (RS.tr (RS.tr (RS.tr (RS.tr (RS.tr RS.rf rs60) rs65) rs73) rs78) rs82) rs90), (Or.inl rfl)⟩, ⟨by rw [ht9]; exact hP, hD⟩, by rw [ht9]; exact hz⟩, hS.F ht9⟩) hS.2.2 dX2_operand_205
          ·
            by_cases h114 : r3 = 30
            · refine lv_lookup (off := 199) (tgt := 206) hx hb dX2_operand_7 (by decide) (by rw [h114]; decide) (by decide) ?_
              refine lv_aload_n hx hb dX2_operand_206 rfl (lv_at hl 0 rfl) ?_
              refine va_get (D := (dC, dI)) (ci := 6) (fs := oF_X2 ad pr v) (v := .ref (ad 900)) (C := RX2) (T := TX2) (N := 5) hx hb ht itX2 hown hK hP 2 rfl rfl 0 (by decide) (ht _ tw_509) (fun _ h9 => h9) rfl dX2_operand_207 ?_
              refine W.sz (fun hz9 => ?_)
              refine czx_v (rx_Vk (n := 0) (As := []) (rest := []) hx hb hml hown ht hKK hFx hP hD hS hA (c_x_X9_open l dC dI cI cB cZ cJ cR tb H.size ad pr N L1 L2 v ps (show 0 ≤ (v.1 0 304).toInt ∧ (v.1 0 304).toInt ≤ 1503 from (om_c99648273b z304)) (show 0 ≤ (v.1 0 305).toInt ∧ (v.1 0 305).toInt ≤ 1500 from (om_7897b4ccef z305)) (show 0 ≤ (v.1 0 306).toInt ∧ (v.1 0 306).toInt ≤ 40 from (om_7eaf33e007 z306)) (show 0 ≤ (v.1 0 373).toInt ∧ (v.1 0 373).toInt ≤ 4000 from (om_c74a68af25 z373)) (show pr ps = ad 908 from hps) (show (v.1 0 300) = ps from es300) (show l.stackTraces = false from hst)) tw_524 tw_525 (by decide +kernel) rfl rfl ⟨show 7 + 1 ≤ 8 * n + 16 from om_80738ea86d, show 8 + (1 + 11) + 104 ≤ 28 * (8 * n + 16) from om_4c5be64de3⟩ (List.range (cW ad pr N cI cR L1 L2 v).length) (rg_map _) (nd_range _) 0 rfl rfl rfl rfl hl.1 rfl (Nat.le_of_ble_eq_true rfl) dX2_operand_210 ⟨Nat.le_of_ble_eq_true rfl, Nat.le_of_ble_eq_true rfl⟩) hP hD hS hA (fun u9 ce9 q9 H locs hx9 hP hD hS hc9 hv9 hf9 => ?_) (fun u116 H locs hw115 hP hD hS hz8 => ?_)
              · exact vx_out (fun x h9 => (hnt x h9).elim) hlocks hc9 hv9 hf9 (fun t9 ht9 hv8 => ⟨u9, ⟨FC.tr (FC.rf _) hx9.1, hx9.2.1, (by rw [QO_eq]; exact ⟨z304, z305, z306, z312, z321, z326, z373, z381, zd, zlb, r3, ex1, (Or.inr (⟨h4, (Or.inr (⟨h8, (Or.inr (⟨h30, (Or.inr (⟨h37, (Or.inr (⟨h59, (Or.inl ⟨h114, (Or.inl ⟨u9, hx9.2.2, rfl, rfl, rfl⟩)⟩)⟩))⟩))⟩))⟩))⟩))⟩)⟩, ⟨rfl, by rw [ht9]; exact hP, hD⟩, hS.F ht9⟩) hS.2.2 (Nat.le_refl _) (Nat.le_refl _)
              refine W.shrink (hz8.trans hz9) ?_
              obtain ⟨fr115, ex115, i305115, i306115, pj115, pt115, rs115⟩ := hw115
              refine lv_aload_n hx hb dX2_operand_213 rfl (lv_at hl 0 rfl) ?_
              refine lv_iconst (v := 1) hx hb dX2_operand_214 (by decide) ?_
              obtain ⟨n118, hn119⟩ : ∃ m, n = m + 1 := ex_z (om_ca6f0c0f01 zn i306115 pj115)
              have q120 : (u116.1 0 304).toInt = (v.1 0 304).toInt := congrArg Int32.toInt ((fr115.2.1 304 (by decide)).trans (show v.1 0 304 = (v.1 0 304) by rfl))
              have q121 : (u116.1 0 312).toInt = (v.1 0 312).toInt := congrArg Int32.toInt ((fr115.2.1 312 (by decide)).trans (show v.1 0 312 = (v.1 0 312) by rfl))
              have q122 : (u116.1 0 321).toInt = (v.1 0 321).toInt := congrArg Int32.toInt ((fr115.2.1 321 (by decide)).trans (show v.1 0 321 = (v.1 0 321) by rfl))
              have q123 : (u116.1 0 326).toInt = (v.1 0 326).toInt := congrArg Int32.toInt ((fr115.2.1 326 (by decide)).trans (show v.1 0 326 = (v.1 0 326) by rfl))
              have q124 : (u116.1 0 373).toInt = (v.1 0 373).toInt := congrArg Int32.toInt ((fr115.2.1 373 (by decide)).trans (show v.1 0 373 = (v.1 0 373) by rfl))
              have q125 : (u116.1 0 381).toInt = (v.1 0 381).toInt := congrArg Int32.toInt ((fr115.2.1 381 (by decide)).trans (show v.1 0 381 = (v.1 0 381) by rfl))
              have q126 : (u116.1 0 317).toInt = (v.1 0 317).toInt := congrArg Int32.toInt ((fr115.2.1 317 (by decide)).trans (show v.1 0 317 = (v.1 0 317) by rfl))
              refine W.sz (fun hz9 => ?_)
              refine czx_v (rx_Vk (n := 1) (As := [.int 1]) (rest := []) hx hb hml hown ht hKK hFx hP hD hS hA (ihE n118 hn119 dC dI cI cB cZ cJ cR tb H.size ad pr N L1 L2 u116 (1 : Int32) ps (show 0 ≤ (u116.1 0 304).toInt ∧ (u116.1 0 304).toInt ≤ 1503 from (om_73002589c1 z304 q120)) (show 0 ≤ (u116.1 0 305).toInt ∧ (u116.1 0 305).toInt ≤ 1500 from (om_89213937cb z305 i305115 pt115)) (show 0 ≤ (u116.1 0 306).toInt ∧ (u116.1 0 306).toInt ≤ 40 from (om_31a8ca9d36 z306 i306115 pj115)) (show 0 ≤ (u116.1 0 312).toInt ∧ (u116.1 0 312).toInt ≤ 500 from (om_f8376ff89c z312 q121)) (show 0 ≤ (u116.1 0 321).toInt ∧ (u116.1 0 321).toInt ≤ 501 from (om_ff27494c0e z321 q122)) (show 0 ≤ (u116.1 0 326).toInt ∧ (u116.1 0 326).toInt ≤ 420 from (om_8ed0dedb19 z326 q123)) (show 0 ≤ (u116.1 0 373).toInt ∧ (u116.1 0 373).toInt ≤ 4000 from (om_9084c127ed z373 q124)) (show 0 ≤ (u116.1 0 381).toInt ∧ (u116.1 0 381).toInt ≤ 3008 from (om_3d2979e731 z305 z326 z381 zd q125)) (show L1.length = 40 from hL1) (show L2.length = 60 from hL2) (show RP u116 from ((show FC [305, 306, 307, 314, 315, 317, 321, 326, 381] [0, 316, 318, 319, 320, 324, 325, 378, 379, 380] v u116 from (FC.tr (FC.rf _) (FC.up fr115 (by decide) (by decide)))).1 rp)) (show pr ps = ad 908 from hps) (show (u116.1 0 300) = ps from (Eq.trans (fr115.2.1 300 (by decide)) es300)) (show (u116.1 0 310) = ps from (Eq.trans (fr115.2.1 310 (by decide)) es310)) (show l.stackTraces = false from hst) (show (u116.1 0 381).toInt + (u116.1 0 326).toInt - 2 * (u116.1 0 305).toInt ≤ 0 from (om_27b720c3fb zd q123 q125 pt115)) (show 0 ≤ (u116.1 0 317).toInt ∧ (u116.1 0 317).toInt - 4 * (u116.1 0 305).toInt ≤ 8 from (om_acd7fdc17b zlb q126 pt115)) (show 40 ≤ (u116.1 0 306).toInt + (n118 : Int) from (om_5c65d2983c zn pj115 hn119))) tw_520 tw_521 (by decide +kernel) rfl rfl ⟨show (8 * n118 + 20) + 1 ≤ 8 * n + 16 from (om_c2eb7aaa98 hn119), show 8 + (5 + 11) + 28 * (8 * n118 + 20) ≤ 28 * (8 * n + 16) from (om_c2d39c1233 hn119)⟩ (List.range (cW ad pr N cI cR L1 L2 u116).length) (rg_map _) (nd_range _) 2 rfl rfl rfl rfl hl.1 rfl (Nat.le_of_ble_eq_true rfl) dX2_operand_215 ⟨Nat.le_of_ble_eq_true rfl, Nat.le_of_ble_eq_true rfl⟩) hP hD hS hA (fun u9 ce9 q9 H locs hx9 hP hD hS hc9 hv9 hf9 => ?_) (fun u128 H locs hw127 hP hD hS hz8 => ?_)
              · exact vx_out (fun x h9 => (hnt x h9).elim) hlocks hc9 hv9 hf9 (fun t9 ht9 hv8 => ⟨u9, ⟨FC.tr (FC.tr (FC.rf _) (FC.up fr115 (by decide) (by decide))) hx9.1, hx9.2.1, (by rw [QO_eq]; exact ⟨z304, z305, z306, z312, z321, z326, z373, z381, zd, zlb, r3, ex1, (Or.inr (⟨h4, (Or.inr (⟨h8, (Or.inr (⟨h30, (Or.inr (⟨h37, (Or.inr (⟨h59, (Or.inl ⟨h114, (Or.inr (⟨u116, ex115, ⟨fr115, i305115, i306115, pj115, pt115, rs115⟩, (Or.inl ⟨u9, (by rw [hn119]; exact hx9.2.2), rfl, rfl, rfl⟩)⟩))⟩)⟩))⟩))⟩))⟩))⟩))⟩)⟩, ⟨rfl, by rw [ht9]; exact hP, hD⟩, hS.F ht9⟩) hS.2.2 (Nat.le_refl _) (Nat.le_refl _)
              refine W.shrink (hz8.trans hz9) ?_
              obtain ⟨fr127, ex127, i305127, i306127, i321127, i326127, i381127, pd127, pt127, plb127, po127, rs127⟩ := hw127
              have i305127 : 0 ≤ (u128.1 0 305).toInt ∧ (u128.1 0 305).toInt ≤ 1500 := i305127
              have i306127 : 0 ≤ (u128.1 0 306).toInt ∧ (u128.1 0 306).toInt ≤ 40 := i306127
              have i321127 : 0 ≤ (u128.1 0 321).toInt ∧ (u128.1 0 321).toInt ≤ 501 := i321127
              have i326127 : 0 ≤ (u128.1 0 326).toInt ∧ (u128.1 0 326).toInt ≤ 420 := i326127
              have i381127 : 0 ≤ (u128.1 0 381).toInt ∧ (u128.1 0 381).toInt ≤ 3008 := i381127
              have pd127 : (u128.1 0 381).toInt + (u128.1 0 326).toInt - 2 * (u128.1 0 305).toInt + (1) ≤ (u116.1 0 381).toInt + (u116.1 0 326).toInt - 2 * (u116.1 0 305).toInt := pd127
              have pt127 : (u116.1 0 305).toInt + 1 ≤ (u128.1 0 305).toInt := pt127
              have plb127 : (u116.1 0 317).toInt ≤ (u128.1 0 317).toInt ∧ (u128.1 0 317).toInt - 4 * (u128.1 0 305).toInt ≤ (u116.1 0 317).toInt - 4 * (u116.1 0 305).toInt + 0 := plb127
              have po127 : (u128.1 0 306).toInt = (u116.1 0 306).toInt := po127
              have rs127 : RS u116 u128 := rs127
              refine lv_aload_n hx hb dX2_operand_218 rfl (lv_at hl 0 rfl) ?_
              refine va_get (D := (dC, dI)) (ci := 6) (fs := oF_X2 ad pr u128) (v := .ref (ad 900)) (C := RX2) (T := TX2) (N := 5) hx hb ht itX2 hown hK hP 2 rfl rfl 0 (by decide) (ht _ tw_509) (fun _ h9 => h9) rfl dX2_operand_219 ?_
              refine lv_bipush (v := 31) hx hb dX2_operand_222 (by decide) ?_
              have q130 : (u128.1 0 304).toInt = (u116.1 0 304).toInt := congrArg Int32.toInt ((fr127.2.1 304 (by decide)).trans (show u116.1 0 304 = (u116.1 0 304) by rfl))
              have q131 : (u128.1 0 373).toInt = (u116.1 0 373).toInt := congrArg Int32.toInt ((fr127.2.1 373 (by decide)).trans (show u116.1 0 373 = (u116.1 0 373) by rfl))
              refine W.sz (fun hz9 => ?_)
              refine czx_v (rx_Vk (n := 1) (As := [.int 31]) (rest := []) hx hb hml hown ht hKK hFx hP hD hS hA (c_x_X9_expect l dC dI cI cB cZ cJ cR tb H.size ad pr N L1 L2 u128 (31 : Int32) ps (show 0 ≤ (u128.1 0 304).toInt ∧ (u128.1 0 304).toInt ≤ 1503 from (om_dd87ee851a z304 q120 q130)) (show 0 ≤ (u128.1 0 305).toInt ∧ (u128.1 0 305).toInt ≤ 1500 from (om_5f02f7d50e z305 pt115 i305127 pt127)) (show 0 ≤ (u128.1 0 373).toInt ∧ (u128.1 0 373).toInt ≤ 4000 from (om_03cd8767ac z373 q124 q131)) (show pr ps = ad 908 from hps) (show (u128.1 0 300) = ps from (Eq.trans (fr127.2.1 300 (by decide)) (Eq.trans (fr115.2.1 300 (by decide)) es300))) (show l.stackTraces = false from hst)) tw_526 tw_527 (by decide +kernel) rfl rfl ⟨show 7 + 1 ≤ 8 * n + 16 from om_80738ea86d, show 8 + (2 + 11) + 104 ≤ 28 * (8 * n + 16) from om_6c7d6f0de2⟩ (List.range (cW ad pr N cI cR L1 L2 u128).length) (rg_map _) (nd_range _) 0 rfl rfl rfl rfl hl.1 rfl (Nat.le_of_ble_eq_true rfl) dX2_operand_224 ⟨Nat.le_of_ble_eq_true rfl, Nat.le_of_ble_eq_true rfl⟩) hP hD hS hA (fun u9 ce9 q9 H locs hx9 hP hD hS hc9 hv9 hf9 => ?_) (fun u133 H locs hw132 hP hD hS hz8 => ?_)
              · exact vx_out (fun x h9 => (hnt x h9).elim) hlocks hc9 hv9 hf9 (fun t9 ht9 hv8 => ⟨u9, ⟨FC.tr (FC.tr (FC.tr (FC.rf _) (FC.up fr115 (by decide) (by decide))) (FC.up fr127 (by decide) (by decide))) hx9.1, hx9.2.1, (by rw [QO_eq]; exact ⟨z304, z305, z306, z312, z321, z326, z373, z381, zd, zlb, r3, ex1, (Or.inr (⟨h4, (Or.inr (⟨h8, (Or.inr (⟨h30, (Or.inr (⟨h37, (Or.inr (⟨h59, (Or.inl ⟨h114, (Or.inr (⟨u116, ex115, ⟨fr115, i305115, i306115, pj115, pt115, rs115⟩, (Or.inr (⟨u128, (by rw [hn119]; exact ex127), ⟨fr127, i305127, i306127, i321127, i326127, i381127, pd127, pt127, plb127, po127, rs127⟩, (Or.inl ⟨u9, hx9.2.2, rfl, rfl, rfl⟩)⟩))⟩))⟩)⟩))⟩))⟩))⟩))⟩))⟩)⟩, ⟨rfl, by rw [ht9]; exact hP, hD⟩, hS.F ht9⟩) hS.2.2 (Nat.le_refl _) (Nat.le_refl _)
              refine W.shrink (hz8.trans hz9) ?_
              obtain ⟨fr132, ex132, i305132, pt132, rs132⟩ := hw132
              have i305132 : 0 ≤ (u133.1 0 305).toInt ∧ (u133.1 0 305).toInt ≤ 1500 := i305132
              have pt132 : (u133.1 0 305).toInt = (u128.1 0 305).toInt + 1 := pt132
              have rs132 : RS u128 u133 := rs132
              refine lv_aload_n hx hb dX2_operand_227 rfl (lv_at hl 0 rfl) ?_
              refine va_get (D := (dC, dI)) (ci := 6) (fs := oF_X2 ad pr u133) (v := .ref (ad 900)) (C := RX2) (T := TX2) (N := 5) hx hb ht itX2 hown hK hP 2 rfl rfl 0 (by decide) (ht _ tw_509) (fun _ h9 => h9) rfl dX2_operand_228 ?_
              have q135 : (u133.1 0 306).toInt = (u128.1 0 306).toInt := congrArg Int32.toInt ((fr132.2.1 306 (by decide)).trans (show u128.1 0 306 = (u128.1 0 306) by rfl))
              refine cu_v (rn_Vk (n := 0) (As := []) (rest := []) hx hb hml hown ht hKK hFx hP hD hS hA (c_x_X9_close l dC dI cI cB cZ cJ cR tb H.size ad pr N L1 L2 u133  (show 0 ≤ (u133.1 0 306).toInt ∧ (u133.1 0 306).toInt ≤ 40 from (om_d6433c88a8 z306 pj115 i306127 po127 q135)) (show 1 ≤ (u133.1 0 306).toInt from (om_22aff8ea1a z306 pj115 po127 q135))) tw_528 tw_529 (by decide +kernel) rfl rfl ⟨show 0 + 1 ≤ 8 * n + 16 from om_ae1d63f123, show 8 + (1 + 11) + 0 ≤ 28 * (8 * n + 16) from om_e9b1f44c62⟩ (List.range (cW ad pr N cI cR L1 L2 u133).length) (rg_map _) (nd_range _) 0 rfl rfl rfl rfl hl.1 rfl (Nat.le_of_ble_eq_true rfl) dX2_operand_231 ⟨Nat.le_of_ble_eq_true rfl, Nat.le_of_ble_eq_true rfl⟩) hP hD hS hA (fun u137 H locs hw136 hP hD hS => ?_)
              obtain ⟨fr136, ex136, i306136, pj136, rs136⟩ := hw136
              have i306136 : 0 ≤ (u137.1 0 306).toInt ∧ (u137.1 0 306).toInt ≤ 40 := i306136
              have pj136 : (u137.1 0 306).toInt = (u133.1 0 306).toInt - 1 := pj136
              have rs136 : RS u133 u137 := rs136
              refine W.widen (k := 0) (n := 0) (Nat.le_refl _) (Nat.le_refl _) ?_
              refine lv_iconst (v := 0) hx hb dX2_operand_234 (by decide) ?_
              have q139 : (u137.1 0 305).toInt = (u133.1 0 305).toInt := congrArg Int32.toInt ((fr136.2.1 305 (by decide)).trans (show u133.1 0 305 = (u133.1 0 305) by rfl))
              have q140 : (u133.1 0 321).toInt = (u128.1 0 321).toInt := congrArg Int32.toInt ((fr132.2.1 321 (by decide)).trans (show u128.1 0 321 = (u128.1 0 321) by rfl))
              have q141 : (u137.1 0 321).toInt = (u133.1 0 321).toInt := congrArg Int32.toInt ((fr136.2.1 321 (by decide)).trans (show u133.1 0 321 = (u133.1 0 321) by rfl))
              have q142 : (u133.1 0 326).toInt = (u128.1 0 326).toInt := congrArg Int32.toInt ((fr132.2.1 326 (by decide)).trans (show u128.1 0 326 = (u128.1 0 326) by rfl))
              have q143 : (u137.1 0 326).toInt = (u133.1 0 326).toInt := congrArg Int32.toInt ((fr136.2.1 326 (by decide)).trans (show u133.1 0 326 = (u133.1 0 326) by rfl))
              have q144 : (u133.1 0 381).toInt = (u128.1 0 381).toInt := congrArg Int32.toInt ((fr132.2.1 381 (by decide)).trans (show u128.1 0 381 = (u128.1 0 381) by rfl))
              have q145 : (u137.1 0 381).toInt = (u133.1 0 381).toInt := congrArg Int32.toInt ((fr136.2.1 381 (by decide)).trans (show u133.1 0 381 = (u133.1 0 381) by rfl))
              have q146 : (u133.1 0 317).toInt = (u128.1 0 317).toInt := congrArg Int32.toInt ((fr132.2.1 317 (by decide)).trans (show u128.1 0 317 = (u128.1 0 317) by rfl))
              have q147 : (u137.1 0 317).toInt = (u133.1 0 317).toInt := congrArg Int32.toInt ((fr136.2.1 317 (by decide)).trans (show u133.1 0 317 = (u133.1 0 317) by rfl))
              refine W.sz (fun hz => ?_)
              refine vx_ret ?_
              refine W.widen (k := 1) (n := 6) (Nat.le_of_ble_eq_true rfl) (Nat.le_of_ble_eq_true rfl) ?_
              exact W.zret (v := 0) hx hb hr rfl (fun t ht9 hW => ⟨⟨0, u137, rfl, ⟨(FC.tr (FC.tr (FC.tr (FC.tr (FC.rf _) (FC.up fr115 (by decide) (by decide))) (FC.up fr127 (by decide) (by decide))) (FC.up fr132 (by decide) (by decide))) (FC.up fr136 (by decide) (by decide))), (by rw [QO_eq]; exact ⟨z304, z305, z306, z312, z321, z326, z373, z381, zd, zlb, r3, ex1, (Or.inr (⟨h4, (Or.inr (⟨h8, (Or.inr (⟨h30, (Or.inr (⟨h37, (Or.inr (⟨h59, (Or.inl ⟨h114, (Or.inr (⟨u116, ex115, ⟨fr115, i305115, i306115, pj115, pt115, rs115⟩, (Or.inr (⟨u128, (by rw [hn119]; exact ex127), ⟨fr127, i305127, i306127, i321127, i326127, i381127, pd127, pt127, plb127, po127, rs127⟩, (Or.inr (⟨u133, ex132, ⟨fr132, i305132, pt132, rs132⟩, u137, ex136, ⟨fr136, i306136, pj136, rs136⟩, rfl, rfl, rfl⟩))⟩))⟩))⟩)⟩))⟩))⟩))⟩))⟩))⟩), (show 0 ≤ (u137.1 0 305).toInt ∧ (u137.1 0 305).toInt ≤ 1500 from (om_fd2fd619f8 z305 pt115 pt127 i305132 pt132 q139)), (show 0 ≤ (u137.1 0 306).toInt ∧ (u137.1 0 306).toInt ≤ 40 from (om_7eaf33e007 i306136)), (show 0 ≤ (u137.1 0 321).toInt ∧ (u137.1 0 321).toInt ≤ 501 from (om_4dfa815534 i321127 q140 q141)), (show 0 ≤ (u137.1 0 326).toInt ∧ (u137.1 0 326).toInt ≤ 420 from (om_9591dea625 i326127 q142 q143)), (show 0 ≤ (u137.1 0 381).toInt ∧ (u137.1 0 381).toInt ≤ 3008 from (om_30a810b581 zd q123 q125 pt115 i305127 i326127 i381127 pd127 q144 q145)), (show (u137.1 0 381).toInt + (u137.1 0 326).toInt - 2 * (u137.1 0 305).toInt + (1) ≤ (v.1 0 381).toInt + (v.1 0 326).toInt - 2 * (v.1 0 305).toInt from (om_ce876ad6bf q123 q125 pt115 pd127 q142 q144 pt132 q139 q143 q145)), (show (v.1 0 305).toInt + 1 ≤ (u137.1 0 305).toInt from (om_3334a63f53 pt115 pt127 pt132 q139)), (show (v.1 0 317).toInt ≤ (u137.1 0 317).toInt ∧ (u137.1 0 317).toInt - 4 * (u137.1 0 305).toInt ≤ (v.1 0 317).toInt - 4 * (v.1 0 305).toInt + 0 from (om_08585cd7ae q126 pt115 plb127 q146 pt132 q139 q147)), (show (u137.1 0 306).toInt = (v.1 0 306).toInt from (om_4fee7d990b pj115 po127 q135 pj136)), (RS.tr (RS.tr (RS.tr (RS.tr RS.rf rs115) rs127) rs132) rs136), (Or.inl rfl)⟩, ⟨by rw [ht9]; exact hP, hD⟩, by rw [ht9]; exact hz⟩, hS.F ht9⟩) hS.2.2 dX2_operand_235
            ·
              by_cases h148 : r3 = 40
              · refine lv_lookup (off := 89) (tgt := 96) hx hb dX2_operand_7 (by decide) (by rw [h148]; decide) (by decide) ?_
                refine lv_aload_n hx hb dX2_operand_96 rfl (lv_at hl 0 rfl) ?_
                refine lv_bipush (v := 13) hx hb dX2_operand_97 (by decide) ?_
                refine W.sz (fun hz9 => ?_)
                refine czx_v (rx_Vk (n := 1) (As := [.int 13]) (rest := []) hx hb hml hown ht hKK hFx hP hD hS hA (c_x_X2_unary l n ihO dC dI cI cB cZ cJ cR tb H.size ad pr N L1 L2 v (13 : Int32) ps (show 0 ≤ (v.1 0 304).toInt ∧ (v.1 0 304).toInt ≤ 1503 from (om_c99648273b z304)) (show 0 ≤ (v.1 0 305).toInt ∧ (v.1 0 305).toInt ≤ 1500 from (om_7897b4ccef z305)) (show 0 ≤ (v.1 0 306).toInt ∧ (v.1 0 306).toInt ≤ 40 from (om_7eaf33e007 z306)) (show 0 ≤ (v.1 0 312).toInt ∧ (v.1 0 312).toInt ≤ 500 from (om_9861e69da5 z312)) (show 0 ≤ (v.1 0 321).toInt ∧ (v.1 0 321).toInt ≤ 501 from (om_e1d35f5faf z321)) (show 0 ≤ (v.1 0 326).toInt ∧ (v.1 0 326).toInt ≤ 420 from (om_839d7ed7dd z326)) (show 0 ≤ (v.1 0 373).toInt ∧ (v.1 0 373).toInt ≤ 4000 from (om_c74a68af25 z373)) (show 0 ≤ (v.1 0 381).toInt ∧ (v.1 0 381).toInt ≤ 3008 from (om_d5d375da37 z305 z326 z381 zd)) (show L1.length = 40 from hL1) (show L2.length = 60 from hL2) (show RP v from rp) (show pr ps = ad 908 from hps) (show (v.1 0 300) = ps from es300) (show (v.1 0 310) = ps from es310) (show l.stackTraces = false from hst) (show (v.1 0 381).toInt + (v.1 0 326).toInt - 2 * (v.1 0 305).toInt ≤ 0 from (om_53f6704e77 zd)) (show 0 ≤ (v.1 0 317).toInt ∧ (v.1 0 317).toInt - 4 * (v.1 0 305).toInt ≤ 8 from (om_8c45074a6a zlb)) (show 40 ≤ (v.1 0 306).toInt + (n : Int) from (om_a9150ae9b6 zn))) tw_561 tw_562 (by decide +kernel) rfl rfl ⟨show (8 * n + 14) + 1 ≤ 8 * n + 16 from om_05cf7bd78c, show 8 + (2 + 11) + 28 * (8 * n + 14) ≤ 28 * (8 * n + 16) from om_e3c8a2a66c⟩ (List.range (cW ad pr N cI cR L1 L2 v).length) (rg_map _) (nd_range _) 2 rfl rfl rfl rfl hl.1 rfl (Nat.le_of_ble_eq_true rfl) dX2_operand_99 ⟨Nat.le_of_ble_eq_true rfl, Nat.le_of_ble_eq_true rfl⟩) hP hD hS hA (fun u9 ce9 q9 H locs hx9 hP hD hS hc9 hv9 hf9 => ?_) (fun u150 H locs hw149 hP hD hS hz8 => ?_)
                · exact vx_out (fun x h9 => (hnt x h9).elim) hlocks hc9 hv9 hf9 (fun t9 ht9 hv8 => ⟨u9, ⟨FC.tr (FC.rf _) hx9.1, hx9.2.1, (by rw [QO_eq]; exact ⟨z304, z305, z306, z312, z321, z326, z373, z381, zd, zlb, r3, ex1, (Or.inr (⟨h4, (Or.inr (⟨h8, (Or.inr (⟨h30, (Or.inr (⟨h37, (Or.inr (⟨h59, (Or.inr (⟨h114, (Or.inl ⟨h148, (Or.inl ⟨u9, hx9.2.2, rfl, rfl, rfl⟩)⟩)⟩))⟩))⟩))⟩))⟩))⟩))⟩)⟩, ⟨rfl, by rw [ht9]; exact hP, hD⟩, hS.F ht9⟩) hS.2.2 (Nat.le_refl _) (Nat.le_refl _)
                refine W.shrink (hz8.trans hz9) ?_
                obtain ⟨fr149, ex149, i305149, i306149, i321149, i326149, i381149, pd149, pt149, plb149, po149, rs149⟩ := hw149
                refine lv_iconst (v := 0) hx hb dX2_operand_102 (by decide) ?_
                refine W.sz (fun hz => ?_)
                refine vx_ret ?_
                refine W.widen (k := 1) (n := 6) (Nat.le_of_ble_eq_true rfl) (Nat.le_of_ble_eq_true rfl) ?_
                exact W.zret (v := 0) hx hb hr rfl (fun t ht9 hW => ⟨⟨0, u150, rfl, ⟨(FC.tr (FC.rf _) (FC.up fr149 (by decide) (by decide))), (by rw [QO_eq]; exact ⟨z304, z305, z306, z312, z321, z326, z373, z381, zd, zlb, r3, ex1, (Or.inr (⟨h4, (Or.inr (⟨h8, (Or.inr (⟨h30, (Or.inr (⟨h37, (Or.inr (⟨h59, (Or.inr (⟨h114, (Or.inl ⟨h148, (Or.inr (⟨u150, ex149, ⟨fr149, i305149, i306149, i321149, i326149, i381149, pd149, pt149, plb149, po149, rs149⟩, rfl, rfl, rfl⟩))⟩)⟩))⟩))⟩))⟩))⟩))⟩))⟩), (show 0 ≤ (u150.1 0 305).toInt ∧ (u150.1 0 305).toInt ≤ 1500 from (om_26d9e457ca z305 i305149 pt149)), (show 0 ≤ (u150.1 0 306).toInt ∧ (u150.1 0 306).toInt ≤ 40 from (om_7eaf33e007 i306149)), (show 0 ≤ (u150.1 0 321).toInt ∧ (u150.1 0 321).toInt ≤ 501 from (om_e1d35f5faf i321149)), (show 0 ≤ (u150.1 0 326).toInt ∧ (u150.1 0 326).toInt ≤ 420 from (om_839d7ed7dd i326149)), (show 0 ≤ (u150.1 0 381).toInt ∧ (u150.1 0 381).toInt ≤ 3008 from (om_bc66ba86e4 zd i305149 i326149 i381149 pd149)), (show (u150.1 0 381).toInt + (u150.1 0 326).toInt - 2 * (u150.1 0 305).toInt + (1) ≤ (v.1 0 381).toInt + (v.1 0 326).toInt - 2 * (v.1 0 305).toInt from (om_d419e8fae7 pd149)), (show (v.1 0 305).toInt + 1 ≤ (u150.1 0 305).toInt from (om_8a2d1ecdf4 pt149)), (show (v.1 0 317).toInt ≤ (u150.1 0 317).toInt ∧ (u150.1 0 317).toInt - 4 * (u150.1 0 305).toInt ≤ (v.1 0 317).toInt - 4 * (v.1 0 305).toInt + 0 from (om_53a6d658c3 plb149)), (show (u150.1 0 306).toInt = (v.1 0 306).toInt from (om_5049cbdce5 po149)), (RS.tr RS.rf rs149), (Or.inl rfl)⟩, ⟨by rw [ht9]; exact hP, hD⟩, by rw [ht9]; exact hz⟩, hS.F ht9⟩) hS.2.2 dX2_operand_103
              ·
                by_cases h152 : r3 = 41
                · refine lv_lookup (off := 97) (tgt := 104) hx hb dX2_operand_7 (by decide) (by rw [h152]; decide) (by decide) ?_
                  refine lv_aload_n hx hb dX2_operand_104 rfl (lv_at hl 0 rfl) ?_
                  refine lv_bipush (v := 14) hx hb dX2_operand_105 (by decide) ?_
                  refine W.sz (fun hz9 => ?_)
                  refine czx_v (rx_Vk (n := 1) (As := [.int 14]) (rest := []) hx hb hml hown ht hKK hFx hP hD hS hA (c_x_X2_unary l n ihO dC dI cI cB cZ cJ cR tb H.size ad pr N L1 L2 v (14 : Int32) ps (show 0 ≤ (v.1 0 304).toInt ∧ (v.1 0 304).toInt ≤ 1503 from (om_c99648273b z304)) (show 0 ≤ (v.1 0 305).toInt ∧ (v.1 0 305).toInt ≤ 1500 from (om_7897b4ccef z305)) (show 0 ≤ (v.1 0 306).toInt ∧ (v.1 0 306).toInt ≤ 40 from (om_7eaf33e007 z306)) (show 0 ≤ (v.1 0 312).toInt ∧ (v.1 0 312).toInt ≤ 500 from (om_9861e69da5 z312)) (show 0 ≤ (v.1 0 321).toInt ∧ (v.1 0 321).toInt ≤ 501 from (om_e1d35f5faf z321)) (show 0 ≤ (v.1 0 326).toInt ∧ (v.1 0 326).toInt ≤ 420 from (om_839d7ed7dd z326)) (show 0 ≤ (v.1 0 373).toInt ∧ (v.1 0 373).toInt ≤ 4000 from (om_c74a68af25 z373)) (show 0 ≤ (v.1 0 381).toInt ∧ (v.1 0 381).toInt ≤ 3008 from (om_d5d375da37 z305 z326 z381 zd)) (show L1.length = 40 from hL1) (show L2.length = 60 from hL2) (show RP v from rp) (show pr ps = ad 908 from hps) (show (v.1 0 300) = ps from es300) (show (v.1 0 310) = ps from es310) (show l.stackTraces = false from hst) (show (v.1 0 381).toInt + (v.1 0 326).toInt - 2 * (v.1 0 305).toInt ≤ 0 from (om_53f6704e77 zd)) (show 0 ≤ (v.1 0 317).toInt ∧ (v.1 0 317).toInt - 4 * (v.1 0 305).toInt ≤ 8 from (om_8c45074a6a zlb)) (show 40 ≤ (v.1 0 306).toInt + (n : Int) from (om_a9150ae9b6 zn))) tw_561 tw_562 (by decide +kernel) rfl rfl ⟨show (8 * n + 14) + 1 ≤ 8 * n + 16 from om_05cf7bd78c, show 8 + (2 + 11) + 28 * (8 * n + 14) ≤ 28 * (8 * n + 16) from om_e3c8a2a66c⟩ (List.range (cW ad pr N cI cR L1 L2 v).length) (rg_map _) (nd_range _) 2 rfl rfl rfl rfl hl.1 rfl (Nat.le_of_ble_eq_true rfl) dX2_operand_107 ⟨Nat.le_of_ble_eq_true rfl, Nat.le_of_ble_eq_true rfl⟩) hP hD hS hA (fun u9 ce9 q9 H locs hx9 hP hD hS hc9 hv9 hf9 => ?_) (fun u154 H locs hw153 hP hD hS hz8 => ?_)
                  · exact vx_out (fun x h9 => (hnt x h9).elim) hlocks hc9 hv9 hf9 (fun t9 ht9 hv8 => ⟨u9, ⟨FC.tr (FC.rf _) hx9.1, hx9.2.1, (by rw [QO_eq]; exact ⟨z304, z305, z306, z312, z321, z326, z373, z381, zd, zlb, r3, ex1, (Or.inr (⟨h4, (Or.inr (⟨h8, (Or.inr (⟨h30, (Or.inr (⟨h37, (Or.inr (⟨h59, (Or.inr (⟨h114, (Or.inr (⟨h148, (Or.inl ⟨h152, (Or.inl ⟨u9, hx9.2.2, rfl, rfl, rfl⟩)⟩)⟩))⟩))⟩))⟩))⟩))⟩))⟩))⟩)⟩, ⟨rfl, by rw [ht9]; exact hP, hD⟩, hS.F ht9⟩) hS.2.2 (Nat.le_refl _) (Nat.le_refl _)
                  refine W.shrink (hz8.trans hz9) ?_
                  obtain ⟨fr153, ex153, i305153, i306153, i321153, i326153, i381153, pd153, pt153, plb153, po153, rs153⟩ := hw153
                  refine lv_iconst (v := 0) hx hb dX2_operand_110 (by decide) ?_
                  refine W.sz (fun hz => ?_)
                  refine vx_ret ?_
                  refine W.widen (k := 1) (n := 6) (Nat.le_of_ble_eq_true rfl) (Nat.le_of_ble_eq_true rfl) ?_
                  exact W.zret (v := 0) hx hb hr rfl (fun t ht9 hW => ⟨⟨0, u154, rfl, ⟨(FC.tr (FC.rf _) (FC.up fr153 (by decide) (by decide))), (by rw [QO_eq]; exact ⟨z304, z305, z306, z312, z321, z326, z373, z381, zd, zlb, r3, ex1, (Or.inr (⟨h4, (Or.inr (⟨h8, (Or.inr (⟨h30, (Or.inr (⟨h37, (Or.inr (⟨h59, (Or.inr (⟨h114, (Or.inr (⟨h148, (Or.inl ⟨h152, (Or.inr (⟨u154, ex153, ⟨fr153, i305153, i306153, i321153, i326153, i381153, pd153, pt153, plb153, po153, rs153⟩, rfl, rfl, rfl⟩))⟩)⟩))⟩))⟩))⟩))⟩))⟩))⟩))⟩), (show 0 ≤ (u154.1 0 305).toInt ∧ (u154.1 0 305).toInt ≤ 1500 from (om_26d9e457ca z305 i305153 pt153)), (show 0 ≤ (u154.1 0 306).toInt ∧ (u154.1 0 306).toInt ≤ 40 from (om_7eaf33e007 i306153)), (show 0 ≤ (u154.1 0 321).toInt ∧ (u154.1 0 321).toInt ≤ 501 from (om_e1d35f5faf i321153)), (show 0 ≤ (u154.1 0 326).toInt ∧ (u154.1 0 326).toInt ≤ 420 from (om_839d7ed7dd i326153)), (show 0 ≤ (u154.1 0 381).toInt ∧ (u154.1 0 381).toInt ≤ 3008 from (om_bc66ba86e4 zd i305153 i326153 i381153 pd153)), (show (u154.1 0 381).toInt + (u154.1 0 326).toInt - 2 * (u154.1 0 305).toInt + (1) ≤ (v.1 0 381).toInt + (v.1 0 326).toInt - 2 * (v.1 0 305).toInt from (om_d419e8fae7 pd153)), (show (v.1 0 305).toInt + 1 ≤ (u154.1 0 305).toInt from (om_8a2d1ecdf4 pt153)), (show (v.1 0 317).toInt ≤ (u154.1 0 317).toInt ∧ (u154.1 0 317).toInt - 4 * (u154.1 0 305).toInt ≤ (v.1 0 317).toInt - 4 * (v.1 0 305).toInt + 0 from (om_53a6d658c3 plb153)), (show (u154.1 0 306).toInt = (v.1 0 306).toInt from (om_5049cbdce5 po153)), (RS.tr RS.rf rs153), (Or.inl rfl)⟩, ⟨by rw [ht9]; exact hP, hD⟩, by rw [ht9]; exact hz⟩, hS.F ht9⟩) hS.2.2 dX2_operand_111
                ·
                  by_cases h156 : r3 = 54
                  · refine lv_lookup (off := 81) (tgt := 88) hx hb dX2_operand_7 (by decide) (by rw [h156]; decide) (by decide) ?_
                    refine lv_aload_n hx hb dX2_operand_88 rfl (lv_at hl 0 rfl) ?_
                    refine lv_bipush (v := 12) hx hb dX2_operand_89 (by decide) ?_
                    refine W.sz (fun hz9 => ?_)
                    refine czx_v (rx_Vk (n := 1) (As := [.int 12]) (rest := []) hx hb hml hown ht hKK hFx hP hD hS hA (c_x_X2_unary l n ihO dC dI cI cB cZ cJ cR tb H.size ad pr N L1 L2 v (12 : Int32) ps (show 0 ≤ (v.1 0 304).toInt ∧ (v.1 0 304).toInt ≤ 1503 from (om_c99648273b z304)) (show 0 ≤ (v.1 0 305).toInt ∧ (v.1 0 305).toInt ≤ 1500 from (om_7897b4ccef z305)) (show 0 ≤ (v.1 0 306).toInt ∧ (v.1 0 306).toInt ≤ 40 from (om_7eaf33e007 z306)) (show 0 ≤ (v.1 0 312).toInt ∧ (v.1 0 312).toInt ≤ 500 from (om_9861e69da5 z312)) (show 0 ≤ (v.1 0 321).toInt ∧ (v.1 0 321).toInt ≤ 501 from (om_e1d35f5faf z321)) (show 0 ≤ (v.1 0 326).toInt ∧ (v.1 0 326).toInt ≤ 420 from (om_839d7ed7dd z326)) (show 0 ≤ (v.1 0 373).toInt ∧ (v.1 0 373).toInt ≤ 4000 from (om_c74a68af25 z373)) (show 0 ≤ (v.1 0 381).toInt ∧ (v.1 0 381).toInt ≤ 3008 from (om_d5d375da37 z305 z326 z381 zd)) (show L1.length = 40 from hL1) (show L2.length = 60 from hL2) (show RP v from rp) (show pr ps = ad 908 from hps) (show (v.1 0 300) = ps from es300) (show (v.1 0 310) = ps from es310) (show l.stackTraces = false from hst) (show (v.1 0 381).toInt + (v.1 0 326).toInt - 2 * (v.1 0 305).toInt ≤ 0 from (om_53f6704e77 zd)) (show 0 ≤ (v.1 0 317).toInt ∧ (v.1 0 317).toInt - 4 * (v.1 0 305).toInt ≤ 8 from (om_8c45074a6a zlb)) (show 40 ≤ (v.1 0 306).toInt + (n : Int) from (om_a9150ae9b6 zn))) tw_561 tw_562 (by decide +kernel) rfl rfl ⟨show (8 * n + 14) + 1 ≤ 8 * n + 16 from om_05cf7bd78c, show 8 + (2 + 11) + 28 * (8 * n + 14) ≤ 28 * (8 * n + 16) from om_e3c8a2a66c⟩ (List.range (cW ad pr N cI cR L1 L2 v).length) (rg_map _) (nd_range _) 2 rfl rfl rfl rfl hl.1 rfl (Nat.le_of_ble_eq_true rfl) dX2_operand_91 ⟨Nat.le_of_ble_eq_true rfl, Nat.le_of_ble_eq_true rfl⟩) hP hD hS hA (fun u9 ce9 q9 H locs hx9 hP hD hS hc9 hv9 hf9 => ?_) (fun u158 H locs hw157 hP hD hS hz8 => ?_)
                    · exact vx_out (fun x h9 => (hnt x h9).elim) hlocks hc9 hv9 hf9 (fun t9 ht9 hv8 => ⟨u9, ⟨FC.tr (FC.rf _) hx9.1, hx9.2.1, (by rw [QO_eq]; exact ⟨z304, z305, z306, z312, z321, z326, z373, z381, zd, zlb, r3, ex1, (Or.inr (⟨h4, (Or.inr (⟨h8, (Or.inr (⟨h30, (Or.inr (⟨h37, (Or.inr (⟨h59, (Or.inr (⟨h114, (Or.inr (⟨h148, (Or.inr (⟨h152, (Or.inl ⟨h156, (Or.inl ⟨u9, hx9.2.2, rfl, rfl, rfl⟩)⟩)⟩))⟩))⟩))⟩))⟩))⟩))⟩))⟩))⟩)⟩, ⟨rfl, by rw [ht9]; exact hP, hD⟩, hS.F ht9⟩) hS.2.2 (Nat.le_refl _) (Nat.le_refl _)
                    refine W.shrink (hz8.trans hz9) ?_
                    obtain ⟨fr157, ex157, i305157, i306157, i321157, i326157, i381157, pd157, pt157, plb157, po157, rs157⟩ := hw157
                    refine lv_iconst (v := 0) hx hb dX2_operand_94 (by decide) ?_
                    refine W.sz (fun hz => ?_)
                    refine vx_ret ?_
                    refine W.widen (k := 1) (n := 6) (Nat.le_of_ble_eq_true rfl) (Nat.le_of_ble_eq_true rfl) ?_
                    exact W.zret (v := 0) hx hb hr rfl (fun t ht9 hW => ⟨⟨0, u158, rfl, ⟨(FC.tr (FC.rf _) (FC.up fr157 (by decide) (by decide))), (by rw [QO_eq]; exact ⟨z304, z305, z306, z312, z321, z326, z373, z381, zd, zlb, r3, ex1, (Or.inr (⟨h4, (Or.inr (⟨h8, (Or.inr (⟨h30, (Or.inr (⟨h37, (Or.inr (⟨h59, (Or.inr (⟨h114, (Or.inr (⟨h148, (Or.inr (⟨h152, (Or.inl ⟨h156, (Or.inr (⟨u158, ex157, ⟨fr157, i305157, i306157, i321157, i326157, i381157, pd157, pt157, plb157, po157, rs157⟩, rfl, rfl, rfl⟩))⟩)⟩))⟩))⟩))⟩))⟩))⟩))⟩))⟩))⟩), (show 0 ≤ (u158.1 0 305).toInt ∧ (u158.1 0 305).toInt ≤ 1500 from (om_26d9e457ca z305 i305157 pt157)), (show 0 ≤ (u158.1 0 306).toInt ∧ (u158.1 0 306).toInt ≤ 40 from (om_7eaf33e007 i306157)), (show 0 ≤ (u158.1 0 321).toInt ∧ (u158.1 0 321).toInt ≤ 501 from (om_e1d35f5faf i321157)), (show 0 ≤ (u158.1 0 326).toInt ∧ (u158.1 0 326).toInt ≤ 420 from (om_839d7ed7dd i326157)), (show 0 ≤ (u158.1 0 381).toInt ∧ (u158.1 0 381).toInt ≤ 3008 from (om_bc66ba86e4 zd i305157 i326157 i381157 pd157)), (show (u158.1 0 381).toInt + (u158.1 0 326).toInt - 2 * (u158.1 0 305).toInt + (1) ≤ (v.1 0 381).toInt + (v.1 0 326).toInt - 2 * (v.1 0 305).toInt from (om_d419e8fae7 pd157)), (show (v.1 0 305).toInt + 1 ≤ (u158.1 0 305).toInt from (om_8a2d1ecdf4 pt157)), (show (v.1 0 317).toInt ≤ (u158.1 0 317).toInt ∧ (u158.1 0 317).toInt - 4 * (u158.1 0 305).toInt ≤ (v.1 0 317).toInt - 4 * (v.1 0 305).toInt + 0 from (om_53a6d658c3 plb157)), (show (u158.1 0 306).toInt = (v.1 0 306).toInt from (om_5049cbdce5 po157)), (RS.tr RS.rf rs157), (Or.inl rfl)⟩, ⟨by rw [ht9]; exact hP, hD⟩, by rw [ht9]; exact hz⟩, hS.F ht9⟩) hS.2.2 dX2_operand_95
                  ·
                    refine lv_lookup (off := 235) (tgt := 242) hx hb dX2_operand_7 (by decide) (by show Op.lookupswitch.offset [(2, 229), (3, 105), (4, 130), (5, 105), (20, 147), (30, 199), (40, 89), (41, 97), (54, 81)] 235 _ = 235; rw [lv_osw h4 (by decide), lv_osw h8 (by decide), lv_osw h30 (by decide), lv_osw h37 (by decide), lv_osw h59 (by decide), lv_osw h114 (by decide), lv_osw h148 (by decide), lv_osw h152 (by decide), lv_osw h156 (by decide)]; rfl) (by decide) ?_
                    refine lv_aload_n hx hb dX2_operand_242 rfl (lv_at hl 0 rfl) ?_
                    refine va_get (D := (dC, dI)) (ci := 6) (fs := oF_X2 ad pr v) (v := .ref (ad 900)) (C := RX2) (T := TX2) (N := 5) hx hb ht itX2 hown hK hP 2 rfl rfl 0 (by decide) (ht _ tw_509) (fun _ h9 => h9) rfl dX2_operand_243 ?_
                    refine W.sz (fun hz9 => ?_)
                    refine czx_v (rx_Vk (n := 0) (As := []) (rest := []) hx hb hml hown ht hKK hFx hP hD hS hA (c_x_X9_refuseMisfit l dC dI cI cB cZ cJ cR tb H.size ad pr N L1 L2 v ps (show 0 ≤ (v.1 0 304).toInt ∧ (v.1 0 304).toInt ≤ 1503 from (om_c99648273b z304)) (show 0 ≤ (v.1 0 305).toInt ∧ (v.1 0 305).toInt ≤ 1500 from (om_7897b4ccef z305)) (show 0 ≤ (v.1 0 373).toInt ∧ (v.1 0 373).toInt ≤ 4000 from (om_c74a68af25 z373)) (show pr ps = ad 908 from hps) (show (v.1 0 300) = ps from es300) (show l.stackTraces = false from hst)) tw_563 tw_564 (by decide +kernel) rfl rfl ⟨show 7 + 1 ≤ 8 * n + 16 from om_80738ea86d, show 8 + (1 + 11) + 104 ≤ 28 * (8 * n + 16) from om_4c5be64de3⟩ (List.range (cW ad pr N cI cR L1 L2 v).length) (rg_map _) (nd_range _) 0 rfl rfl rfl rfl hl.1 rfl (Nat.le_of_ble_eq_true rfl) dX2_operand_246 ⟨Nat.le_of_ble_eq_true rfl, Nat.le_of_ble_eq_true rfl⟩) hP hD hS hA (fun u9 ce9 q9 H locs hx9 hP hD hS hc9 hv9 hf9 => ?_) (fun u161 H locs hw160 hP hD hS hz8 => ?_)
                    · exact vx_out (fun x h9 => (hnt x h9).elim) hlocks hc9 hv9 hf9 (fun t9 ht9 hv8 => ⟨u9, ⟨FC.tr (FC.rf _) hx9.1, hx9.2.1, (by rw [QO_eq]; exact ⟨z304, z305, z306, z312, z321, z326, z373, z381, zd, zlb, r3, ex1, (Or.inr (⟨h4, (Or.inr (⟨h8, (Or.inr (⟨h30, (Or.inr (⟨h37, (Or.inr (⟨h59, (Or.inr (⟨h114, (Or.inr (⟨h148, (Or.inr (⟨h152, (Or.inr (⟨h156, u9, hx9.2.2, rfl, rfl, rfl⟩))⟩))⟩))⟩))⟩))⟩))⟩))⟩))⟩))⟩)⟩, ⟨rfl, by rw [ht9]; exact hP, hD⟩, hS.F ht9⟩) hS.2.2 (Nat.le_refl _) (Nat.le_refl _)
                    refine W.shrink (hz8.trans hz9) ?_
                    obtain ⟨fr160, ex160, no160, rs160⟩ := hw160
                    exact no160.elim
theorem om_4ff9781bd1 {n0 : Nat} : (8 * n0 + 16) + 1 ≤ 8 * n0 + 20 := by omega
theorem om_52ba07afcf {n0 : Nat} : 8 + (2 + 11) + 28 * (8 * n0 + 16) ≤ 28 * (8 * n0 + 20) := by omega
theorem om_7182bffadf {x0 x1 x2 x3 : Int} (h0 : x0 ≤ x1 ∧ x1 - 4 * x2 ≤ x0 - 4 * x3 + 0) : x0 ≤ x1 ∧ x1 - 4 * x2 ≤ x0 - 4 * x3 := by omega
theorem om_95d2db956e {x0 x1 : Int} (h0 : x0 = x1) : x0 = x1 + 0 := by omega
theorem om_39b89ceeec {x0 x1 x2 x3 x4 x5 : Int} (h0 : x0 + x1 - 2 * x2 ≤ 0) (h1 : x3 + x4 - 2 * x5 + (1) ≤ x0 + x1 - 2 * x2) : x3 + x4 - 2 * x5 ≤ 6 := by omega
theorem om_d74c35fdfa {n0 : Nat} : 1 + 1 ≤ 8 * n0 + 20 := by omega
theorem om_76e6510f9d {n0 : Nat} : 8 + (4 + 11) + 24 ≤ 28 * (8 * n0 + 20) := by omega
theorem om_70fb568090 {x0 x1 x2 : Int} (h0 : 0 ≤ x0 ∧ x0 ≤ 1500) (h1 : 0 ≤ x1 ∧ x1 ≤ 1500) (h2 : x0 + 1 ≤ x1) (h3 : x2 = x1) : 0 ≤ x2 ∧ x2 ≤ 1500 := by omega
theorem om_52416184a9 {n0 : Nat} : 0 + 1 ≤ 8 * n0 + 20 := by omega
theorem om_8bb6315d7c {n0 : Nat} : 8 + (1 + 11) + 0 ≤ 28 * (8 * n0 + 20) := by omega
theorem om_4920ca6ba3 {x0 x1 x2 x3 x4 x5 x6 x7 x8 : Int} (h0 : x0 + x1 - 2 * x2 ≤ 0) (h1 : 0 ≤ x3 ∧ x3 ≤ 1500) (h2 : x4 + x5 - 2 * x3 + (1) ≤ x0 + x1 - 2 * x2) (h3 : x6 = x3) (h4 : 0 ≤ x7 ∧ x7 ≤ 420) (h5 : 0 ≤ x8 ∧ x8 ≤ 3008) (h6 : x8 + x7 - 2 * x6 + (0) ≤ x4 + x5 - 2 * x3) : 0 ≤ x8 ∧ x8 ≤ 3008 := by omega
theorem om_96b962eac8 {x0 x1 x2 x3 x4 x5 x6 x7 x8 : Int} (h0 : x0 + x1 - 2 * x2 + (1) ≤ x3 + x4 - 2 * x5) (h1 : x6 + x7 - 2 * x8 + (0) ≤ x0 + x1 - 2 * x2) : x6 + x7 - 2 * x8 + (1) ≤ x3 + x4 - 2 * x5 := by omega
theorem om_88ea34bd63 {x0 x1 x2 : Int} (h0 : x0 + 1 ≤ x1) (h1 : x2 = x1) : x0 + 1 ≤ x2 := by omega
theorem om_f10b8c612f {x0 x1 x2 x3 x4 x5 : Int} (h0 : x0 ≤ x1 ∧ x1 - 4 * x2 ≤ x0 - 4 * x3) (h1 : x4 = x2) (h2 : x5 = x1) : x0 ≤ x5 ∧ x5 - 4 * x4 ≤ x0 - 4 * x3 + 0 := by omega
theorem om_4ae332b5e1 {x0 x1 x2 : Int} (h0 : x0 = x1 + 0) (h1 : x2 = x0) : x2 = x1 := by omega
theorem om_4d9705ba2c {x0 x1 x2 x3 x4 x5 x6 x7 x8 : Int} (h0 : x0 + x1 - 2 * x2 ≤ 0) (h1 : x3 + x4 - 2 * x5 + (1) ≤ x0 + x1 - 2 * x2) (h2 : x6 + x7 - 2 * x8 + (0) ≤ x3 + x4 - 2 * x5) : x6 + x7 - 2 * x8 ≤ 1 := by omega
theorem om_17f2ed4448 {x0 x1 x2 x3 x4 x5 : Int} (h0 : 0 ≤ x0 ∧ x0 - 4 * x1 ≤ 8) (h1 : x0 ≤ x2 ∧ x2 - 4 * x3 ≤ x0 - 4 * x1) (h2 : x4 = x3) (h3 : x5 = x2) : 0 ≤ x5 ∧ x5 - 4 * x4 ≤ 8 := by omega
theorem om_9af853d7c7 {x0 x2 x3 : Int} {n1 : Nat} (h0 : 40 ≤ x0 + (n1 : Int)) (h1 : x2 = x0 + 0) (h2 : x3 = x2) : 40 ≤ x3 + (n1 : Int) := by omega
theorem om_638aefdadf {n0 : Nat} : (8 * n0 + 14) + 1 ≤ 8 * n0 + 20 := by omega
theorem om_1d4958472f {n0 : Nat} : 8 + (3 + 11) + 28 * (8 * n0 + 14) ≤ 28 * (8 * n0 + 20) := by omega
theorem om_b51424184e {x0 x1 x2 : Int} (h0 : 0 ≤ x0 ∧ x0 ≤ 1500) (h1 : x1 = x0) (h2 : 0 ≤ x2 ∧ x2 ≤ 1500) (h3 : x1 + 4 ≤ x2) : 0 ≤ x2 ∧ x2 ≤ 1500 := by omega
theorem om_fde5c82059 {x0 x1 x2 x3 x4 x5 x6 x7 x8 x9 x10 x11 : Int} (h0 : x0 + x1 - 2 * x2 ≤ 0) (h1 : x3 + x4 - 2 * x5 + (1) ≤ x0 + x1 - 2 * x2) (h2 : x6 + x7 - 2 * x8 + (0) ≤ x3 + x4 - 2 * x5) (h3 : 0 ≤ x9 ∧ x9 ≤ 1500) (h4 : 0 ≤ x10 ∧ x10 ≤ 420) (h5 : 0 ≤ x11 ∧ x11 ≤ 3008) (h6 : x11 + x10 - 2 * x9 + (4) ≤ x6 + x7 - 2 * x8) : 0 ≤ x11 ∧ x11 ≤ 3008 := by omega
theorem om_a87880eb1f {x0 x1 x2 x3 x4 x5 x6 x7 x8 x9 x10 x11 : Int} (h0 : x0 + x1 - 2 * x2 + (1) ≤ x3 + x4 - 2 * x5) (h1 : x6 + x7 - 2 * x8 + (0) ≤ x0 + x1 - 2 * x2) (h2 : x9 + x10 - 2 * x11 + (4) ≤ x6 + x7 - 2 * x8) : x9 + x10 - 2 * x11 + (1) ≤ x3 + x4 - 2 * x5 := by omega
theorem om_cdf8f2bbd8 {x0 x1 x2 x3 : Int} (h0 : x0 + 1 ≤ x1) (h1 : x2 = x1) (h2 : x2 + 4 ≤ x3) : x0 + 1 ≤ x3 := by omega
theorem om_c2be7cd881 {x0 x1 x2 x3 x4 x5 x6 x7 : Int} (h0 : x0 ≤ x1 ∧ x1 - 4 * x2 ≤ x0 - 4 * x3) (h1 : x4 = x2) (h2 : x5 = x1) (h3 : x5 ≤ x6 ∧ x6 - 4 * x7 ≤ x5 - 4 * x4 + 0) : x0 ≤ x6 ∧ x6 - 4 * x7 ≤ x0 - 4 * x3 + 0 := by omega
theorem om_5fe66bf18b {x0 x1 x2 x3 : Int} (h0 : x0 = x1 + 0) (h1 : x2 = x0) (h2 : x3 = x2) : x3 = x1 := by omega
theorem om_a7220f1dc9 {n0 : Nat} : 8 + (2 + 11) + 0 ≤ 28 * (8 * n0 + 20) := by omega
theorem om_38609264ad {x0 x1 x2 x3 x4 x5 x6 x7 x8 : Int} (h0 : x0 + x1 - 2 * x2 ≤ 0) (h1 : x3 + x4 - 2 * x5 + (1) ≤ x0 + x1 - 2 * x2) (h2 : x6 + x7 - 2 * x8 + (0) ≤ x3 + x4 - 2 * x5) : x6 + x7 - 2 * x8 ≤ 4 := by omega
theorem om_314e2d4812 {x0 x1 x2 x3 x4 x5 : Int} (h0 : 0 ≤ x0 ∧ x0 - 4 * x1 ≤ 8) (h1 : x0 ≤ x2 ∧ x2 - 4 * x3 ≤ x0 - 4 * x1) (h2 : x4 = x3) (h3 : x5 = x2) : 0 ≤ x5 ∧ x5 - 4 * x4 ≤ 12 := by omega
theorem om_24732090af {n0 : Nat} : 7 + 1 ≤ 8 * n0 + 20 := by omega
theorem om_fe0555df1d {n0 : Nat} : 8 + (3 + 11) + 104 ≤ 28 * (8 * n0 + 20) := by omega
theorem om_15eb9a5d12 {x0 x1 x2 x3 : Int} (h0 : 0 ≤ x0 ∧ x0 ≤ 1500) (h1 : 0 ≤ x1 ∧ x1 ≤ 1500) (h2 : x0 + 1 ≤ x1) (h3 : x2 = x1) (h4 : x3 = x2) : 0 ≤ x3 ∧ x3 ≤ 1500 := by omega
theorem om_762fffe21e {n0 : Nat} : 8 + (1 + 11) + 104 ≤ 28 * (8 * n0 + 20) := by omega
theorem om_c9b78be2a1 {x0 x1 x2 x3 x4 x5 x6 x7 x8 x9 x10 x11 x12 x13 : Int} (h0 : x0 + x1 - 2 * x2 ≤ 0) (h1 : x3 + x4 - 2 * x5 + (1) ≤ x0 + x1 - 2 * x2) (h2 : x6 + x7 - 2 * x8 + (0) ≤ x3 + x4 - 2 * x5) (h3 : 0 ≤ x9 ∧ x9 ≤ 420) (h4 : 0 ≤ x10 ∧ x10 ≤ 3008) (h5 : x10 + x9 - 2 * x11 + (-2) ≤ x6 + x7 - 2 * x8) (h6 : x12 = x10) (h7 : 0 ≤ x13 ∧ x13 ≤ 1500) (h8 : x13 = x11 + 1) : 0 ≤ x12 ∧ x12 ≤ 3008 := by omega
theorem om_6f2dca716c {x0 x1 x2 x3 x4 x5 x6 x7 x8 x9 x10 x11 x12 x13 x14 : Int} (h0 : x0 + x1 - 2 * x2 ≤ 0) (h1 : x3 + x4 - 2 * x5 + (1) ≤ x0 + x1 - 2 * x2) (h2 : x6 + x7 - 2 * x8 + (0) ≤ x3 + x4 - 2 * x5) (h3 : x9 + x10 - 2 * x11 + (-2) ≤ x6 + x7 - 2 * x8) (h4 : x12 = x10) (h5 : x13 = x9) (h6 : x14 = x11 + 1) : x13 + x12 - 2 * x14 ≤ 0 := by omega
theorem om_d491782891 {x0 x1 x2 x3 x4 x5 x6 x7 x8 x9 : Int} (h0 : 0 ≤ x0 ∧ x0 - 4 * x1 ≤ 8) (h1 : x0 ≤ x2 ∧ x2 - 4 * x3 ≤ x0 - 4 * x1) (h2 : x4 = x3) (h3 : x5 = x2) (h4 : x5 ≤ x6 ∧ x6 - 4 * x7 ≤ x5 - 4 * x4 + 1) (h5 : x8 = x6) (h6 : x9 = x7 + 1) : 0 ≤ x8 ∧ x8 - 4 * x9 ≤ 8 := by omega
theorem om_b90ca6a272 {x0 x2 x3 x4 x5 : Int} {n1 : Nat} (h0 : 40 ≤ x0 + (n1 : Int)) (h1 : x2 = x0 + 0) (h2 : x3 = x2) (h3 : x4 = x3) (h4 : x5 = x4) : 40 ≤ x5 + (n1 : Int) := by omega
theorem om_8a2b73c54c {x0 : Int} (h0 : 0 ≤ x0 ∧ x0 ≤ 1500) : -2147483648 ≤ x0 + (1 : Int) := by omega
theorem om_3176a8b66b {x0 : Int} (h0 : 0 ≤ x0 ∧ x0 ≤ 1500) : x0 + (1 : Int) < 2147483648 := by omega
theorem om_46db715386 {x0 x1 : Int} (h0 : 0 ≤ x0 ∧ x0 ≤ 1500) (h1 : x0 < (1500 : Int)) (h2 : x1 = x0 + (1 : Int)) : 0 ≤ x1 ∧ x1 ≤ 1500 := by omega
theorem om_f3d5409ae1 {x0 x1 x2 x3 x4 x5 x6 x7 : Int} (h0 : x0 + 1 ≤ x1) (h1 : x2 = x1) (h2 : x3 ≤ x4 ∧ x4 - 4 * x5 ≤ x3 - 4 * x2 + 1) (h3 : x6 = x5 + 1) (h4 : x6 + 1 ≤ x7) : x0 + 1 ≤ x7 := by omega
theorem om_c19e5abc64 {x0 x1 x2 x3 x4 x5 x6 x7 x8 x9 x10 x11 : Int} (h0 : x0 ≤ x1 ∧ x1 - 4 * x2 ≤ x0 - 4 * x3) (h1 : x4 = x2) (h2 : x5 = x1) (h3 : x5 ≤ x6 ∧ x6 - 4 * x7 ≤ x5 - 4 * x4 + 1) (h4 : x8 = x6) (h5 : x9 = x7 + 1) (h6 : x8 ≤ x10 ∧ x10 - 4 * x11 ≤ x8 - 4 * x9 + 0) : x0 ≤ x10 ∧ x10 - 4 * x11 ≤ x0 - 4 * x3 := by omega
theorem om_2dbe0c427f {x0 x1 x2 x3 x4 x5 x6 x7 x8 x9 x10 x11 x12 x13 x14 x15 x16 x17 : Int} (h0 : x0 + x1 - 2 * x2 + (1) ≤ x3 + x4 - 2 * x5) (h1 : x6 + x7 - 2 * x8 + (0) ≤ x0 + x1 - 2 * x2) (h2 : x9 + x10 - 2 * x11 + (-2) ≤ x6 + x7 - 2 * x8) (h3 : x12 = x10) (h4 : x13 = x9) (h5 : x14 = x11 + 1) (h6 : x15 + x16 - 2 * x17 + (1) ≤ x13 + x12 - 2 * x14) : x15 + x16 - 2 * x17 + (1) ≤ x3 + x4 - 2 * x5 := by omega
theorem om_44f95a3b0a {x0 x1 x2 x3 x4 x5 : Int} (h0 : x0 = x1 + 0) (h1 : x2 = x0) (h2 : x3 = x2) (h3 : x4 = x3) (h4 : x5 = x4) : x5 = x1 + 0 := by omega
set_option maxHeartbeats 16000000 in
set_option maxRecDepth 100000 in
theorem c_x_X2_expression (l : Launch) (n : Nat) (ihE : ∀ m, n = m + 1 → Cq_expression l m) (O : Cq_operand l n) (dC : Nat → ClassId) (dI : Nat → Nat → Nat) (cI cB cZ cJ cR : ClassId) (tb : Nat → Nat) (sz : Nat) (ad : Nat → Nat) (pr : Int32 → Nat) (N : Nat) (L1 L2 : List Nat) (v : MS) (pa : Int32) (ps : Int32) (z304 : 0 ≤ (v.1 0 304).toInt ∧ (v.1 0 304).toInt ≤ 1503) (z305 : 0 ≤ (v.1 0 305).toInt ∧ (v.1 0 305).toInt ≤ 1500) (z306 : 0 ≤ (v.1 0 306).toInt ∧ (v.1 0 306).toInt ≤ 40) (z312 : 0 ≤ (v.1 0 312).toInt ∧ (v.1 0 312).toInt ≤ 500) (z321 : 0 ≤ (v.1 0 321).toInt ∧ (v.1 0 321).toInt ≤ 501) (z326 : 0 ≤ (v.1 0 326).toInt ∧ (v.1 0 326).toInt ≤ 420) (z373 : 0 ≤ (v.1 0 373).toInt ∧ (v.1 0 373).toInt ≤ 4000) (z381 : 0 ≤ (v.1 0 381).toInt ∧ (v.1 0 381).toInt ≤ 3008) (hL1 : L1.length = 40) (hL2 : L2.length = 60) (rp : RP v) (hps : pr ps = ad 908) (es300 : (v.1 0 300) = ps) (es310 : (v.1 0 310) = ps) (hst : l.stackTraces = false) (zd : (v.1 0 381).toInt + (v.1 0 326).toInt - 2 * (v.1 0 305).toInt ≤ 0) (zlb : 0 ≤ (v.1 0 317).toInt ∧ (v.1 0 317).toInt - 4 * (v.1 0 305).toInt ≤ 8) (zn : 40 ≤ (v.1 0 306).toInt + (n : Int)) : vx_Met l yX2_expression (Cond.code yX2_expression cX2_expression 5 none :: tw_W) ({ frames := 8 * n + 20, cells := 1, slots := 6, locals := 28 * (8 * n + 20) }) (pc_ (dC, dI) (tyS cI cB cZ cJ cR) tb (cW ad pr N cI cR L1 L2 v) sz [.ref (ad 902), .int pa]) (qvz_ (dC, dI) (cW ad pr N cI cR L1 L2 v) sz (fun (u : MS) => FC [305, 306, 307, 314, 315, 317, 321, 326, 381] [0, 316, 318, 319, 320, 324, 325, 378, 379, 380] v u ∧ (QE L1 L2 n v pa false u) ∧ (0 ≤ (u.1 0 305).toInt ∧ (u.1 0 305).toInt ≤ 1500) ∧ (0 ≤ (u.1 0 306).toInt ∧ (u.1 0 306).toInt ≤ 40) ∧ (0 ≤ (u.1 0 321).toInt ∧ (u.1 0 321).toInt ≤ 501) ∧ (0 ≤ (u.1 0 326).toInt ∧ (u.1 0 326).toInt ≤ 420) ∧ (0 ≤ (u.1 0 381).toInt ∧ (u.1 0 381).toInt ≤ 3008) ∧ ((u.1 0 381).toInt + (u.1 0 326).toInt - 2 * (u.1 0 305).toInt + (1) ≤ (v.1 0 381).toInt + (v.1 0 326).toInt - 2 * (v.1 0 305).toInt) ∧ ((v.1 0 305).toInt + 1 ≤ (u.1 0 305).toInt) ∧ ((v.1 0 317).toInt ≤ (u.1 0 317).toInt ∧ (u.1 0 317).toInt - 4 * (u.1 0 305).toInt ≤ (v.1 0 317).toInt - 4 * (v.1 0 305).toInt + 0) ∧ ((u.1 0 306).toInt = (v.1 0 306).toInt) ∧ (RS v u)) (fun (u : MS) => (cW ad pr N cI cR L1 L2 u))) (qxc (dC, dI) (cW ad pr N cI cR L1 L2 v) sz (fun (u : MS) => (cW ad pr N cI cR L1 L2 u)) (fun (u : MS) => FC xfl xal v u ∧ (u.1 0 308).toInt ≠ 0 ∧ (QE L1 L2 n v pa true u))) 1 6 (va_A (cW ad pr N cI cR L1 L2 v) sz) := by
  refine vx_ofW (cc := cX2_expression) (maxL := 5) (ret := none) (by decide) rfl ?_
  intro p e s m args below meth c s₁ B hml hnt hv
  obtain ⟨rfl, hsz, hP, hKK, hD0, hFx⟩ := hv
  have hK := hKK.1
  have hx := B.exec
  have hb := B.bytes
  have hr := B.returns
  have ht : ∀ w ∈ tw_W, w.before _ s = true := fun w h => atoms_spec (ws := Cond.code yX2_expression cX2_expression 5 none :: tw_W) B.pre w (List.mem_cons_of_mem _ h)
  have hown : s.vm.findClass RX2 = some m.cls := findClass_of_methodNamed B.named
  have hlocks := B.notSynchronized
  subst hsz
  unfold qvz_ qxc
  have hD := hD0.self (sz := s.heap.size)
  generalize hAe : va_A (cW ad pr N cI cR L1 L2 v) s.heap.size = A at hD hFx ⊢
  have hA : ∀ q : Nat, s.heap.size ≤ q → A q := fun q h => by rw [← hAe]; exact Or.inr h
  have hS : va_S A s.heap s.heap [] := va_S.rf
  have hl := lv_entry ([.ref (ad 902), .int pa]) (n := 5) (Nat.le_of_ble_eq_true rfl)
  rw [lg_entry_eq]
  generalize (lg_sl ([.ref (ad 902), .int pa]) ++ List.replicate (5 - (lg_sl ([.ref (ad 902), .int pa])).length) Slot.unset).toArray = ls at hl ⊢
  have hl : lv_has ls 5 [(0, .ref (ad 902)), (1, .int pa)] := hl
  refine lv_aload_n hx hb dX2_expression_0 rfl (lv_at hl 0 rfl) ?_
  refine va_get (D := (dC, dI)) (ci := 6) (fs := oF_X2 ad pr v) (v := .int (v.1 0 326)) (C := RX2) (T := TX2) (N := 5) hx hb ht itX2 hown hK hP 2 rfl rfl 4 (by decide) (ht _ tw_495) (fun _ h9 => h9) rfl dX2_expression_1 ?_
  refine lv_istore_n (lv' := [(2, .int (v.1 0 326)), (0, .ref (ad 902)), (1, .int pa)]) hx hb dX2_expression_4 rfl hl (by decide) rfl (fun ls hl => ?_)
  refine lv_aload_n hx hb dX2_expression_5 rfl (lv_at hl 1 rfl) ?_
  refine lv_iload_n hx hb dX2_expression_6 rfl (lv_at hl 2 rfl) ?_
  refine W.sz (fun hz9 => ?_)
  refine czx_i (rx_Vk (n := 1) (As := [.int pa]) (rest := []) hx hb hml hown ht hKK hFx hP hD hS hA (O dC dI cI cB cZ cJ cR tb s.heap.size ad pr N L1 L2 v pa ps (show 0 ≤ (v.1 0 304).toInt ∧ (v.1 0 304).toInt ≤ 1503 from (om_c99648273b z304)) (show 0 ≤ (v.1 0 305).toInt ∧ (v.1 0 305).toInt ≤ 1500 from (om_7897b4ccef z305)) (show 0 ≤ (v.1 0 306).toInt ∧ (v.1 0 306).toInt ≤ 40 from (om_7eaf33e007 z306)) (show 0 ≤ (v.1 0 312).toInt ∧ (v.1 0 312).toInt ≤ 500 from (om_9861e69da5 z312)) (show 0 ≤ (v.1 0 321).toInt ∧ (v.1 0 321).toInt ≤ 501 from (om_e1d35f5faf z321)) (show 0 ≤ (v.1 0 326).toInt ∧ (v.1 0 326).toInt ≤ 420 from (om_839d7ed7dd z326)) (show 0 ≤ (v.1 0 373).toInt ∧ (v.1 0 373).toInt ≤ 4000 from (om_c74a68af25 z373)) (show 0 ≤ (v.1 0 381).toInt ∧ (v.1 0 381).toInt ≤ 3008 from (om_d5d375da37 z305 z326 z381 zd)) (show L1.length = 40 from hL1) (show L2.length = 60 from hL2) (show RP v from rp) (show pr ps = ad 908 from hps) (show (v.1 0 300) = ps from es300) (show (v.1 0 310) = ps from es310) (show l.stackTraces = false from hst) (show (v.1 0 381).toInt + (v.1 0 326).toInt - 2 * (v.1 0 305).toInt ≤ 0 from (om_53f6704e77 zd)) (show 0 ≤ (v.1 0 317).toInt ∧ (v.1 0 317).toInt - 4 * (v.1 0 305).toInt ≤ 8 from (om_8c45074a6a zlb)) (show 40 ≤ (v.1 0 306).toInt + (n : Int) from (om_a9150ae9b6 zn))) tw_530 tw_531 (by decide +kernel) rfl rfl ⟨show (8 * n + 16) + 1 ≤ 8 * n + 20 from om_4ff9781bd1, show 8 + (2 + 11) + 28 * (8 * n + 16) ≤ 28 * (8 * n + 20) from om_52ba07afcf⟩ (List.range (cW ad pr N cI cR L1 L2 v).length) (rg_map _) (nd_range _) 2 rfl rfl rfl rfl hl.1 rfl (Nat.le_of_ble_eq_true rfl) dX2_expression_7 ⟨Nat.le_of_ble_eq_true rfl, Nat.le_of_ble_eq_true rfl⟩) hP hD hS hA (fun u9 ce9 q9 H locs hx9 hP hD hS hc9 hv9 hf9 => ?_) (fun r3 u2 H locs hw1 hP hD hS hz8 => ?_)
  · exact vx_out (fun x h9 => (hnt x h9).elim) hlocks hc9 hv9 hf9 (fun t9 ht9 hv8 => ⟨u9, ⟨FC.tr (FC.rf _) hx9.1, hx9.2.1, (by rw [QE_eq]; exact ⟨z304, z305, z306, z312, z321, z326, z373, z381, zd, zlb, (Or.inl ⟨u9, hx9.2.2, rfl, rfl⟩)⟩)⟩, ⟨rfl, by rw [ht9]; exact hP, hD⟩, hS.F ht9⟩) hS.2.2 (Nat.le_refl _) (Nat.le_refl _)
  refine W.shrink (hz8.trans hz9) ?_
  obtain ⟨fr1, ex1, i3051, i3061, i3211, i3261, i3811, pd1, pt1, plb1, po1, rs1, bz1⟩ := hw1
  refine lv_if_eq (tgt := 14) hx hb dX2_expression_10 (by decide) (fun h4 => ?_) (fun h4 => ?_)
  · have z5 : r3.toInt = (0 : Int) := eq_z rfl (show (0 : Int32).toInt = (0 : Int) by decide) h4
    refine lv_iconst (v := 0) hx hb dX2_expression_14 (by decide) ?_
    refine lv_istore_n (lv' := [(3, .int 0), (2, .int (v.1 0 326)), (0, .ref (ad 902)), (1, .int pa)]) hx hb dX2_expression_15 rfl hl (by decide) rfl (fun ls hl => ?_)
    refine lpm_ (X := Int32 × MS) (P := (fun (x9 : Int32 × MS) (H : Heap) (locs : List Loc) (ls : Array Slot) => (FC [305, 306, 307, 314, 315, 317, 321, 326, 381] [0, 316, 318, 319, 320, 324, 325, 378, 379, 380] v x9.2) ∧ (0 ≤ (x9.2.1 0 305).toInt ∧ (x9.2.1 0 305).toInt ≤ 1500) ∧ (0 ≤ (x9.2.1 0 306).toInt ∧ (x9.2.1 0 306).toInt ≤ 40) ∧ (0 ≤ (x9.2.1 0 321).toInt ∧ (x9.2.1 0 321).toInt ≤ 501) ∧ (0 ≤ (x9.2.1 0 326).toInt ∧ (x9.2.1 0 326).toInt ≤ 420) ∧ (0 ≤ (x9.2.1 0 381).toInt ∧ (x9.2.1 0 381).toInt ≤ 3008) ∧ (0 ≤ x9.1.toInt ∧ x9.1.toInt ≤ 1500) ∧ (RS v x9.2) ∧ ((v.1 0 305).toInt + 1 ≤ (x9.2.1 0 305).toInt) ∧ ((v.1 0 317).toInt ≤ (x9.2.1 0 317).toInt ∧ (x9.2.1 0 317).toInt - 4 * (x9.2.1 0 305).toInt ≤ (v.1 0 317).toInt - 4 * (v.1 0 305).toInt) ∧ ((x9.2.1 0 381).toInt + (x9.2.1 0 326).toInt - 2 * (x9.2.1 0 305).toInt + (1) ≤ (v.1 0 381).toInt + (v.1 0 326).toInt - 2 * (v.1 0 305).toInt) ∧ ((x9.2.1 0 306).toInt = (v.1 0 306).toInt + 0) ∧ (RT (Q_x_X2_expression_L0 L1 L2 (QO L1 L2 n) v) (0, u2) (x9.1, x9.2)) ∧ va_P (dC, dI) vwCl (cW ad pr N cI cR L1 L2 x9.2) H ∧ va_D A (cW ad pr N cI cR L1 L2 x9.2) ∧ va_S A s.heap H locs ∧ lv_has ls 5 [(3, .int x9.1), (2, .int (v.1 0 326)), (0, .ref (ad 902)), (1, .int pa)])) (fun x9 => (1500 - x9.1.toInt).toNat) 16 (fun x9 H locs ls hh ih16 => ?_) (0, u2) _ _ _ ⟨(show FC [305, 306, 307, 314, 315, 317, 321, 326, 381] [0, 316, 318, 319, 320, 324, 325, 378, 379, 380] v u2 from (FC.tr (FC.rf _) (FC.up fr1 (by decide) (by decide)))), (show 0 ≤ (u2.1 0 305).toInt ∧ (u2.1 0 305).toInt ≤ 1500 from (om_c55c38ddc1 z305 i3051 pt1)), (show 0 ≤ (u2.1 0 306).toInt ∧ (u2.1 0 306).toInt ≤ 40 from (om_7eaf33e007 i3061)), (show 0 ≤ (u2.1 0 321).toInt ∧ (u2.1 0 321).toInt ≤ 501 from (om_e1d35f5faf i3211)), (show 0 ≤ (u2.1 0 326).toInt ∧ (u2.1 0 326).toInt ≤ 420 from (om_839d7ed7dd i3261)), (show 0 ≤ (u2.1 0 381).toInt ∧ (u2.1 0 381).toInt ≤ 3008 from (om_a26ca01a96 zd i3051 i3261 i3811 pd1)), (show 0 ≤ (0 : Int) ∧ (0 : Int) ≤ 1500 from om_b1c23a1f42), (show RS v u2 from (RS.tr RS.rf rs1)), (show (v.1 0 305).toInt + 1 ≤ (u2.1 0 305).toInt from (om_57733d93f1 pt1)), (show (v.1 0 317).toInt ≤ (u2.1 0 317).toInt ∧ (u2.1 0 317).toInt - 4 * (u2.1 0 305).toInt ≤ (v.1 0 317).toInt - 4 * (v.1 0 305).toInt from (om_7182bffadf plb1)), (show (u2.1 0 381).toInt + (u2.1 0 326).toInt - 2 * (u2.1 0 305).toInt + (1) ≤ (v.1 0 381).toInt + (v.1 0 326).toInt - 2 * (v.1 0 305).toInt from (om_9440a3056d pd1)), (show (u2.1 0 306).toInt = (v.1 0 306).toInt + 0 from (om_95d2db956e po1)), RT.rf, hP, hD, hS, lv_sub hl [0, 1, 2, 3] rfl⟩
    obtain ⟨ka, w16⟩ := x9
    obtain ⟨fwL16, i305L16, i306L16, i321L16, i326L16, i381L16, f1L16, rsL16, ptL16, plbL16, pdL16, poL16, exL16, hP, hD, hS, hl⟩ := hh
    have fwL16 : FC [305, 306, 307, 314, 315, 317, 321, 326, 381] [0, 316, 318, 319, 320, 324, 325, 378, 379, 380] v w16 := fwL16
    have i305L16 : 0 ≤ (w16.1 0 305).toInt ∧ (w16.1 0 305).toInt ≤ 1500 := i305L16
    have i306L16 : 0 ≤ (w16.1 0 306).toInt ∧ (w16.1 0 306).toInt ≤ 40 := i306L16
    have i321L16 : 0 ≤ (w16.1 0 321).toInt ∧ (w16.1 0 321).toInt ≤ 501 := i321L16
    have i326L16 : 0 ≤ (w16.1 0 326).toInt ∧ (w16.1 0 326).toInt ≤ 420 := i326L16
    have i381L16 : 0 ≤ (w16.1 0 381).toInt ∧ (w16.1 0 381).toInt ≤ 3008 := i381L16
    have f1L16 : 0 ≤ ka.toInt ∧ ka.toInt ≤ 1500 := f1L16
    have rsL16 : RS v w16 := rsL16
    have ptL16 : (v.1 0 305).toInt + 1 ≤ (w16.1 0 305).toInt := ptL16
    have plbL16 : (v.1 0 317).toInt ≤ (w16.1 0 317).toInt ∧ (w16.1 0 317).toInt - 4 * (w16.1 0 305).toInt ≤ (v.1 0 317).toInt - 4 * (v.1 0 305).toInt := plbL16
    have pdL16 : (w16.1 0 381).toInt + (w16.1 0 326).toInt - 2 * (w16.1 0 305).toInt + (1) ≤ (v.1 0 381).toInt + (v.1 0 326).toInt - 2 * (v.1 0 305).toInt := pdL16
    have poL16 : (w16.1 0 306).toInt = (v.1 0 306).toInt + 0 := poL16
    have hP : va_P (dC, dI) vwCl (cW ad pr N cI cR L1 L2 w16) H := hP
    have hD : va_D A (cW ad pr N cI cR L1 L2 w16) := hD
    have hl : lv_has ls 5 [(3, .int ka), (2, .int (v.1 0 326)), (0, .ref (ad 902)), (1, .int pa)] := hl
    refine lv_iload_n hx hb dX2_expression_16 rfl (lv_at hl 0 rfl) ?_
    refine lv_sipush (v := 1500) hx hb dX2_expression_17 (by decide) ?_
    refine lv_icmp_ge (tgt := 80) hx hb dX2_expression_20 (by decide) (fun h6 => ?_) (fun h6 => ?_)
    · have z7 : (1500 : Int) ≤ ka.toInt := le_z (show (1500 : Int32).toInt = (1500 : Int) by decide) rfl h6
      refine lv_aload_n hx hb dX2_expression_80 rfl (lv_at hl 2 rfl) ?_
      refine lv_iload_n hx hb dX2_expression_81 rfl (lv_at hl 1 rfl) ?_
      refine lv_iconst (v := 0) hx hb dX2_expression_82 (by decide) ?_
      refine cu_v (rn_Vk (n := 2) (As := [.int (v.1 0 326), .int 0]) (rest := []) hx hb hml hown ht hKK hFx hP hD hS hA (c_x_X2_finishSigns l dC dI cI cB cZ cJ cR tb H.size ad pr N L1 L2 w16 (v.1 0 326) (0 : Int32) ps (show 0 ≤ (w16.1 0 305).toInt ∧ (w16.1 0 305).toInt ≤ 1500 from (om_c55c38ddc1 z305 i305L16 ptL16)) (show 0 ≤ (w16.1 0 326).toInt ∧ (w16.1 0 326).toInt ≤ 420 from (om_839d7ed7dd i326L16)) (show 0 ≤ (w16.1 0 381).toInt ∧ (w16.1 0 381).toInt ≤ 3008 from (om_a26ca01a96 zd i305L16 i326L16 i381L16 pdL16)) (show pr ps = ad 908 from hps) (show (w16.1 0 310) = ps from (Eq.trans (fwL16.2.1 310 (by decide)) es310)) (show (w16.1 0 381).toInt + (w16.1 0 326).toInt - 2 * (w16.1 0 305).toInt ≤ 6 from (om_39b89ceeec zd pdL16))) tw_565 tw_566 (by decide +kernel) rfl rfl ⟨show 1 + 1 ≤ 8 * n + 20 from om_d74c35fdfa, show 8 + (4 + 11) + 24 ≤ 28 * (8 * n + 20) from om_76e6510f9d⟩ (List.range (cW ad pr N cI cR L1 L2 w16).length) (rg_map _) (nd_range _) 2 rfl rfl rfl rfl hl.1 rfl (Nat.le_of_ble_eq_true rfl) dX2_expression_83 ⟨Nat.le_of_ble_eq_true rfl, Nat.le_of_ble_eq_true rfl⟩) hP hD hS hA (fun u10 H locs hw8 hP hD hS => ?_)
      obtain ⟨fr8, ex8, i3268, i3818, pd8, rs8⟩ := hw8
      have i3268 : 0 ≤ (u10.1 0 326).toInt ∧ (u10.1 0 326).toInt ≤ 420 := i3268
      have i3818 : 0 ≤ (u10.1 0 381).toInt ∧ (u10.1 0 381).toInt ≤ 3008 := i3818
      have pd8 : (u10.1 0 381).toInt + (u10.1 0 326).toInt - 2 * (u10.1 0 305).toInt + (0) ≤ (w16.1 0 381).toInt + (w16.1 0 326).toInt - 2 * (w16.1 0 305).toInt := pd8
      have rs8 : RS w16 u10 := rs8
      refine W.widen (k := 0) (n := 0) (Nat.le_refl _) (Nat.le_refl _) ?_
      refine lv_aload_n hx hb dX2_expression_86 rfl (lv_at hl 2 rfl) ?_
      refine va_get (D := (dC, dI)) (ci := 6) (fs := oF_X2 ad pr u10) (v := .ref (ad 900)) (C := RX2) (T := TX2) (N := 5) hx hb ht itX2 hown hK hP 2 rfl rfl 0 (by decide) (ht _ tw_509) (fun _ h9 => h9) rfl dX2_expression_87 ?_
      have q12 : (w16.1 0 304).toInt = (v.1 0 304).toInt := congrArg Int32.toInt ((fwL16.2.1 304 (by decide)).trans (show v.1 0 304 = (v.1 0 304) by rfl))
      have q13 : (u10.1 0 304).toInt = (w16.1 0 304).toInt := congrArg Int32.toInt ((fr8.2.1 304 (by decide)).trans (show w16.1 0 304 = (w16.1 0 304) by rfl))
      have q14 : (u10.1 0 305).toInt = (w16.1 0 305).toInt := congrArg Int32.toInt ((fr8.2.1 305 (by decide)).trans (show w16.1 0 305 = (w16.1 0 305) by rfl))
      refine cu_i (rn_Vk (n := 0) (As := []) (rest := []) hx hb hml hown ht hKK hFx hP hD hS hA (c_x_X9_kind l dC dI cI cB cZ cJ cR tb H.size ad pr N L1 L2 u10  (show 0 ≤ (u10.1 0 304).toInt ∧ (u10.1 0 304).toInt ≤ 1503 from (om_dd87ee851a z304 q12 q13)) (show 0 ≤ (u10.1 0 305).toInt ∧ (u10.1 0 305).toInt ≤ 1500 from (om_70fb568090 z305 i305L16 ptL16 q14))) tw_455 tw_532 (by decide +kernel) rfl rfl ⟨show 0 + 1 ≤ 8 * n + 20 from om_52416184a9, show 8 + (1 + 11) + 0 ≤ 28 * (8 * n + 20) from om_8bb6315d7c⟩ (List.range (cW ad pr N cI cR L1 L2 u10).length) (rg_map _) (nd_range _) 0 rfl rfl rfl rfl hl.1 rfl (Nat.le_of_ble_eq_true rfl) dX2_expression_90 ⟨Nat.le_of_ble_eq_true rfl, Nat.le_of_ble_eq_true rfl⟩) hP hD hS hA (fun r17 u16 H locs hw15 hP hD hS => ?_)
      obtain ⟨rfl, ex15⟩ := hw15
      refine W.widen (k := 0) (n := 0) (Nat.le_refl _) (Nat.le_refl _) ?_
      refine lv_bipush (v := 38) hx hb dX2_expression_93 (by decide) ?_
      refine lv_icmp_ne (tgt := 102) hx hb dX2_expression_95 (by decide) (fun h18 => ?_) (fun h18 => ?_)
      · have z19 : r17.toInt ≠ (38 : Int) := ne_z rfl (show (38 : Int32).toInt = (38 : Int) by decide) h18
        have q20 : (u10.1 0 306).toInt = (w16.1 0 306).toInt := congrArg Int32.toInt ((fr8.2.1 306 (by decide)).trans (show w16.1 0 306 = (w16.1 0 306) by rfl))
        have q21 : (u10.1 0 321).toInt = (w16.1 0 321).toInt := congrArg Int32.toInt ((fr8.2.1 321 (by decide)).trans (show w16.1 0 321 = (w16.1 0 321) by rfl))
        have q22 : (u10.1 0 317).toInt = (w16.1 0 317).toInt := congrArg Int32.toInt ((fr8.2.1 317 (by decide)).trans (show w16.1 0 317 = (w16.1 0 317) by rfl))
        refine W.sz (fun hz => ?_)
        refine vx_ret ?_
        refine W.widen (k := 1) (n := 6) (Nat.le_of_ble_eq_true rfl) (Nat.le_of_ble_eq_true rfl) ?_
        exact W.vret hx hb hr (fun t ht9 hW => ⟨⟨u10, rfl, ⟨(FC.tr (FC.tr (FC.rf _) (FC.up fwL16 (by decide) (by decide))) (FC.up fr8 (by decide) (by decide))), (by rw [QE_eq]; exact ⟨z304, z305, z306, z312, z321, z326, z373, z381, zd, zlb, (Or.inr (⟨r3, u2, ex1, ⟨fr1, i3051, i3061, i3211, i3261, i3811, pd1, pt1, plb1, po1, rs1⟩, (Or.inl ⟨z5, ka, w16, exL16, fwL16, i305L16, i306L16, i321L16, i326L16, i381L16, f1L16, rsL16, ptL16, plbL16, pdL16, poL16, (Or.inl ⟨z7, u10, ex8, ⟨fr8, i3268, i3818, pd8, rs8⟩, r17, ex15, (Or.inl ⟨z19, rfl, rfl⟩)⟩)⟩)⟩))⟩), (show 0 ≤ (u10.1 0 305).toInt ∧ (u10.1 0 305).toInt ≤ 1500 from (om_70fb568090 z305 i305L16 ptL16 q14)), (show 0 ≤ (u10.1 0 306).toInt ∧ (u10.1 0 306).toInt ≤ 40 from (om_99e115f631 i306L16 q20)), (show 0 ≤ (u10.1 0 321).toInt ∧ (u10.1 0 321).toInt ≤ 501 from (om_ff27494c0e i321L16 q21)), (show 0 ≤ (u10.1 0 326).toInt ∧ (u10.1 0 326).toInt ≤ 420 from (om_839d7ed7dd i3268)), (show 0 ≤ (u10.1 0 381).toInt ∧ (u10.1 0 381).toInt ≤ 3008 from (om_4920ca6ba3 zd i305L16 pdL16 q14 i3268 i3818 pd8)), (show (u10.1 0 381).toInt + (u10.1 0 326).toInt - 2 * (u10.1 0 305).toInt + (1) ≤ (v.1 0 381).toInt + (v.1 0 326).toInt - 2 * (v.1 0 305).toInt from (om_96b962eac8 pdL16 pd8)), (show (v.1 0 305).toInt + 1 ≤ (u10.1 0 305).toInt from (om_88ea34bd63 ptL16 q14)), (show (v.1 0 317).toInt ≤ (u10.1 0 317).toInt ∧ (u10.1 0 317).toInt - 4 * (u10.1 0 305).toInt ≤ (v.1 0 317).toInt - 4 * (v.1 0 305).toInt + 0 from (om_f10b8c612f plbL16 q14 q22)), (show (u10.1 0 306).toInt = (v.1 0 306).toInt from (om_4ae332b5e1 poL16 q20)), (RS.tr (RS.tr RS.rf rsL16) rs8)⟩, ⟨by rw [ht9]; exact hP, hD⟩, by rw [ht9]; exact hz⟩, hS.F ht9⟩) hS.2.2 dX2_expression_102
      · have z23 : r17.toInt = (38 : Int) := eq_z rfl (show (38 : Int32).toInt = (38 : Int) by decide) h18
        refine lv_aload_n hx hb dX2_expression_98 rfl (lv_at hl 2 rfl) ?_
        have q24 : (u10.1 0 306).toInt = (w16.1 0 306).toInt := congrArg Int32.toInt ((fr8.2.1 306 (by decide)).trans (show w16.1 0 306 = (w16.1 0 306) by rfl))
        have q25 : (w16.1 0 312).toInt = (v.1 0 312).toInt := congrArg Int32.toInt ((fwL16.2.1 312 (by decide)).trans (show v.1 0 312 = (v.1 0 312) by rfl))
        have q26 : (u10.1 0 312).toInt = (w16.1 0 312).toInt := congrArg Int32.toInt ((fr8.2.1 312 (by decide)).trans (show w16.1 0 312 = (w16.1 0 312) by rfl))
        have q27 : (u10.1 0 321).toInt = (w16.1 0 321).toInt := congrArg Int32.toInt ((fr8.2.1 321 (by decide)).trans (show w16.1 0 321 = (w16.1 0 321) by rfl))
        have q28 : (w16.1 0 373).toInt = (v.1 0 373).toInt := congrArg Int32.toInt ((fwL16.2.1 373 (by decide)).trans (show v.1 0 373 = (v.1 0 373) by rfl))
        have q29 : (u10.1 0 373).toInt = (w16.1 0 373).toInt := congrArg Int32.toInt ((fr8.2.1 373 (by decide)).trans (show w16.1 0 373 = (w16.1 0 373) by rfl))
        have q30 : (u10.1 0 317).toInt = (w16.1 0 317).toInt := congrArg Int32.toInt ((fr8.2.1 317 (by decide)).trans (show w16.1 0 317 = (w16.1 0 317) by rfl))
        refine W.sz (fun hz9 => ?_)
        refine czx_v (rx_Vk (n := 0) (As := []) (rest := []) hx hb hml hown ht hKK hFx hP hD hS hA (c_x_X2_choice l n ihE dC dI cI cB cZ cJ cR tb H.size ad pr N L1 L2 u10 ps (show 0 ≤ (u10.1 0 304).toInt ∧ (u10.1 0 304).toInt ≤ 1503 from (om_dd87ee851a z304 q12 q13)) (show 0 ≤ (u10.1 0 305).toInt ∧ (u10.1 0 305).toInt ≤ 1500 from (om_70fb568090 z305 i305L16 ptL16 q14)) (show 0 ≤ (u10.1 0 306).toInt ∧ (u10.1 0 306).toInt ≤ 40 from (om_99e115f631 i306L16 q24)) (show 0 ≤ (u10.1 0 312).toInt ∧ (u10.1 0 312).toInt ≤ 500 from (om_8a5975ec21 z312 q25 q26)) (show 0 ≤ (u10.1 0 321).toInt ∧ (u10.1 0 321).toInt ≤ 501 from (om_ff27494c0e i321L16 q27)) (show 0 ≤ (u10.1 0 326).toInt ∧ (u10.1 0 326).toInt ≤ 420 from (om_839d7ed7dd i3268)) (show 0 ≤ (u10.1 0 373).toInt ∧ (u10.1 0 373).toInt ≤ 4000 from (om_03cd8767ac z373 q28 q29)) (show 0 ≤ (u10.1 0 381).toInt ∧ (u10.1 0 381).toInt ≤ 3008 from (om_4920ca6ba3 zd i305L16 pdL16 q14 i3268 i3818 pd8)) (show L1.length = 40 from hL1) (show L2.length = 60 from hL2) (show RP u10 from ((show FC [305, 306, 307, 314, 315, 317, 321, 326, 381] [0, 316, 318, 319, 320, 324, 325, 378, 379, 380] v u10 from (FC.tr (FC.tr (FC.rf _) (FC.up fwL16 (by decide) (by decide))) (FC.up fr8 (by decide) (by decide)))).1 rp)) (show pr ps = ad 908 from hps) (show (u10.1 0 300) = ps from (Eq.trans (fr8.2.1 300 (by decide)) (Eq.trans (fwL16.2.1 300 (by decide)) es300))) (show (u10.1 0 310) = ps from (Eq.trans (fr8.2.1 310 (by decide)) (Eq.trans (fwL16.2.1 310 (by decide)) es310))) (show l.stackTraces = false from hst) (show (u10.1 0 381).toInt + (u10.1 0 326).toInt - 2 * (u10.1 0 305).toInt ≤ 1 from (om_4d9705ba2c zd pdL16 pd8)) (show 0 ≤ (u10.1 0 317).toInt ∧ (u10.1 0 317).toInt - 4 * (u10.1 0 305).toInt ≤ 8 from (om_17f2ed4448 zlb plbL16 q14 q30)) (show 40 ≤ (u10.1 0 306).toInt + (n : Int) from (om_9af853d7c7 zn poL16 q24))) tw_567 tw_568 (by decide +kernel) rfl rfl ⟨show (8 * n + 14) + 1 ≤ 8 * n + 20 from om_638aefdadf, show 8 + (3 + 11) + 28 * (8 * n + 14) ≤ 28 * (8 * n + 20) from om_1d4958472f⟩ (List.range (cW ad pr N cI cR L1 L2 u10).length) (rg_map _) (nd_range _) 2 rfl rfl rfl rfl hl.1 rfl (Nat.le_of_ble_eq_true rfl) dX2_expression_99 ⟨Nat.le_of_ble_eq_true rfl, Nat.le_of_ble_eq_true rfl⟩) hP hD hS hA (fun u9 ce9 q9 H locs hx9 hP hD hS hc9 hv9 hf9 => ?_) (fun u32 H locs hw31 hP hD hS hz8 => ?_)
        · exact vx_out (fun x h9 => (hnt x h9).elim) hlocks hc9 hv9 hf9 (fun t9 ht9 hv8 => ⟨u9, ⟨FC.tr (FC.tr (FC.tr (FC.rf _) (FC.up fwL16 (by decide) (by decide))) (FC.up fr8 (by decide) (by decide))) hx9.1, hx9.2.1, (by rw [QE_eq]; exact ⟨z304, z305, z306, z312, z321, z326, z373, z381, zd, zlb, (Or.inr (⟨r3, u2, ex1, ⟨fr1, i3051, i3061, i3211, i3261, i3811, pd1, pt1, plb1, po1, rs1⟩, (Or.inl ⟨z5, ka, w16, exL16, fwL16, i305L16, i306L16, i321L16, i326L16, i381L16, f1L16, rsL16, ptL16, plbL16, pdL16, poL16, (Or.inl ⟨z7, u10, ex8, ⟨fr8, i3268, i3818, pd8, rs8⟩, r17, ex15, (Or.inr (⟨z23, (Or.inl ⟨u9, hx9.2.2, rfl, rfl⟩)⟩))⟩)⟩)⟩))⟩)⟩, ⟨rfl, by rw [ht9]; exact hP, hD⟩, hS.F ht9⟩) hS.2.2 (Nat.le_refl _) (Nat.le_refl _)
        refine W.shrink (hz8.trans hz9) ?_
        obtain ⟨fr31, ex31, i30531, i30631, i32131, i32631, i38131, pd31, pt31, plb31, po31, rs31⟩ := hw31
        have i30531 : 0 ≤ (u32.1 0 305).toInt ∧ (u32.1 0 305).toInt ≤ 1500 := i30531
        have i30631 : 0 ≤ (u32.1 0 306).toInt ∧ (u32.1 0 306).toInt ≤ 40 := i30631
        have i32131 : 0 ≤ (u32.1 0 321).toInt ∧ (u32.1 0 321).toInt ≤ 501 := i32131
        have i32631 : 0 ≤ (u32.1 0 326).toInt ∧ (u32.1 0 326).toInt ≤ 420 := i32631
        have i38131 : 0 ≤ (u32.1 0 381).toInt ∧ (u32.1 0 381).toInt ≤ 3008 := i38131
        have pd31 : (u32.1 0 381).toInt + (u32.1 0 326).toInt - 2 * (u32.1 0 305).toInt + (4) ≤ (u10.1 0 381).toInt + (u10.1 0 326).toInt - 2 * (u10.1 0 305).toInt := pd31
        have pt31 : (u10.1 0 305).toInt + 4 ≤ (u32.1 0 305).toInt := pt31
        have plb31 : (u10.1 0 317).toInt ≤ (u32.1 0 317).toInt ∧ (u32.1 0 317).toInt - 4 * (u32.1 0 305).toInt ≤ (u10.1 0 317).toInt - 4 * (u10.1 0 305).toInt + 0 := plb31
        have po31 : (u32.1 0 306).toInt = (u10.1 0 306).toInt := po31
        have rs31 : RS u10 u32 := rs31
        refine W.sz (fun hz => ?_)
        refine vx_ret ?_
        refine W.widen (k := 1) (n := 6) (Nat.le_of_ble_eq_true rfl) (Nat.le_of_ble_eq_true rfl) ?_
        exact W.vret hx hb hr (fun t ht9 hW => ⟨⟨u32, rfl, ⟨(FC.tr (FC.tr (FC.tr (FC.rf _) (FC.up fwL16 (by decide) (by decide))) (FC.up fr8 (by decide) (by decide))) (FC.up fr31 (by decide) (by decide))), (by rw [QE_eq]; exact ⟨z304, z305, z306, z312, z321, z326, z373, z381, zd, zlb, (Or.inr (⟨r3, u2, ex1, ⟨fr1, i3051, i3061, i3211, i3261, i3811, pd1, pt1, plb1, po1, rs1⟩, (Or.inl ⟨z5, ka, w16, exL16, fwL16, i305L16, i306L16, i321L16, i326L16, i381L16, f1L16, rsL16, ptL16, plbL16, pdL16, poL16, (Or.inl ⟨z7, u10, ex8, ⟨fr8, i3268, i3818, pd8, rs8⟩, r17, ex15, (Or.inr (⟨z23, (Or.inr (⟨u32, ex31, ⟨fr31, i30531, i30631, i32131, i32631, i38131, pd31, pt31, plb31, po31, rs31⟩, rfl, rfl⟩))⟩))⟩)⟩)⟩))⟩), (show 0 ≤ (u32.1 0 305).toInt ∧ (u32.1 0 305).toInt ≤ 1500 from (om_b51424184e i305L16 q14 i30531 pt31)), (show 0 ≤ (u32.1 0 306).toInt ∧ (u32.1 0 306).toInt ≤ 40 from (om_7eaf33e007 i30631)), (show 0 ≤ (u32.1 0 321).toInt ∧ (u32.1 0 321).toInt ≤ 501 from (om_e1d35f5faf i32131)), (show 0 ≤ (u32.1 0 326).toInt ∧ (u32.1 0 326).toInt ≤ 420 from (om_839d7ed7dd i32631)), (show 0 ≤ (u32.1 0 381).toInt ∧ (u32.1 0 381).toInt ≤ 3008 from (om_fde5c82059 zd pdL16 pd8 i30531 i32631 i38131 pd31)), (show (u32.1 0 381).toInt + (u32.1 0 326).toInt - 2 * (u32.1 0 305).toInt + (1) ≤ (v.1 0 381).toInt + (v.1 0 326).toInt - 2 * (v.1 0 305).toInt from (om_a87880eb1f pdL16 pd8 pd31)), (show (v.1 0 305).toInt + 1 ≤ (u32.1 0 305).toInt from (om_cdf8f2bbd8 ptL16 q14 pt31)), (show (v.1 0 317).toInt ≤ (u32.1 0 317).toInt ∧ (u32.1 0 317).toInt - 4 * (u32.1 0 305).toInt ≤ (v.1 0 317).toInt - 4 * (v.1 0 305).toInt + 0 from (om_c2be7cd881 plbL16 q14 q30 plb31)), (show (u32.1 0 306).toInt = (v.1 0 306).toInt from (om_5fe66bf18b poL16 q24 po31)), (RS.tr (RS.tr (RS.tr RS.rf rsL16) rs8) rs31)⟩, ⟨by rw [ht9]; exact hP, hD⟩, by rw [ht9]; exact hz⟩, hS.F ht9⟩) hS.2.2 dX2_expression_102
    · have z34 : ka.toInt < (1500 : Int) := nle_z (show (1500 : Int32).toInt = (1500 : Int) by decide) rfl h6
      refine lv_aload_n hx hb dX2_expression_23 rfl (lv_at hl 2 rfl) ?_
      refine va_get (D := (dC, dI)) (ci := 6) (fs := oF_X2 ad pr w16) (v := .ref (ad 900)) (C := RX2) (T := TX2) (N := 5) hx hb ht itX2 hown hK hP 2 rfl rfl 0 (by decide) (ht _ tw_509) (fun _ h9 => h9) rfl dX2_expression_24 ?_
      have q35 : (w16.1 0 304).toInt = (v.1 0 304).toInt := congrArg Int32.toInt ((fwL16.2.1 304 (by decide)).trans (show v.1 0 304 = (v.1 0 304) by rfl))
      refine cu_i (rn_Vk (n := 0) (As := []) (rest := []) hx hb hml hown ht hKK hFx hP hD hS hA (c_x_X9_kind l dC dI cI cB cZ cJ cR tb H.size ad pr N L1 L2 w16  (show 0 ≤ (w16.1 0 304).toInt ∧ (w16.1 0 304).toInt ≤ 1503 from (om_73002589c1 z304 q35)) (show 0 ≤ (w16.1 0 305).toInt ∧ (w16.1 0 305).toInt ≤ 1500 from (om_c55c38ddc1 z305 i305L16 ptL16))) tw_455 tw_532 (by decide +kernel) rfl rfl ⟨show 0 + 1 ≤ 8 * n + 20 from om_52416184a9, show 8 + (1 + 11) + 0 ≤ 28 * (8 * n + 20) from om_8bb6315d7c⟩ (List.range (cW ad pr N cI cR L1 L2 w16).length) (rg_map _) (nd_range _) 0 rfl rfl rfl rfl hl.1 rfl (Nat.le_of_ble_eq_true rfl) dX2_expression_27 ⟨Nat.le_of_ble_eq_true rfl, Nat.le_of_ble_eq_true rfl⟩) hP hD hS hA (fun r38 u37 H locs hw36 hP hD hS => ?_)
      obtain ⟨rfl, ex36⟩ := hw36
      refine W.widen (k := 0) (n := 0) (Nat.le_refl _) (Nat.le_refl _) ?_
      refine cu_s (nd_range _) (rn_S (n := 1) (As := [.int r38]) (rest := []) hx hb hml hown ht hKK hFx hP hD hS hA (c_x_X9_strength l dC dI cI cB cZ cJ cR tb H.size r38 ) tw_512 tw_513 (by decide +kernel) rfl rfl ⟨show 0 + 1 ≤ 8 * n + 20 from om_52416184a9, show 8 + (2 + 11) + 0 ≤ 28 * (8 * n + 20) from om_a7220f1dc9⟩ [] rfl rfl rfl hl.1 rfl (Nat.le_of_ble_eq_true rfl) dX2_expression_30 ⟨Nat.le_of_ble_eq_true rfl, Nat.le_of_ble_eq_true rfl⟩) hP hD hS hA (fun r41 H locs hw39 hP hD hS => ?_)
      obtain ⟨ex39, c39⟩ := hw39
      have c39 : (0 ≤ r41.toInt ∧ r41.toInt ≤ 40) := c39
      refine W.widen (k := 0) (n := 0) (Nat.le_refl _) (Nat.le_refl _) ?_
      refine lv_if_le (tgt := 80) hx hb dX2_expression_33 (by decide) (fun h42 => ?_) (fun h42 => ?_)
      · have z43 : r41.toInt ≤ (0 : Int) := le_z rfl (show (0 : Int32).toInt = (0 : Int) by decide) h42
        refine lv_aload_n hx hb dX2_expression_80 rfl (lv_at hl 2 rfl) ?_
        refine lv_iload_n hx hb dX2_expression_81 rfl (lv_at hl 1 rfl) ?_
        refine lv_iconst (v := 0) hx hb dX2_expression_82 (by decide) ?_
        refine cu_v (rn_Vk (n := 2) (As := [.int (v.1 0 326), .int 0]) (rest := []) hx hb hml hown ht hKK hFx hP hD hS hA (c_x_X2_finishSigns l dC dI cI cB cZ cJ cR tb H.size ad pr N L1 L2 w16 (v.1 0 326) (0 : Int32) ps (show 0 ≤ (w16.1 0 305).toInt ∧ (w16.1 0 305).toInt ≤ 1500 from (om_c55c38ddc1 z305 i305L16 ptL16)) (show 0 ≤ (w16.1 0 326).toInt ∧ (w16.1 0 326).toInt ≤ 420 from (om_839d7ed7dd i326L16)) (show 0 ≤ (w16.1 0 381).toInt ∧ (w16.1 0 381).toInt ≤ 3008 from (om_a26ca01a96 zd i305L16 i326L16 i381L16 pdL16)) (show pr ps = ad 908 from hps) (show (w16.1 0 310) = ps from (Eq.trans (fwL16.2.1 310 (by decide)) es310)) (show (w16.1 0 381).toInt + (w16.1 0 326).toInt - 2 * (w16.1 0 305).toInt ≤ 6 from (om_39b89ceeec zd pdL16))) tw_565 tw_566 (by decide +kernel) rfl rfl ⟨show 1 + 1 ≤ 8 * n + 20 from om_d74c35fdfa, show 8 + (4 + 11) + 24 ≤ 28 * (8 * n + 20) from om_76e6510f9d⟩ (List.range (cW ad pr N cI cR L1 L2 w16).length) (rg_map _) (nd_range _) 2 rfl rfl rfl rfl hl.1 rfl (Nat.le_of_ble_eq_true rfl) dX2_expression_83 ⟨Nat.le_of_ble_eq_true rfl, Nat.le_of_ble_eq_true rfl⟩) hP hD hS hA (fun u45 H locs hw44 hP hD hS => ?_)
        obtain ⟨fr44, ex44, i32644, i38144, pd44, rs44⟩ := hw44
        have i32644 : 0 ≤ (u45.1 0 326).toInt ∧ (u45.1 0 326).toInt ≤ 420 := i32644
        have i38144 : 0 ≤ (u45.1 0 381).toInt ∧ (u45.1 0 381).toInt ≤ 3008 := i38144
        have pd44 : (u45.1 0 381).toInt + (u45.1 0 326).toInt - 2 * (u45.1 0 305).toInt + (0) ≤ (w16.1 0 381).toInt + (w16.1 0 326).toInt - 2 * (w16.1 0 305).toInt := pd44
        have rs44 : RS w16 u45 := rs44
        refine W.widen (k := 0) (n := 0) (Nat.le_refl _) (Nat.le_refl _) ?_
        refine lv_aload_n hx hb dX2_expression_86 rfl (lv_at hl 2 rfl) ?_
        refine va_get (D := (dC, dI)) (ci := 6) (fs := oF_X2 ad pr u45) (v := .ref (ad 900)) (C := RX2) (T := TX2) (N := 5) hx hb ht itX2 hown hK hP 2 rfl rfl 0 (by decide) (ht _ tw_509) (fun _ h9 => h9) rfl dX2_expression_87 ?_
        have q47 : (u45.1 0 304).toInt = (w16.1 0 304).toInt := congrArg Int32.toInt ((fr44.2.1 304 (by decide)).trans (show w16.1 0 304 = (w16.1 0 304) by rfl))
        have q48 : (u45.1 0 305).toInt = (w16.1 0 305).toInt := congrArg Int32.toInt ((fr44.2.1 305 (by decide)).trans (show w16.1 0 305 = (w16.1 0 305) by rfl))
        refine cu_i (rn_Vk (n := 0) (As := []) (rest := []) hx hb hml hown ht hKK hFx hP hD hS hA (c_x_X9_kind l dC dI cI cB cZ cJ cR tb H.size ad pr N L1 L2 u45  (show 0 ≤ (u45.1 0 304).toInt ∧ (u45.1 0 304).toInt ≤ 1503 from (om_dd87ee851a z304 q35 q47)) (show 0 ≤ (u45.1 0 305).toInt ∧ (u45.1 0 305).toInt ≤ 1500 from (om_70fb568090 z305 i305L16 ptL16 q48))) tw_455 tw_532 (by decide +kernel) rfl rfl ⟨show 0 + 1 ≤ 8 * n + 20 from om_52416184a9, show 8 + (1 + 11) + 0 ≤ 28 * (8 * n + 20) from om_8bb6315d7c⟩ (List.range (cW ad pr N cI cR L1 L2 u45).length) (rg_map _) (nd_range _) 0 rfl rfl rfl rfl hl.1 rfl (Nat.le_of_ble_eq_true rfl) dX2_expression_90 ⟨Nat.le_of_ble_eq_true rfl, Nat.le_of_ble_eq_true rfl⟩) hP hD hS hA (fun r51 u50 H locs hw49 hP hD hS => ?_)
        obtain ⟨rfl, ex49⟩ := hw49
        refine W.widen (k := 0) (n := 0) (Nat.le_refl _) (Nat.le_refl _) ?_
        refine lv_bipush (v := 38) hx hb dX2_expression_93 (by decide) ?_
        refine lv_icmp_ne (tgt := 102) hx hb dX2_expression_95 (by decide) (fun h52 => ?_) (fun h52 => ?_)
        · have z53 : r51.toInt ≠ (38 : Int) := ne_z rfl (show (38 : Int32).toInt = (38 : Int) by decide) h52
          have q54 : (u45.1 0 306).toInt = (w16.1 0 306).toInt := congrArg Int32.toInt ((fr44.2.1 306 (by decide)).trans (show w16.1 0 306 = (w16.1 0 306) by rfl))
          have q55 : (u45.1 0 321).toInt = (w16.1 0 321).toInt := congrArg Int32.toInt ((fr44.2.1 321 (by decide)).trans (show w16.1 0 321 = (w16.1 0 321) by rfl))
          have q56 : (u45.1 0 317).toInt = (w16.1 0 317).toInt := congrArg Int32.toInt ((fr44.2.1 317 (by decide)).trans (show w16.1 0 317 = (w16.1 0 317) by rfl))
          refine W.sz (fun hz => ?_)
          refine vx_ret ?_
          refine W.widen (k := 1) (n := 6) (Nat.le_of_ble_eq_true rfl) (Nat.le_of_ble_eq_true rfl) ?_
          exact W.vret hx hb hr (fun t ht9 hW => ⟨⟨u45, rfl, ⟨(FC.tr (FC.tr (FC.rf _) (FC.up fwL16 (by decide) (by decide))) (FC.up fr44 (by decide) (by decide))), (by rw [QE_eq]; exact ⟨z304, z305, z306, z312, z321, z326, z373, z381, zd, zlb, (Or.inr (⟨r3, u2, ex1, ⟨fr1, i3051, i3061, i3211, i3261, i3811, pd1, pt1, plb1, po1, rs1⟩, (Or.inl ⟨z5, ka, w16, exL16, fwL16, i305L16, i306L16, i321L16, i326L16, i381L16, f1L16, rsL16, ptL16, plbL16, pdL16, poL16, (Or.inr (⟨z34, r38, ex36, r41, ex39, c39, (Or.inl ⟨z43, u45, ex44, ⟨fr44, i32644, i38144, pd44, rs44⟩, r51, ex49, (Or.inl ⟨z53, rfl, rfl⟩)⟩)⟩))⟩)⟩))⟩), (show 0 ≤ (u45.1 0 305).toInt ∧ (u45.1 0 305).toInt ≤ 1500 from (om_70fb568090 z305 i305L16 ptL16 q48)), (show 0 ≤ (u45.1 0 306).toInt ∧ (u45.1 0 306).toInt ≤ 40 from (om_99e115f631 i306L16 q54)), (show 0 ≤ (u45.1 0 321).toInt ∧ (u45.1 0 321).toInt ≤ 501 from (om_ff27494c0e i321L16 q55)), (show 0 ≤ (u45.1 0 326).toInt ∧ (u45.1 0 326).toInt ≤ 420 from (om_839d7ed7dd i32644)), (show 0 ≤ (u45.1 0 381).toInt ∧ (u45.1 0 381).toInt ≤ 3008 from (om_4920ca6ba3 zd i305L16 pdL16 q48 i32644 i38144 pd44)), (show (u45.1 0 381).toInt + (u45.1 0 326).toInt - 2 * (u45.1 0 305).toInt + (1) ≤ (v.1 0 381).toInt + (v.1 0 326).toInt - 2 * (v.1 0 305).toInt from (om_96b962eac8 pdL16 pd44)), (show (v.1 0 305).toInt + 1 ≤ (u45.1 0 305).toInt from (om_88ea34bd63 ptL16 q48)), (show (v.1 0 317).toInt ≤ (u45.1 0 317).toInt ∧ (u45.1 0 317).toInt - 4 * (u45.1 0 305).toInt ≤ (v.1 0 317).toInt - 4 * (v.1 0 305).toInt + 0 from (om_f10b8c612f plbL16 q48 q56)), (show (u45.1 0 306).toInt = (v.1 0 306).toInt from (om_4ae332b5e1 poL16 q54)), (RS.tr (RS.tr RS.rf rsL16) rs44)⟩, ⟨by rw [ht9]; exact hP, hD⟩, by rw [ht9]; exact hz⟩, hS.F ht9⟩) hS.2.2 dX2_expression_102
        · have z57 : r51.toInt = (38 : Int) := eq_z rfl (show (38 : Int32).toInt = (38 : Int) by decide) h52
          refine lv_aload_n hx hb dX2_expression_98 rfl (lv_at hl 2 rfl) ?_
          have q58 : (u45.1 0 306).toInt = (w16.1 0 306).toInt := congrArg Int32.toInt ((fr44.2.1 306 (by decide)).trans (show w16.1 0 306 = (w16.1 0 306) by rfl))
          have q59 : (w16.1 0 312).toInt = (v.1 0 312).toInt := congrArg Int32.toInt ((fwL16.2.1 312 (by decide)).trans (show v.1 0 312 = (v.1 0 312) by rfl))
          have q60 : (u45.1 0 312).toInt = (w16.1 0 312).toInt := congrArg Int32.toInt ((fr44.2.1 312 (by decide)).trans (show w16.1 0 312 = (w16.1 0 312) by rfl))
          have q61 : (u45.1 0 321).toInt = (w16.1 0 321).toInt := congrArg Int32.toInt ((fr44.2.1 321 (by decide)).trans (show w16.1 0 321 = (w16.1 0 321) by rfl))
          have q62 : (w16.1 0 373).toInt = (v.1 0 373).toInt := congrArg Int32.toInt ((fwL16.2.1 373 (by decide)).trans (show v.1 0 373 = (v.1 0 373) by rfl))
          have q63 : (u45.1 0 373).toInt = (w16.1 0 373).toInt := congrArg Int32.toInt ((fr44.2.1 373 (by decide)).trans (show w16.1 0 373 = (w16.1 0 373) by rfl))
          have q64 : (u45.1 0 317).toInt = (w16.1 0 317).toInt := congrArg Int32.toInt ((fr44.2.1 317 (by decide)).trans (show w16.1 0 317 = (w16.1 0 317) by rfl))
          refine W.sz (fun hz9 => ?_)
          refine czx_v (rx_Vk (n := 0) (As := []) (rest := []) hx hb hml hown ht hKK hFx hP hD hS hA (c_x_X2_choice l n ihE dC dI cI cB cZ cJ cR tb H.size ad pr N L1 L2 u45 ps (show 0 ≤ (u45.1 0 304).toInt ∧ (u45.1 0 304).toInt ≤ 1503 from (om_dd87ee851a z304 q35 q47)) (show 0 ≤ (u45.1 0 305).toInt ∧ (u45.1 0 305).toInt ≤ 1500 from (om_70fb568090 z305 i305L16 ptL16 q48)) (show 0 ≤ (u45.1 0 306).toInt ∧ (u45.1 0 306).toInt ≤ 40 from (om_99e115f631 i306L16 q58)) (show 0 ≤ (u45.1 0 312).toInt ∧ (u45.1 0 312).toInt ≤ 500 from (om_8a5975ec21 z312 q59 q60)) (show 0 ≤ (u45.1 0 321).toInt ∧ (u45.1 0 321).toInt ≤ 501 from (om_ff27494c0e i321L16 q61)) (show 0 ≤ (u45.1 0 326).toInt ∧ (u45.1 0 326).toInt ≤ 420 from (om_839d7ed7dd i32644)) (show 0 ≤ (u45.1 0 373).toInt ∧ (u45.1 0 373).toInt ≤ 4000 from (om_03cd8767ac z373 q62 q63)) (show 0 ≤ (u45.1 0 381).toInt ∧ (u45.1 0 381).toInt ≤ 3008 from (om_4920ca6ba3 zd i305L16 pdL16 q48 i32644 i38144 pd44)) (show L1.length = 40 from hL1) (show L2.length = 60 from hL2) (show RP u45 from ((show FC [305, 306, 307, 314, 315, 317, 321, 326, 381] [0, 316, 318, 319, 320, 324, 325, 378, 379, 380] v u45 from (FC.tr (FC.tr (FC.rf _) (FC.up fwL16 (by decide) (by decide))) (FC.up fr44 (by decide) (by decide)))).1 rp)) (show pr ps = ad 908 from hps) (show (u45.1 0 300) = ps from (Eq.trans (fr44.2.1 300 (by decide)) (Eq.trans (fwL16.2.1 300 (by decide)) es300))) (show (u45.1 0 310) = ps from (Eq.trans (fr44.2.1 310 (by decide)) (Eq.trans (fwL16.2.1 310 (by decide)) es310))) (show l.stackTraces = false from hst) (show (u45.1 0 381).toInt + (u45.1 0 326).toInt - 2 * (u45.1 0 305).toInt ≤ 1 from (om_4d9705ba2c zd pdL16 pd44)) (show 0 ≤ (u45.1 0 317).toInt ∧ (u45.1 0 317).toInt - 4 * (u45.1 0 305).toInt ≤ 8 from (om_17f2ed4448 zlb plbL16 q48 q64)) (show 40 ≤ (u45.1 0 306).toInt + (n : Int) from (om_9af853d7c7 zn poL16 q58))) tw_567 tw_568 (by decide +kernel) rfl rfl ⟨show (8 * n + 14) + 1 ≤ 8 * n + 20 from om_638aefdadf, show 8 + (3 + 11) + 28 * (8 * n + 14) ≤ 28 * (8 * n + 20) from om_1d4958472f⟩ (List.range (cW ad pr N cI cR L1 L2 u45).length) (rg_map _) (nd_range _) 2 rfl rfl rfl rfl hl.1 rfl (Nat.le_of_ble_eq_true rfl) dX2_expression_99 ⟨Nat.le_of_ble_eq_true rfl, Nat.le_of_ble_eq_true rfl⟩) hP hD hS hA (fun u9 ce9 q9 H locs hx9 hP hD hS hc9 hv9 hf9 => ?_) (fun u66 H locs hw65 hP hD hS hz8 => ?_)
          · exact vx_out (fun x h9 => (hnt x h9).elim) hlocks hc9 hv9 hf9 (fun t9 ht9 hv8 => ⟨u9, ⟨FC.tr (FC.tr (FC.tr (FC.rf _) (FC.up fwL16 (by decide) (by decide))) (FC.up fr44 (by decide) (by decide))) hx9.1, hx9.2.1, (by rw [QE_eq]; exact ⟨z304, z305, z306, z312, z321, z326, z373, z381, zd, zlb, (Or.inr (⟨r3, u2, ex1, ⟨fr1, i3051, i3061, i3211, i3261, i3811, pd1, pt1, plb1, po1, rs1⟩, (Or.inl ⟨z5, ka, w16, exL16, fwL16, i305L16, i306L16, i321L16, i326L16, i381L16, f1L16, rsL16, ptL16, plbL16, pdL16, poL16, (Or.inr (⟨z34, r38, ex36, r41, ex39, c39, (Or.inl ⟨z43, u45, ex44, ⟨fr44, i32644, i38144, pd44, rs44⟩, r51, ex49, (Or.inr (⟨z57, (Or.inl ⟨u9, hx9.2.2, rfl, rfl⟩)⟩))⟩)⟩))⟩)⟩))⟩)⟩, ⟨rfl, by rw [ht9]; exact hP, hD⟩, hS.F ht9⟩) hS.2.2 (Nat.le_refl _) (Nat.le_refl _)
          refine W.shrink (hz8.trans hz9) ?_
          obtain ⟨fr65, ex65, i30565, i30665, i32165, i32665, i38165, pd65, pt65, plb65, po65, rs65⟩ := hw65
          have i30565 : 0 ≤ (u66.1 0 305).toInt ∧ (u66.1 0 305).toInt ≤ 1500 := i30565
          have i30665 : 0 ≤ (u66.1 0 306).toInt ∧ (u66.1 0 306).toInt ≤ 40 := i30665
          have i32165 : 0 ≤ (u66.1 0 321).toInt ∧ (u66.1 0 321).toInt ≤ 501 := i32165
          have i32665 : 0 ≤ (u66.1 0 326).toInt ∧ (u66.1 0 326).toInt ≤ 420 := i32665
          have i38165 : 0 ≤ (u66.1 0 381).toInt ∧ (u66.1 0 381).toInt ≤ 3008 := i38165
          have pd65 : (u66.1 0 381).toInt + (u66.1 0 326).toInt - 2 * (u66.1 0 305).toInt + (4) ≤ (u45.1 0 381).toInt + (u45.1 0 326).toInt - 2 * (u45.1 0 305).toInt := pd65
          have pt65 : (u45.1 0 305).toInt + 4 ≤ (u66.1 0 305).toInt := pt65
          have plb65 : (u45.1 0 317).toInt ≤ (u66.1 0 317).toInt ∧ (u66.1 0 317).toInt - 4 * (u66.1 0 305).toInt ≤ (u45.1 0 317).toInt - 4 * (u45.1 0 305).toInt + 0 := plb65
          have po65 : (u66.1 0 306).toInt = (u45.1 0 306).toInt := po65
          have rs65 : RS u45 u66 := rs65
          refine W.sz (fun hz => ?_)
          refine vx_ret ?_
          refine W.widen (k := 1) (n := 6) (Nat.le_of_ble_eq_true rfl) (Nat.le_of_ble_eq_true rfl) ?_
          exact W.vret hx hb hr (fun t ht9 hW => ⟨⟨u66, rfl, ⟨(FC.tr (FC.tr (FC.tr (FC.rf _) (FC.up fwL16 (by decide) (by decide))) (FC.up fr44 (by decide) (by decide))) (FC.up fr65 (by decide) (by decide))), (by rw [QE_eq]; exact ⟨z304, z305, z306, z312, z321, z326, z373, z381, zd, zlb, (Or.inr (⟨r3, u2, ex1, ⟨fr1, i3051, i3061, i3211, i3261, i3811, pd1, pt1, plb1, po1, rs1⟩, (Or.inl ⟨z5, ka, w16, exL16, fwL16, i305L16, i306L16, i321L16, i326L16, i381L16, f1L16, rsL16, ptL16, plbL16, pdL16, poL16, (Or.inr (⟨z34, r38, ex36, r41, ex39, c39, (Or.inl ⟨z43, u45, ex44, ⟨fr44, i32644, i38144, pd44, rs44⟩, r51, ex49, (Or.inr (⟨z57, (Or.inr (⟨u66, ex65, ⟨fr65, i30565, i30665, i32165, i32665, i38165, pd65, pt65, plb65, po65, rs65⟩, rfl, rfl⟩))⟩))⟩)⟩))⟩)⟩))⟩), (show 0 ≤ (u66.1 0 305).toInt ∧ (u66.1 0 305).toInt ≤ 1500 from (om_b51424184e i305L16 q48 i30565 pt65)), (show 0 ≤ (u66.1 0 306).toInt ∧ (u66.1 0 306).toInt ≤ 40 from (om_7eaf33e007 i30665)), (show 0 ≤ (u66.1 0 321).toInt ∧ (u66.1 0 321).toInt ≤ 501 from (om_e1d35f5faf i32165)), (show 0 ≤ (u66.1 0 326).toInt ∧ (u66.1 0 326).toInt ≤ 420 from (om_839d7ed7dd i32665)), (show 0 ≤ (u66.1 0 381).toInt ∧ (u66.1 0 381).toInt ≤ 3008 from (om_fde5c82059 zd pdL16 pd44 i30565 i32665 i38165 pd65)), (show (u66.1 0 381).toInt + (u66.1 0 326).toInt - 2 * (u66.1 0 305).toInt + (1) ≤ (v.1 0 381).toInt + (v.1 0 326).toInt - 2 * (v.1 0 305).toInt from (om_a87880eb1f pdL16 pd44 pd65)), (show (v.1 0 305).toInt + 1 ≤ (u66.1 0 305).toInt from (om_cdf8f2bbd8 ptL16 q48 pt65)), (show (v.1 0 317).toInt ≤ (u66.1 0 317).toInt ∧ (u66.1 0 317).toInt - 4 * (u66.1 0 305).toInt ≤ (v.1 0 317).toInt - 4 * (v.1 0 305).toInt + 0 from (om_c2be7cd881 plbL16 q48 q64 plb65)), (show (u66.1 0 306).toInt = (v.1 0 306).toInt from (om_5fe66bf18b poL16 q58 po65)), (RS.tr (RS.tr (RS.tr RS.rf rsL16) rs44) rs65)⟩, ⟨by rw [ht9]; exact hP, hD⟩, by rw [ht9]; exact hz⟩, hS.F ht9⟩) hS.2.2 dX2_expression_102
      · have z68 : (0 : Int) < r41.toInt := nle_z rfl (show (0 : Int32).toInt = (0 : Int) by decide) h42
        refine lv_aload_n hx hb dX2_expression_36 rfl (lv_at hl 2 rfl) ?_
        refine va_get (D := (dC, dI)) (ci := 6) (fs := oF_X2 ad pr w16) (v := .ref (ad 900)) (C := RX2) (T := TX2) (N := 5) hx hb ht itX2 hown hK hP 2 rfl rfl 0 (by decide) (ht _ tw_509) (fun _ h9 => h9) rfl dX2_expression_37 ?_
        refine cu_i (rn_Vk (n := 0) (As := []) (rest := []) hx hb hml hown ht hKK hFx hP hD hS hA (c_x_X9_kind l dC dI cI cB cZ cJ cR tb H.size ad pr N L1 L2 w16  (show 0 ≤ (w16.1 0 304).toInt ∧ (w16.1 0 304).toInt ≤ 1503 from (om_73002589c1 z304 q35)) (show 0 ≤ (w16.1 0 305).toInt ∧ (w16.1 0 305).toInt ≤ 1500 from (om_c55c38ddc1 z305 i305L16 ptL16))) tw_455 tw_532 (by decide +kernel) rfl rfl ⟨show 0 + 1 ≤ 8 * n + 20 from om_52416184a9, show 8 + (1 + 11) + 0 ≤ 28 * (8 * n + 20) from om_8bb6315d7c⟩ (List.range (cW ad pr N cI cR L1 L2 w16).length) (rg_map _) (nd_range _) 0 rfl rfl rfl rfl hl.1 rfl (Nat.le_of_ble_eq_true rfl) dX2_expression_40 ⟨Nat.le_of_ble_eq_true rfl, Nat.le_of_ble_eq_true rfl⟩) hP hD hS hA (fun r71 u70 H locs hw69 hP hD hS => ?_)
        obtain ⟨rfl, ex69⟩ := hw69
        refine W.widen (k := 0) (n := 0) (Nat.le_refl _) (Nat.le_refl _) ?_
        refine lv_istore (lv' := [(4, .int r71), (3, .int ka), (2, .int (v.1 0 326)), (0, .ref (ad 902)), (1, .int pa)]) hx hb dX2_expression_43 hl (by decide) rfl (fun ls hl => ?_)
        refine lv_aload_n hx hb dX2_expression_45 rfl (lv_at hl 3 rfl) ?_
        refine lv_iload_n hx hb dX2_expression_46 rfl (lv_at hl 2 rfl) ?_
        refine lv_iload hx hb dX2_expression_47 (lv_at hl 0 rfl) ?_
        refine cu_s (nd_range _) (rn_S (n := 1) (As := [.int r71]) (rest := [.int (v.1 0 326), .ref (ad 902)]) hx hb hml hown ht hKK hFx hP hD hS hA (c_x_X9_strength l dC dI cI cB cZ cJ cR tb H.size r71 ) tw_512 tw_513 (by decide +kernel) rfl rfl ⟨show 0 + 1 ≤ 8 * n + 20 from om_52416184a9, show 8 + (2 + 11) + 0 ≤ 28 * (8 * n + 20) from om_a7220f1dc9⟩ [] rfl rfl rfl hl.1 rfl (Nat.le_of_ble_eq_true rfl) dX2_expression_49 ⟨Nat.le_of_ble_eq_true rfl, Nat.le_of_ble_eq_true rfl⟩) hP hD hS hA (fun r74 H locs hw72 hP hD hS => ?_)
        obtain ⟨ex72, c72⟩ := hw72
        have c72 : (0 ≤ r74.toInt ∧ r74.toInt ≤ 40) := c72
        refine W.widen (k := 0) (n := 0) (Nat.le_refl _) (Nat.le_refl _) ?_
        refine cu_v (rn_Vk (n := 2) (As := [.int (v.1 0 326), .int r74]) (rest := []) hx hb hml hown ht hKK hFx hP hD hS hA (c_x_X2_finishSigns l dC dI cI cB cZ cJ cR tb H.size ad pr N L1 L2 w16 (v.1 0 326) r74 ps (show 0 ≤ (w16.1 0 305).toInt ∧ (w16.1 0 305).toInt ≤ 1500 from (om_c55c38ddc1 z305 i305L16 ptL16)) (show 0 ≤ (w16.1 0 326).toInt ∧ (w16.1 0 326).toInt ≤ 420 from (om_839d7ed7dd i326L16)) (show 0 ≤ (w16.1 0 381).toInt ∧ (w16.1 0 381).toInt ≤ 3008 from (om_a26ca01a96 zd i305L16 i326L16 i381L16 pdL16)) (show pr ps = ad 908 from hps) (show (w16.1 0 310) = ps from (Eq.trans (fwL16.2.1 310 (by decide)) es310)) (show (w16.1 0 381).toInt + (w16.1 0 326).toInt - 2 * (w16.1 0 305).toInt ≤ 6 from (om_39b89ceeec zd pdL16))) tw_565 tw_566 (by decide +kernel) rfl rfl ⟨show 1 + 1 ≤ 8 * n + 20 from om_d74c35fdfa, show 8 + (4 + 11) + 24 ≤ 28 * (8 * n + 20) from om_76e6510f9d⟩ (List.range (cW ad pr N cI cR L1 L2 w16).length) (rg_map _) (nd_range _) 2 rfl rfl rfl rfl hl.1 rfl (Nat.le_of_ble_eq_true rfl) dX2_expression_52 ⟨Nat.le_of_ble_eq_true rfl, Nat.le_of_ble_eq_true rfl⟩) hP hD hS hA (fun u76 H locs hw75 hP hD hS => ?_)
        obtain ⟨fr75, ex75, i32675, i38175, pd75, rs75⟩ := hw75
        have i32675 : 0 ≤ (u76.1 0 326).toInt ∧ (u76.1 0 326).toInt ≤ 420 := i32675
        have i38175 : 0 ≤ (u76.1 0 381).toInt ∧ (u76.1 0 381).toInt ≤ 3008 := i38175
        have pd75 : (u76.1 0 381).toInt + (u76.1 0 326).toInt - 2 * (u76.1 0 305).toInt + (0) ≤ (w16.1 0 381).toInt + (w16.1 0 326).toInt - 2 * (w16.1 0 305).toInt := pd75
        have rs75 : RS w16 u76 := rs75
        refine W.widen (k := 0) (n := 0) (Nat.le_refl _) (Nat.le_refl _) ?_
        refine lv_aload_n hx hb dX2_expression_55 rfl (lv_at hl 3 rfl) ?_
        refine lv_iload hx hb dX2_expression_56 (lv_at hl 0 rfl) ?_
        have q78 : (u76.1 0 304).toInt = (w16.1 0 304).toInt := congrArg Int32.toInt ((fr75.2.1 304 (by decide)).trans (show w16.1 0 304 = (w16.1 0 304) by rfl))
        have q79 : (u76.1 0 305).toInt = (w16.1 0 305).toInt := congrArg Int32.toInt ((fr75.2.1 305 (by decide)).trans (show w16.1 0 305 = (w16.1 0 305) by rfl))
        have q80 : (w16.1 0 312).toInt = (v.1 0 312).toInt := congrArg Int32.toInt ((fwL16.2.1 312 (by decide)).trans (show v.1 0 312 = (v.1 0 312) by rfl))
        have q81 : (u76.1 0 312).toInt = (w16.1 0 312).toInt := congrArg Int32.toInt ((fr75.2.1 312 (by decide)).trans (show w16.1 0 312 = (w16.1 0 312) by rfl))
        have q82 : (w16.1 0 373).toInt = (v.1 0 373).toInt := congrArg Int32.toInt ((fwL16.2.1 373 (by decide)).trans (show v.1 0 373 = (v.1 0 373) by rfl))
        have q83 : (u76.1 0 373).toInt = (w16.1 0 373).toInt := congrArg Int32.toInt ((fr75.2.1 373 (by decide)).trans (show w16.1 0 373 = (w16.1 0 373) by rfl))
        have q84 : (u76.1 0 317).toInt = (w16.1 0 317).toInt := congrArg Int32.toInt ((fr75.2.1 317 (by decide)).trans (show w16.1 0 317 = (w16.1 0 317) by rfl))
        refine W.sz (fun hz9 => ?_)
        refine czx_v (rx_Vk (n := 1) (As := [.int r71]) (rest := []) hx hb hml hown ht hKK hFx hP hD hS hA (c_x_X2_beginSign l dC dI cI cB cZ cJ cR tb H.size ad pr N L1 L2 u76 r71 ps (show 0 ≤ (u76.1 0 304).toInt ∧ (u76.1 0 304).toInt ≤ 1503 from (om_dd87ee851a z304 q35 q78)) (show 0 ≤ (u76.1 0 305).toInt ∧ (u76.1 0 305).toInt ≤ 1500 from (om_70fb568090 z305 i305L16 ptL16 q79)) (show 0 ≤ (u76.1 0 312).toInt ∧ (u76.1 0 312).toInt ≤ 500 from (om_8a5975ec21 z312 q80 q81)) (show 0 ≤ (u76.1 0 326).toInt ∧ (u76.1 0 326).toInt ≤ 420 from (om_839d7ed7dd i32675)) (show 0 ≤ (u76.1 0 373).toInt ∧ (u76.1 0 373).toInt ≤ 4000 from (om_03cd8767ac z373 q82 q83)) (show 0 ≤ (u76.1 0 381).toInt ∧ (u76.1 0 381).toInt ≤ 3008 from (om_4920ca6ba3 zd i305L16 pdL16 q79 i32675 i38175 pd75)) (show pr ps = ad 908 from hps) (show (u76.1 0 300) = ps from (Eq.trans (fr75.2.1 300 (by decide)) (Eq.trans (fwL16.2.1 300 (by decide)) es300))) (show (u76.1 0 310) = ps from (Eq.trans (fr75.2.1 310 (by decide)) (Eq.trans (fwL16.2.1 310 (by decide)) es310))) (show l.stackTraces = false from hst) (show (u76.1 0 381).toInt + (u76.1 0 326).toInt - 2 * (u76.1 0 305).toInt ≤ 4 from (om_38609264ad zd pdL16 pd75)) (show 0 ≤ (u76.1 0 317).toInt ∧ (u76.1 0 317).toInt - 4 * (u76.1 0 305).toInt ≤ 12 from (om_314e2d4812 zlb plbL16 q79 q84))) tw_569 tw_570 (by decide +kernel) rfl rfl ⟨show 7 + 1 ≤ 8 * n + 20 from om_24732090af, show 8 + (3 + 11) + 104 ≤ 28 * (8 * n + 20) from om_fe0555df1d⟩ (List.range (cW ad pr N cI cR L1 L2 u76).length) (rg_map _) (nd_range _) 2 rfl rfl rfl rfl hl.1 rfl (Nat.le_of_ble_eq_true rfl) dX2_expression_58 ⟨Nat.le_of_ble_eq_true rfl, Nat.le_of_ble_eq_true rfl⟩) hP hD hS hA (fun u9 ce9 q9 H locs hx9 hP hD hS hc9 hv9 hf9 => ?_) (fun u86 H locs hw85 hP hD hS hz8 => ?_)
        · exact vx_out (fun x h9 => (hnt x h9).elim) hlocks hc9 hv9 hf9 (fun t9 ht9 hv8 => ⟨u9, ⟨FC.tr (FC.tr (FC.tr (FC.rf _) (FC.up fwL16 (by decide) (by decide))) (FC.up fr75 (by decide) (by decide))) hx9.1, hx9.2.1, (by rw [QE_eq]; exact ⟨z304, z305, z306, z312, z321, z326, z373, z381, zd, zlb, (Or.inr (⟨r3, u2, ex1, ⟨fr1, i3051, i3061, i3211, i3261, i3811, pd1, pt1, plb1, po1, rs1⟩, (Or.inl ⟨z5, ka, w16, exL16, fwL16, i305L16, i306L16, i321L16, i326L16, i381L16, f1L16, rsL16, ptL16, plbL16, pdL16, poL16, (Or.inr (⟨z34, r38, ex36, r41, ex39, c39, (Or.inr (⟨z68, r71, ex69, r74, ex72, c72, u76, ex75, ⟨fr75, i32675, i38175, pd75, rs75⟩, (Or.inl ⟨u9, hx9.2.2, rfl, rfl⟩)⟩))⟩))⟩)⟩))⟩)⟩, ⟨rfl, by rw [ht9]; exact hP, hD⟩, hS.F ht9⟩) hS.2.2 (Nat.le_refl _) (Nat.le_refl _)
        refine W.shrink (hz8.trans hz9) ?_
        obtain ⟨fr85, ex85, i32685, i38185, pd85, plb85, rs85⟩ := hw85
        have i32685 : 0 ≤ (u86.1 0 326).toInt ∧ (u86.1 0 326).toInt ≤ 420 := i32685
        have i38185 : 0 ≤ (u86.1 0 381).toInt ∧ (u86.1 0 381).toInt ≤ 3008 := i38185
        have pd85 : (u86.1 0 381).toInt + (u86.1 0 326).toInt - 2 * (u86.1 0 305).toInt + (-2) ≤ (u76.1 0 381).toInt + (u76.1 0 326).toInt - 2 * (u76.1 0 305).toInt := pd85
        have plb85 : (u76.1 0 317).toInt ≤ (u86.1 0 317).toInt ∧ (u86.1 0 317).toInt - 4 * (u86.1 0 305).toInt ≤ (u76.1 0 317).toInt - 4 * (u76.1 0 305).toInt + 1 := plb85
        have rs85 : RS u76 u86 := rs85
        refine lv_aload_n hx hb dX2_expression_61 rfl (lv_at hl 3 rfl) ?_
        refine va_get (D := (dC, dI)) (ci := 6) (fs := oF_X2 ad pr u86) (v := .ref (ad 900)) (C := RX2) (T := TX2) (N := 5) hx hb ht itX2 hown hK hP 2 rfl rfl 0 (by decide) (ht _ tw_509) (fun _ h9 => h9) rfl dX2_expression_62 ?_
        have q88 : (u86.1 0 304).toInt = (u76.1 0 304).toInt := congrArg Int32.toInt ((fr85.2.1 304 (by decide)).trans (show u76.1 0 304 = (u76.1 0 304) by rfl))
        have q89 : (u86.1 0 305).toInt = (u76.1 0 305).toInt := congrArg Int32.toInt ((fr85.2.1 305 (by decide)).trans (show u76.1 0 305 = (u76.1 0 305) by rfl))
        have q90 : (u86.1 0 373).toInt = (u76.1 0 373).toInt := congrArg Int32.toInt ((fr85.2.1 373 (by decide)).trans (show u76.1 0 373 = (u76.1 0 373) by rfl))
        refine W.sz (fun hz9 => ?_)
        refine czx_v (rx_Vk (n := 0) (As := []) (rest := []) hx hb hml hown ht hKK hFx hP hD hS hA (c_x_X9_take l dC dI cI cB cZ cJ cR tb H.size ad pr N L1 L2 u86 ps (show 0 ≤ (u86.1 0 304).toInt ∧ (u86.1 0 304).toInt ≤ 1503 from (om_57e3d9ffbd z304 q35 q78 q88)) (show 0 ≤ (u86.1 0 305).toInt ∧ (u86.1 0 305).toInt ≤ 1500 from (om_15eb9a5d12 z305 i305L16 ptL16 q79 q89)) (show 0 ≤ (u86.1 0 373).toInt ∧ (u86.1 0 373).toInt ≤ 4000 from (om_282c7f458f z373 q82 q83 q90)) (show pr ps = ad 908 from hps) (show (u86.1 0 300) = ps from (Eq.trans (fr85.2.1 300 (by decide)) (Eq.trans (fr75.2.1 300 (by decide)) (Eq.trans (fwL16.2.1 300 (by decide)) es300)))) (show l.stackTraces = false from hst)) tw_539 tw_540 (by decide +kernel) rfl rfl ⟨show 7 + 1 ≤ 8 * n + 20 from om_24732090af, show 8 + (1 + 11) + 104 ≤ 28 * (8 * n + 20) from om_762fffe21e⟩ (List.range (cW ad pr N cI cR L1 L2 u86).length) (rg_map _) (nd_range _) 0 rfl rfl rfl rfl hl.1 rfl (Nat.le_of_ble_eq_true rfl) dX2_expression_65 ⟨Nat.le_of_ble_eq_true rfl, Nat.le_of_ble_eq_true rfl⟩) hP hD hS hA (fun u9 ce9 q9 H locs hx9 hP hD hS hc9 hv9 hf9 => ?_) (fun u92 H locs hw91 hP hD hS hz8 => ?_)
        · exact vx_out (fun x h9 => (hnt x h9).elim) hlocks hc9 hv9 hf9 (fun t9 ht9 hv8 => ⟨u9, ⟨FC.tr (FC.tr (FC.tr (FC.tr (FC.rf _) (FC.up fwL16 (by decide) (by decide))) (FC.up fr75 (by decide) (by decide))) (FC.up fr85 (by decide) (by decide))) hx9.1, hx9.2.1, (by rw [QE_eq]; exact ⟨z304, z305, z306, z312, z321, z326, z373, z381, zd, zlb, (Or.inr (⟨r3, u2, ex1, ⟨fr1, i3051, i3061, i3211, i3261, i3811, pd1, pt1, plb1, po1, rs1⟩, (Or.inl ⟨z5, ka, w16, exL16, fwL16, i305L16, i306L16, i321L16, i326L16, i381L16, f1L16, rsL16, ptL16, plbL16, pdL16, poL16, (Or.inr (⟨z34, r38, ex36, r41, ex39, c39, (Or.inr (⟨z68, r71, ex69, r74, ex72, c72, u76, ex75, ⟨fr75, i32675, i38175, pd75, rs75⟩, (Or.inr (⟨u86, ex85, ⟨fr85, i32685, i38185, pd85, plb85, rs85⟩, (Or.inl ⟨u9, hx9.2.2, rfl, rfl⟩)⟩))⟩))⟩))⟩)⟩))⟩)⟩, ⟨rfl, by rw [ht9]; exact hP, hD⟩, hS.F ht9⟩) hS.2.2 (Nat.le_refl _) (Nat.le_refl _)
        refine W.shrink (hz8.trans hz9) ?_
        obtain ⟨fr91, ex91, i30591, pt91, rs91⟩ := hw91
        have i30591 : 0 ≤ (u92.1 0 305).toInt ∧ (u92.1 0 305).toInt ≤ 1500 := i30591
        have pt91 : (u92.1 0 305).toInt = (u86.1 0 305).toInt + 1 := pt91
        have rs91 : RS u86 u92 := rs91
        refine lv_aload_n hx hb dX2_expression_68 rfl (lv_at hl 3 rfl) ?_
        refine lv_iconst (v := 0) hx hb dX2_expression_69 (by decide) ?_
        have q94 : (u92.1 0 304).toInt = (u86.1 0 304).toInt := congrArg Int32.toInt ((fr91.2.1 304 (by decide)).trans (show u86.1 0 304 = (u86.1 0 304) by rfl))
        have q95 : (u76.1 0 306).toInt = (w16.1 0 306).toInt := congrArg Int32.toInt ((fr75.2.1 306 (by decide)).trans (show w16.1 0 306 = (w16.1 0 306) by rfl))
        have q96 : (u86.1 0 306).toInt = (u76.1 0 306).toInt := congrArg Int32.toInt ((fr85.2.1 306 (by decide)).trans (show u76.1 0 306 = (u76.1 0 306) by rfl))
        have q97 : (u92.1 0 306).toInt = (u86.1 0 306).toInt := congrArg Int32.toInt ((fr91.2.1 306 (by decide)).trans (show u86.1 0 306 = (u86.1 0 306) by rfl))
        have q98 : (u86.1 0 312).toInt = (u76.1 0 312).toInt := congrArg Int32.toInt ((fr85.2.1 312 (by decide)).trans (show u76.1 0 312 = (u76.1 0 312) by rfl))
        have q99 : (u92.1 0 312).toInt = (u86.1 0 312).toInt := congrArg Int32.toInt ((fr91.2.1 312 (by decide)).trans (show u86.1 0 312 = (u86.1 0 312) by rfl))
        have q100 : (u76.1 0 321).toInt = (w16.1 0 321).toInt := congrArg Int32.toInt ((fr75.2.1 321 (by decide)).trans (show w16.1 0 321 = (w16.1 0 321) by rfl))
        have q101 : (u86.1 0 321).toInt = (u76.1 0 321).toInt := congrArg Int32.toInt ((fr85.2.1 321 (by decide)).trans (show u76.1 0 321 = (u76.1 0 321) by rfl))
        have q102 : (u92.1 0 321).toInt = (u86.1 0 321).toInt := congrArg Int32.toInt ((fr91.2.1 321 (by decide)).trans (show u86.1 0 321 = (u86.1 0 321) by rfl))
        have q103 : (u92.1 0 326).toInt = (u86.1 0 326).toInt := congrArg Int32.toInt ((fr91.2.1 326 (by decide)).trans (show u86.1 0 326 = (u86.1 0 326) by rfl))
        have q104 : (u92.1 0 373).toInt = (u86.1 0 373).toInt := congrArg Int32.toInt ((fr91.2.1 373 (by decide)).trans (show u86.1 0 373 = (u86.1 0 373) by rfl))
        have q105 : (u92.1 0 381).toInt = (u86.1 0 381).toInt := congrArg Int32.toInt ((fr91.2.1 381 (by decide)).trans (show u86.1 0 381 = (u86.1 0 381) by rfl))
        have q106 : (u92.1 0 317).toInt = (u86.1 0 317).toInt := congrArg Int32.toInt ((fr91.2.1 317 (by decide)).trans (show u86.1 0 317 = (u86.1 0 317) by rfl))
        refine W.sz (fun hz9 => ?_)
        refine czx_i (rx_Vk (n := 1) (As := [.int 0]) (rest := []) hx hb hml hown ht hKK hFx hP hD hS hA (O dC dI cI cB cZ cJ cR tb H.size ad pr N L1 L2 u92 (0 : Int32) ps (show 0 ≤ (u92.1 0 304).toInt ∧ (u92.1 0 304).toInt ≤ 1503 from (om_8044691ca6 z304 q35 q78 q88 q94)) (show 0 ≤ (u92.1 0 305).toInt ∧ (u92.1 0 305).toInt ≤ 1500 from (om_7897b4ccef i30591)) (show 0 ≤ (u92.1 0 306).toInt ∧ (u92.1 0 306).toInt ≤ 40 from (om_91b0537b40 i306L16 q95 q96 q97)) (show 0 ≤ (u92.1 0 312).toInt ∧ (u92.1 0 312).toInt ≤ 500 from (om_31e0c91fb9 z312 q80 q81 q98 q99)) (show 0 ≤ (u92.1 0 321).toInt ∧ (u92.1 0 321).toInt ≤ 501 from (om_ca65317fd6 i321L16 q100 q101 q102)) (show 0 ≤ (u92.1 0 326).toInt ∧ (u92.1 0 326).toInt ≤ 420 from (om_8ed0dedb19 i32685 q103)) (show 0 ≤ (u92.1 0 373).toInt ∧ (u92.1 0 373).toInt ≤ 4000 from (om_fdcbb58227 z373 q82 q83 q90 q104)) (show 0 ≤ (u92.1 0 381).toInt ∧ (u92.1 0 381).toInt ≤ 3008 from (om_c9b78be2a1 zd pdL16 pd75 i32685 i38185 pd85 q105 i30591 pt91)) (show L1.length = 40 from hL1) (show L2.length = 60 from hL2) (show RP u92 from ((show FC [305, 306, 307, 314, 315, 317, 321, 326, 381] [0, 316, 318, 319, 320, 324, 325, 378, 379, 380] v u92 from (FC.tr (FC.tr (FC.tr (FC.tr (FC.rf _) (FC.up fwL16 (by decide) (by decide))) (FC.up fr75 (by decide) (by decide))) (FC.up fr85 (by decide) (by decide))) (FC.up fr91 (by decide) (by decide)))).1 rp)) (show pr ps = ad 908 from hps) (show (u92.1 0 300) = ps from (Eq.trans (fr91.2.1 300 (by decide)) (Eq.trans (fr85.2.1 300 (by decide)) (Eq.trans (fr75.2.1 300 (by decide)) (Eq.trans (fwL16.2.1 300 (by decide)) es300))))) (show (u92.1 0 310) = ps from (Eq.trans (fr91.2.1 310 (by decide)) (Eq.trans (fr85.2.1 310 (by decide)) (Eq.trans (fr75.2.1 310 (by decide)) (Eq.trans (fwL16.2.1 310 (by decide)) es310))))) (show l.stackTraces = false from hst) (show (u92.1 0 381).toInt + (u92.1 0 326).toInt - 2 * (u92.1 0 305).toInt ≤ 0 from (om_6f2dca716c zd pdL16 pd75 pd85 q103 q105 pt91)) (show 0 ≤ (u92.1 0 317).toInt ∧ (u92.1 0 317).toInt - 4 * (u92.1 0 305).toInt ≤ 8 from (om_d491782891 zlb plbL16 q79 q84 plb85 q106 pt91)) (show 40 ≤ (u92.1 0 306).toInt + (n : Int) from (om_b90ca6a272 zn poL16 q95 q96 q97))) tw_530 tw_531 (by decide +kernel) rfl rfl ⟨show (8 * n + 16) + 1 ≤ 8 * n + 20 from om_4ff9781bd1, show 8 + (2 + 11) + 28 * (8 * n + 16) ≤ 28 * (8 * n + 20) from om_52ba07afcf⟩ (List.range (cW ad pr N cI cR L1 L2 u92).length) (rg_map _) (nd_range _) 2 rfl rfl rfl rfl hl.1 rfl (Nat.le_of_ble_eq_true rfl) dX2_expression_70 ⟨Nat.le_of_ble_eq_true rfl, Nat.le_of_ble_eq_true rfl⟩) hP hD hS hA (fun u9 ce9 q9 H locs hx9 hP hD hS hc9 hv9 hf9 => ?_) (fun r109 u108 H locs hw107 hP hD hS hz8 => ?_)
        · exact vx_out (fun x h9 => (hnt x h9).elim) hlocks hc9 hv9 hf9 (fun t9 ht9 hv8 => ⟨u9, ⟨FC.tr (FC.tr (FC.tr (FC.tr (FC.tr (FC.rf _) (FC.up fwL16 (by decide) (by decide))) (FC.up fr75 (by decide) (by decide))) (FC.up fr85 (by decide) (by decide))) (FC.up fr91 (by decide) (by decide))) hx9.1, hx9.2.1, (by rw [QE_eq]; exact ⟨z304, z305, z306, z312, z321, z326, z373, z381, zd, zlb, (Or.inr (⟨r3, u2, ex1, ⟨fr1, i3051, i3061, i3211, i3261, i3811, pd1, pt1, plb1, po1, rs1⟩, (Or.inl ⟨z5, ka, w16, exL16, fwL16, i305L16, i306L16, i321L16, i326L16, i381L16, f1L16, rsL16, ptL16, plbL16, pdL16, poL16, (Or.inr (⟨z34, r38, ex36, r41, ex39, c39, (Or.inr (⟨z68, r71, ex69, r74, ex72, c72, u76, ex75, ⟨fr75, i32675, i38175, pd75, rs75⟩, (Or.inr (⟨u86, ex85, ⟨fr85, i32685, i38185, pd85, plb85, rs85⟩, (Or.inr (⟨u92, ex91, ⟨fr91, i30591, pt91, rs91⟩, u9, hx9.2.2, rfl, rfl⟩))⟩))⟩))⟩))⟩)⟩))⟩)⟩, ⟨rfl, by rw [ht9]; exact hP, hD⟩, hS.F ht9⟩) hS.2.2 (Nat.le_refl _) (Nat.le_refl _)
        refine W.shrink (hz8.trans hz9) ?_
        obtain ⟨fr107, ex107, i305107, i306107, i321107, i326107, i381107, pd107, pt107, plb107, po107, rs107, bz107⟩ := hw107
        have i305107 : 0 ≤ (u108.1 0 305).toInt ∧ (u108.1 0 305).toInt ≤ 1500 := i305107
        have i306107 : 0 ≤ (u108.1 0 306).toInt ∧ (u108.1 0 306).toInt ≤ 40 := i306107
        have i321107 : 0 ≤ (u108.1 0 321).toInt ∧ (u108.1 0 321).toInt ≤ 501 := i321107
        have i326107 : 0 ≤ (u108.1 0 326).toInt ∧ (u108.1 0 326).toInt ≤ 420 := i326107
        have i381107 : 0 ≤ (u108.1 0 381).toInt ∧ (u108.1 0 381).toInt ≤ 3008 := i381107
        have pd107 : (u108.1 0 381).toInt + (u108.1 0 326).toInt - 2 * (u108.1 0 305).toInt + (1) ≤ (u92.1 0 381).toInt + (u92.1 0 326).toInt - 2 * (u92.1 0 305).toInt := pd107
        have pt107 : (u92.1 0 305).toInt + 1 ≤ (u108.1 0 305).toInt := pt107
        have plb107 : (u92.1 0 317).toInt ≤ (u108.1 0 317).toInt ∧ (u108.1 0 317).toInt - 4 * (u108.1 0 305).toInt ≤ (u92.1 0 317).toInt - 4 * (u92.1 0 305).toInt + 0 := plb107
        have po107 : (u108.1 0 306).toInt = (u92.1 0 306).toInt := po107
        have rs107 : RS u92 u108 := rs107
        have bz107 : r109 = 0 ∨ r109 = 1 := bz107
        refine lv_pop hx hb dX2_expression_73 rfl ?_
        refine lv_iinc (v := (ka + (1 : Int32))) (lv' := [(3, .int (ka + (1 : Int32))), (4, .int r71), (2, .int (v.1 0 326)), (0, .ref (ad 902)), (1, .int pa)]) hx hb dX2_expression_74 hl (k := 1) rfl (rfl) (by decide) rfl (fun ls hl => ?_)
        have z110 : (ka + (1 : Int32)).toInt = ka.toInt + (1 : Int) := add_z rfl (show (1 : Int32).toInt = (1 : Int) by decide) (om_8a2b73c54c f1L16) (om_3176a8b66b f1L16)
        refine lv_goto (tgt := 16) hx hb dX2_expression_77 (by decide) ?_
        exact ih16 ((ka + (1 : Int32)), u108) _ _ _ (show (1500 - (ka + (1 : Int32)).toInt).toNat < (1500 - ka.toInt).toNat from tn_z (om_f107c3c51d z110) (om_1cb5cb4f43 z34)) ⟨(show FC [305, 306, 307, 314, 315, 317, 321, 326, 381] [0, 316, 318, 319, 320, 324, 325, 378, 379, 380] v u108 from (FC.tr (FC.tr (FC.tr (FC.tr (FC.tr (FC.rf _) (FC.up fwL16 (by decide) (by decide))) (FC.up fr75 (by decide) (by decide))) (FC.up fr85 (by decide) (by decide))) (FC.up fr91 (by decide) (by decide))) (FC.up fr107 (by decide) (by decide)))), (show 0 ≤ (u108.1 0 305).toInt ∧ (u108.1 0 305).toInt ≤ 1500 from (om_c55c38ddc1 i30591 i305107 pt107)), (show 0 ≤ (u108.1 0 306).toInt ∧ (u108.1 0 306).toInt ≤ 40 from (om_7eaf33e007 i306107)), (show 0 ≤ (u108.1 0 321).toInt ∧ (u108.1 0 321).toInt ≤ 501 from (om_e1d35f5faf i321107)), (show 0 ≤ (u108.1 0 326).toInt ∧ (u108.1 0 326).toInt ≤ 420 from (om_839d7ed7dd i326107)), (show 0 ≤ (u108.1 0 381).toInt ∧ (u108.1 0 381).toInt ≤ 3008 from (om_e78eec72e1 i381107)), (show 0 ≤ (ka + (1 : Int32)).toInt ∧ (ka + (1 : Int32)).toInt ≤ 1500 from (om_46db715386 f1L16 z34 z110)), (show RS v u108 from (RS.tr (RS.tr (RS.tr (RS.tr (RS.tr RS.rf rsL16) rs75) rs85) rs91) rs107)), (show (v.1 0 305).toInt + 1 ≤ (u108.1 0 305).toInt from (om_f3d5409ae1 ptL16 q79 plb85 pt91 pt107)), (show (v.1 0 317).toInt ≤ (u108.1 0 317).toInt ∧ (u108.1 0 317).toInt - 4 * (u108.1 0 305).toInt ≤ (v.1 0 317).toInt - 4 * (v.1 0 305).toInt from (om_c19e5abc64 plbL16 q79 q84 plb85 q106 pt91 plb107)), (show (u108.1 0 381).toInt + (u108.1 0 326).toInt - 2 * (u108.1 0 305).toInt + (1) ≤ (v.1 0 381).toInt + (v.1 0 326).toInt - 2 * (v.1 0 305).toInt from (om_2dbe0c427f pdL16 pd75 pd85 q103 q105 pt91 pd107)), (show (u108.1 0 306).toInt = (v.1 0 306).toInt + 0 from (om_44f95a3b0a poL16 q95 q96 q97 po107)), (RT.st exL16 ⟨fwL16, i305L16, i306L16, i321L16, i326L16, i381L16, f1L16, rsL16, ptL16, plbL16, pdL16, poL16, z34, r38, ex36, r41, ex39, c39, z68, r71, ex69, r74, ex72, c72, u76, ex75, ⟨fr75, i32675, i38175, pd75, rs75⟩, u86, ex85, ⟨fr85, i32685, i38185, pd85, plb85, rs85⟩, u92, ex91, ⟨fr91, i30591, pt91, rs91⟩, r109, u108, ex107, ⟨fr107, i305107, i306107, i321107, i326107, i381107, pd107, pt107, plb107, po107, rs107⟩, rfl⟩), hP, hD, hS, lv_sub hl [0, 2, 3, 4] rfl⟩
  · have z111 : r3.toInt ≠ (0 : Int) := ne_z rfl (show (0 : Int32).toInt = (0 : Int) by decide) h4
    refine W.sz (fun hz => ?_)
    refine vx_ret ?_
    refine W.widen (k := 1) (n := 6) (Nat.le_of_ble_eq_true rfl) (Nat.le_of_ble_eq_true rfl) ?_
    exact W.vret hx hb hr (fun t ht9 hW => ⟨⟨u2, rfl, ⟨(FC.tr (FC.rf _) (FC.up fr1 (by decide) (by decide))), (by rw [QE_eq]; exact ⟨z304, z305, z306, z312, z321, z326, z373, z381, zd, zlb, (Or.inr (⟨r3, u2, ex1, ⟨fr1, i3051, i3061, i3211, i3261, i3811, pd1, pt1, plb1, po1, rs1⟩, (Or.inr (⟨z111, rfl, rfl⟩))⟩))⟩), (show 0 ≤ (u2.1 0 305).toInt ∧ (u2.1 0 305).toInt ≤ 1500 from (om_c55c38ddc1 z305 i3051 pt1)), (show 0 ≤ (u2.1 0 306).toInt ∧ (u2.1 0 306).toInt ≤ 40 from (om_7eaf33e007 i3061)), (show 0 ≤ (u2.1 0 321).toInt ∧ (u2.1 0 321).toInt ≤ 501 from (om_e1d35f5faf i3211)), (show 0 ≤ (u2.1 0 326).toInt ∧ (u2.1 0 326).toInt ≤ 420 from (om_839d7ed7dd i3261)), (show 0 ≤ (u2.1 0 381).toInt ∧ (u2.1 0 381).toInt ≤ 3008 from (om_a26ca01a96 zd i3051 i3261 i3811 pd1)), (show (u2.1 0 381).toInt + (u2.1 0 326).toInt - 2 * (u2.1 0 305).toInt + (1) ≤ (v.1 0 381).toInt + (v.1 0 326).toInt - 2 * (v.1 0 305).toInt from (om_9440a3056d pd1)), (show (v.1 0 305).toInt + 1 ≤ (u2.1 0 305).toInt from (om_57733d93f1 pt1)), (show (v.1 0 317).toInt ≤ (u2.1 0 317).toInt ∧ (u2.1 0 317).toInt - 4 * (u2.1 0 305).toInt ≤ (v.1 0 317).toInt - 4 * (v.1 0 305).toInt + 0 from (om_53a6d658c3 plb1)), (show (u2.1 0 306).toInt = (v.1 0 306).toInt from (om_5049cbdce5 po1)), (RS.tr RS.rf rs1)⟩, ⟨by rw [ht9]; exact hP, hD⟩, by rw [ht9]; exact hz⟩, hS.F ht9⟩) hS.2.2 dX2_expression_13
theorem cq_all (l : Launch) : ∀ n, Cq_expression l n ∧ Cq_operand l n := by
  intro n
  induction n with
  | zero =>
    have ihE : ∀ m, 0 = m + 1 → Cq_expression l m := fun m h => by omega
    have O : Cq_operand l 0 := c_x_X2_operand l 0 ihE (fun m h => by omega)
    exact ⟨c_x_X2_expression l 0 ihE O, O⟩
  | succ n ih =>
    have ihE : ∀ m, n + 1 = m + 1 → Cq_expression l m := fun m h => (show n = m by omega) ▸ ih.1
    have O : Cq_operand l (n + 1) := c_x_X2_operand l (n + 1) ihE (fun m h => (show n = m by omega) ▸ ih.2)
    exact ⟨c_x_X2_expression l (n + 1) ihE O, O⟩
