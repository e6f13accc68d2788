theorem dX5_stat_0 : decode cX5_stat 0 = .ok (.aload_n 0, 1) := by decide +kernel
theorem dX5_stat_1 : decode cX5_stat 1 = .ok (.getfield 20, 3) := by decide +kernel
theorem dX5_stat_4 : decode cX5_stat 4 = .ok (.invokevirtual 48, 3) := by decide +kernel
theorem dX5_stat_7 : decode cX5_stat 7 = .ok (.tableswitch 242 10 36 #[128, 135, 242, 142, 151, 160, 169, 180, 191, 198, 242, 242, 242, 242, 242, 242, 242, 242, 242, 242, 242, 242, 121, 242, 242, 242, 232], 121) := by decide +kernel
theorem dX5_stat_135 : decode cX5_stat 135 = .ok (.aload_n 0, 1) := by decide +kernel
theorem dX5_stat_136 : decode cX5_stat 136 = .ok (.invokevirtual 195, 3) := by decide +kernel
theorem tw_632 : (.code yX5_local cX5_local 3 none : Cond) ∈ tw_W := tw_in (t8_4 (List.mem_of_getElem? (i := 74) rfl)) rfl
theorem tw_633 : ∀ w ∈ ([.methodLink RX5 195 yX5_local, .instanceMethod yX5_local, .selects RX5 yX5_local yX5_local, .initialized RX5] : List Cond), w ∈ tw_W := al_c (tw_in (t8_4 (List.mem_of_getElem? (i := 71) rfl)) rfl) (al_c (tw_in (t8_4 (List.mem_of_getElem? (i := 73) rfl)) rfl) (al_c (tw_in (t7_2 (q := (yX5_local, 7)) (List.mem_of_getElem? (i := 5) rfl)) rfl) (al_c (tw_in (t8_1 (List.mem_of_getElem? (i := 9) rfl)) rfl) al_n)))
theorem dX5_stat_139 : decode cX5_stat 139 = .ok (.goto 127, 3) := by decide +kernel
theorem dX5_stat_266 : decode cX5_stat 266 = .ok (.return_, 1) := by decide +kernel
theorem dX5_stat_142 : decode cX5_stat 142 = .ok (.aload_n 0, 1) := by decide +kernel
theorem dX5_stat_143 : decode cX5_stat 143 = .ok (.invokevirtual 198, 3) := by decide +kernel
theorem tw_634 : (.code yX5_ifStat cX5_ifStat 3 none : Cond) ∈ tw_W := tw_in (t8_4 (List.mem_of_getElem? (i := 184) rfl)) rfl
theorem tw_635 : ∀ w ∈ ([.methodLink RX5 198 yX5_ifStat, .instanceMethod yX5_ifStat, .selects RX5 yX5_ifStat yX5_ifStat, .initialized RX5] : List Cond), w ∈ tw_W := al_c (tw_in (t8_4 (List.mem_of_getElem? (i := 181) rfl)) rfl) (al_c (tw_in (t8_4 (List.mem_of_getElem? (i := 183) rfl)) rfl) (al_c (tw_in (t7_3 (q := (yX5_ifStat, 7)) (List.mem_of_getElem? (i := 3) rfl)) rfl) (al_c (tw_in (t8_1 (List.mem_of_getElem? (i := 9) rfl)) rfl) al_n)))
theorem dX5_stat_146 : decode cX5_stat 146 = .ok (.goto 120, 3) := by decide +kernel
theorem dX5_stat_249 : decode cX5_stat 249 = .ok (.aload_n 0, 1) := by decide +kernel
theorem dX5_stat_250 : decode cX5_stat 250 = .ok (.getfield 36, 3) := by decide +kernel
theorem dX5_stat_253 : decode cX5_stat 253 = .ok (.iconst 1, 1) := by decide +kernel
theorem dX5_stat_254 : decode cX5_stat 254 = .ok (.invokevirtual 213, 3) := by decide +kernel
theorem dX5_stat_257 : decode cX5_stat 257 = .ok (.aload_n 0, 1) := by decide +kernel
theorem dX5_stat_258 : decode cX5_stat 258 = .ok (.getfield 20, 3) := by decide +kernel
theorem dX5_stat_261 : decode cX5_stat 261 = .ok (.bipush 36, 2) := by decide +kernel
theorem dX5_stat_263 : decode cX5_stat 263 = .ok (.invokevirtual 87, 3) := by decide +kernel
theorem dX5_stat_149 : decode cX5_stat 149 = .ok (.aload_n 0, 1) := by decide +kernel
theorem dX5_stat_150 : decode cX5_stat 150 = .ok (.bipush 13, 2) := by decide +kernel
theorem dX5_stat_152 : decode cX5_stat 152 = .ok (.invokevirtual 201, 3) := by decide +kernel
theorem tw_636 : (.code yX5_loopStat cX5_loopStat 4 none : Cond) ∈ tw_W := tw_in (t8_4 (List.mem_of_getElem? (i := 197) rfl)) rfl
theorem tw_637 : ∀ w ∈ ([.methodLink RX5 201 yX5_loopStat, .instanceMethod yX5_loopStat, .selects RX5 yX5_loopStat yX5_loopStat, .initialized RX5] : List Cond), w ∈ tw_W := al_c (tw_in (t8_4 (List.mem_of_getElem? (i := 194) rfl)) rfl) (al_c (tw_in (t8_4 (List.mem_of_getElem? (i := 196) rfl)) rfl) (al_c (tw_in (t7_3 (q := (yX5_loopStat, 7)) (List.mem_of_getElem? (i := 6) rfl)) rfl) (al_c (tw_in (t8_1 (List.mem_of_getElem? (i := 9) rfl)) rfl) al_n)))
theorem dX5_stat_155 : decode cX5_stat 155 = .ok (.goto 111, 3) := by decide +kernel
theorem dX5_stat_158 : decode cX5_stat 158 = .ok (.aload_n 0, 1) := by decide +kernel
theorem dX5_stat_159 : decode cX5_stat 159 = .ok (.bipush 14, 2) := by decide +kernel
theorem dX5_stat_161 : decode cX5_stat 161 = .ok (.invokevirtual 201, 3) := by decide +kernel
theorem dX5_stat_164 : decode cX5_stat 164 = .ok (.goto 102, 3) := by decide +kernel
theorem dX5_stat_167 : decode cX5_stat 167 = .ok (.aload_n 0, 1) := by decide +kernel
theorem dX5_stat_168 : decode cX5_stat 168 = .ok (.bipush 15, 2) := by decide +kernel
theorem dX5_stat_170 : decode cX5_stat 170 = .ok (.invokevirtual 201, 3) := by decide +kernel
theorem dX5_stat_173 : decode cX5_stat 173 = .ok (.goto 93, 3) := by decide +kernel
theorem dX5_stat_176 : decode cX5_stat 176 = .ok (.aload_n 0, 1) := by decide +kernel
theorem dX5_stat_177 : decode cX5_stat 177 = .ok (.aload_n 0, 1) := by decide +kernel
theorem dX5_stat_178 : decode cX5_stat 178 = .ok (.getfield 150, 3) := by decide +kernel
theorem dX5_stat_181 : decode cX5_stat 181 = .ok (.invokevirtual 204, 3) := by decide +kernel
theorem tw_638 : (.code yX5_jumpStat cX5_jumpStat 3 none : Cond) ∈ tw_W := tw_in (t8_4 (List.mem_of_getElem? (i := 217) rfl)) rfl
theorem tw_639 : ∀ w ∈ ([.methodLink RX5 204 yX5_jumpStat, .instanceMethod yX5_jumpStat, .selects RX5 yX5_jumpStat yX5_jumpStat, .initialized RX5] : List Cond), w ∈ tw_W := al_c (tw_in (t8_4 (List.mem_of_getElem? (i := 214) rfl)) rfl) (al_c (tw_in (t8_4 (List.mem_of_getElem? (i := 216) rfl)) rfl) (al_c (tw_in (t7_3 (q := (yX5_jumpStat, 7)) (List.mem_of_getElem? (i := 11) rfl)) rfl) (al_c (tw_in (t8_1 (List.mem_of_getElem? (i := 9) rfl)) rfl) al_n)))
theorem dX5_stat_184 : decode cX5_stat 184 = .ok (.goto 82, 3) := by decide +kernel
theorem dX5_stat_187 : decode cX5_stat 187 = .ok (.aload_n 0, 1) := by decide +kernel
theorem dX5_stat_188 : decode cX5_stat 188 = .ok (.aload_n 0, 1) := by decide +kernel
theorem dX5_stat_189 : decode cX5_stat 189 = .ok (.getfield 153, 3) := by decide +kernel
theorem dX5_stat_192 : decode cX5_stat 192 = .ok (.invokevirtual 204, 3) := by decide +kernel
theorem dX5_stat_195 : decode cX5_stat 195 = .ok (.goto 71, 3) := by decide +kernel
theorem dX5_stat_198 : decode cX5_stat 198 = .ok (.aload_n 0, 1) := by decide +kernel
theorem dX5_stat_199 : decode cX5_stat 199 = .ok (.invokevirtual 207, 3) := by decide +kernel
theorem tw_640 : (.code yX5_returnStat cX5_returnStat 1 none : Cond) ∈ tw_W := tw_in (t8_4 (List.mem_of_getElem? (i := 221) rfl)) rfl
theorem tw_641 : ∀ w ∈ ([.methodLink RX5 207 yX5_returnStat, .instanceMethod yX5_returnStat, .selects RX5 yX5_returnStat yX5_returnStat, .initialized RX5] : List Cond), w ∈ tw_W := al_c (tw_in (t8_4 (List.mem_of_getElem? (i := 218) rfl)) rfl) (al_c (tw_in (t8_4 (List.mem_of_getElem? (i := 220) rfl)) rfl) (al_c (tw_in (t7_3 (q := (yX5_returnStat, 7)) (List.mem_of_getElem? (i := 12) rfl)) rfl) (al_c (tw_in (t8_1 (List.mem_of_getElem? (i := 9) rfl)) rfl) al_n)))
theorem dX5_stat_202 : decode cX5_stat 202 = .ok (.goto 64, 3) := by decide +kernel
theorem dX5_stat_205 : decode cX5_stat 205 = .ok (.aload_n 0, 1) := by decide +kernel
theorem dX5_stat_206 : decode cX5_stat 206 = .ok (.getfield 20, 3) := by decide +kernel
theorem dX5_stat_209 : decode cX5_stat 209 = .ok (.invokevirtual 117, 3) := by decide +kernel
theorem dX5_stat_212 : decode cX5_stat 212 = .ok (.aload_n 0, 1) := by decide +kernel
theorem dX5_stat_213 : decode cX5_stat 213 = .ok (.invokevirtual 210, 3) := by decide +kernel
theorem dX5_stat_216 : decode cX5_stat 216 = .ok (.aload_n 0, 1) := by decide +kernel
theorem dX5_stat_217 : decode cX5_stat 217 = .ok (.getfield 27, 3) := by decide +kernel
theorem dX5_stat_220 : decode cX5_stat 220 = .ok (.bipush 22, 2) := by decide +kernel
theorem dX5_stat_222 : decode cX5_stat 222 = .ok (.iconst 0, 1) := by decide +kernel
theorem dX5_stat_223 : decode cX5_stat 223 = .ok (.iconst 0, 1) := by decide +kernel
theorem dX5_stat_224 : decode cX5_stat 224 = .ok (.invokevirtual 147, 3) := by decide +kernel
theorem dX5_stat_227 : decode cX5_stat 227 = .ok (.aload_n 0, 1) := by decide +kernel
theorem dX5_stat_228 : decode cX5_stat 228 = .ok (.getfield 20, 3) := by decide +kernel
theorem dX5_stat_231 : decode cX5_stat 231 = .ok (.bipush 36, 2) := by decide +kernel
theorem dX5_stat_233 : decode cX5_stat 233 = .ok (.invokevirtual 87, 3) := by decide +kernel
theorem dX5_stat_236 : decode cX5_stat 236 = .ok (.goto 30, 3) := by decide +kernel
theorem dX5_stat_128 : decode cX5_stat 128 = .ok (.aload_n 0, 1) := by decide +kernel
theorem dX5_stat_129 : decode cX5_stat 129 = .ok (.invokevirtual 192, 3) := by decide +kernel
theorem tw_642 : (.code yX5_block cX5_block 3 none : Cond) ∈ tw_W := tw_in (t8_4 (List.mem_of_getElem? (i := 70) rfl)) rfl
theorem tw_643 : ∀ w ∈ ([.methodLink RX5 192 yX5_block, .instanceMethod yX5_block, .selects RX5 yX5_block yX5_block, .initialized RX5] : List Cond), w ∈ tw_W := al_c (tw_in (t8_4 (List.mem_of_getElem? (i := 67) rfl)) rfl) (al_c (tw_in (t8_4 (List.mem_of_getElem? (i := 69) rfl)) rfl) (al_c (tw_in (t7_2 (q := (yX5_block, 7)) (List.mem_of_getElem? (i := 4) rfl)) rfl) (al_c (tw_in (t8_1 (List.mem_of_getElem? (i := 9) rfl)) rfl) al_n)))
theorem dX5_stat_132 : decode cX5_stat 132 = .ok (.goto 134, 3) := by decide +kernel
theorem dX5_stat_239 : decode cX5_stat 239 = .ok (.aload_n 0, 1) := by decide +kernel
theorem dX5_stat_240 : decode cX5_stat 240 = .ok (.getfield 20, 3) := by decide +kernel
theorem dX5_stat_243 : decode cX5_stat 243 = .ok (.invokevirtual 117, 3) := by decide +kernel
theorem dX5_stat_246 : decode cX5_stat 246 = .ok (.goto 20, 3) := by decide +kernel
theorem dX5_functionItem_0 : decode cX5_functionItem 0 = .ok (.aload_n 0, 1) := by decide +kernel
theorem dX5_functionItem_1 : decode cX5_functionItem 1 = .ok (.getfield 9, 3) := by decide +kernel
theorem dX5_functionItem_4 : decode cX5_functionItem 4 = .ok (.getfield 129, 3) := by decide +kernel
theorem tw_644 : (.fieldLink RX5 129 "PocketCompiler$Program" "functionCount" "I" : Cond) ∈ tw_W := tw_in (t8_1 (List.mem_of_getElem? (i := 118) rfl)) rfl
theorem dX5_functionItem_7 : decode cX5_functionItem 7 = .ok (.istore_n 1, 1) := by decide +kernel
theorem dX5_functionItem_8 : decode cX5_functionItem 8 = .ok (.iload_n 1, 1) := by decide +kernel
theorem dX5_functionItem_9 : decode cX5_functionItem 9 = .ok (.bipush 40, 2) := by decide +kernel
theorem dX5_functionItem_11 : decode cX5_functionItem 11 = .ok (.if_icmp .lt 18, 3) := by decide +kernel
theorem dX5_functionItem_29 : decode cX5_functionItem 29 = .ok (.aload_n 0, 1) := by decide +kernel
theorem dX5_functionItem_30 : decode cX5_functionItem 30 = .ok (.getfield 9, 3) := by decide +kernel
theorem dX5_functionItem_33 : decode cX5_functionItem 33 = .ok (.iload_n 1, 1) := by decide +kernel
theorem dX5_functionItem_34 : decode cX5_functionItem 34 = .ok (.iconst 1, 1) := by decide +kernel
theorem dX5_functionItem_35 : decode cX5_functionItem 35 = .ok (.iadd, 1) := by decide +kernel
theorem dX5_functionItem_36 : decode cX5_functionItem 36 = .ok (.putfield 129, 3) := by decide +kernel
theorem dX5_functionItem_39 : decode cX5_functionItem 39 = .ok (.aload_n 0, 1) := by decide +kernel
theorem dX5_functionItem_40 : decode cX5_functionItem 40 = .ok (.getfield 9, 3) := by decide +kernel
theorem dX5_functionItem_43 : decode cX5_functionItem 43 = .ok (.iload_n 1, 1) := by decide +kernel
theorem dX5_functionItem_44 : decode cX5_functionItem 44 = .ok (.iconst 4, 1) := by decide +kernel
theorem dX5_functionItem_45 : decode cX5_functionItem 45 = .ok (.aload_n 0, 1) := by decide +kernel
theorem dX5_functionItem_46 : decode cX5_functionItem 46 = .ok (.getfield 20, 3) := by decide +kernel
theorem dX5_functionItem_49 : decode cX5_functionItem 49 = .ok (.invokevirtual 93, 3) := by decide +kernel
theorem dX5_functionItem_52 : decode cX5_functionItem 52 = .ok (.invokevirtual 132, 3) := by decide +kernel
theorem tw_645 : (.code yX7_changeFunction cX7_changeFunction 4 none : Cond) ∈ tw_W := tw_in (t8_3 (List.mem_of_getElem? (i := 236) rfl)) rfl
theorem tw_646 : ∀ w ∈ ([.methodLink RX5 132 yX7_changeFunction, .instanceMethod yX7_changeFunction, .selects RX7 yX7_changeFunction yX7_changeFunction, .initialized RX7] : List Cond), w ∈ tw_W := al_c (tw_in (t8_3 (List.mem_of_getElem? (i := 233) rfl)) rfl) (al_c (tw_in (t8_3 (List.mem_of_getElem? (i := 234) rfl)) rfl) (al_c (tw_in (t8_3 (List.mem_of_getElem? (i := 235) rfl)) rfl) (al_c (tw_in (t8_1 (List.mem_of_getElem? (i := 8) rfl)) rfl) al_n)))
theorem dX5_functionItem_55 : decode cX5_functionItem 55 = .ok (.aload_n 0, 1) := by decide +kernel
theorem dX5_functionItem_56 : decode cX5_functionItem 56 = .ok (.getfield 9, 3) := by decide +kernel
theorem dX5_functionItem_59 : decode cX5_functionItem 59 = .ok (.iload_n 1, 1) := by decide +kernel
theorem dX5_functionItem_60 : decode cX5_functionItem 60 = .ok (.iconst 3, 1) := by decide +kernel
theorem dX5_functionItem_61 : decode cX5_functionItem 61 = .ok (.aload_n 0, 1) := by decide +kernel
theorem dX5_functionItem_62 : decode cX5_functionItem 62 = .ok (.getfield 20, 3) := by decide +kernel
theorem dX5_functionItem_65 : decode cX5_functionItem 65 = .ok (.invokevirtual 104, 3) := by decide +kernel
theorem dX5_functionItem_68 : decode cX5_functionItem 68 = .ok (.invokevirtual 132, 3) := by decide +kernel
theorem dX5_functionItem_71 : decode cX5_functionItem 71 = .ok (.aload_n 0, 1) := by decide +kernel
theorem dX5_functionItem_72 : decode cX5_functionItem 72 = .ok (.getfield 27, 3) := by decide +kernel
theorem dX5_functionItem_75 : decode cX5_functionItem 75 = .ok (.invokevirtual 135, 3) := by decide +kernel
theorem tw_647 : (.code yX1_beginFunction cX1_beginFunction 1 none : Cond) ∈ tw_W := tw_in (t8_4 (List.mem_of_getElem? (i := 0) rfl)) rfl
theorem tw_648 : ∀ w ∈ ([.methodLink RX5 135 yX1_beginFunction, .instanceMethod yX1_beginFunction, .selects RX1 yX1_beginFunction yX1_beginFunction, .initialized RX1] : List Cond), w ∈ tw_W := al_c (tw_in (t8_3 (List.mem_of_getElem? (i := 237) rfl)) rfl) (al_c (tw_in (t8_3 (List.mem_of_getElem? (i := 238) rfl)) rfl) (al_c (tw_in (t8_3 (List.mem_of_getElem? (i := 239) rfl)) rfl) (al_c (tw_in (t8_1 (List.mem_of_getElem? (i := 11) rfl)) rfl) al_n)))
theorem dX5_functionItem_78 : decode cX5_functionItem 78 = .ok (.aload_n 0, 1) := by decide +kernel
theorem dX5_functionItem_79 : decode cX5_functionItem 79 = .ok (.getfield 20, 3) := by decide +kernel
theorem dX5_functionItem_82 : decode cX5_functionItem 82 = .ok (.invokevirtual 117, 3) := by decide +kernel
theorem dX5_functionItem_85 : decode cX5_functionItem 85 = .ok (.aload_n 0, 1) := by decide +kernel
theorem dX5_functionItem_86 : decode cX5_functionItem 86 = .ok (.invokevirtual 138, 3) := by decide +kernel
theorem tw_649 : (.code yX5_parameters cX5_parameters 2 none : Cond) ∈ tw_W := tw_in (t8_4 (List.mem_of_getElem? (i := 8) rfl)) rfl
theorem tw_650 : ∀ w ∈ ([.methodLink RX5 138 yX5_parameters, .instanceMethod yX5_parameters, .selects RX5 yX5_parameters yX5_parameters, .initialized RX5] : List Cond), w ∈ tw_W := al_c (tw_in (t8_4 (List.mem_of_getElem? (i := 5) rfl)) rfl) (al_c (tw_in (t8_4 (List.mem_of_getElem? (i := 7) rfl)) rfl) (al_c (tw_in (t7_1 (q := (yX5_parameters, 7)) (List.mem_of_getElem? (i := 14) rfl)) rfl) (al_c (tw_in (t8_1 (List.mem_of_getElem? (i := 9) rfl)) rfl) al_n)))
theorem dX5_functionItem_89 : decode cX5_functionItem 89 = .ok (.aload_n 0, 1) := by decide +kernel
theorem dX5_functionItem_90 : decode cX5_functionItem 90 = .ok (.getfield 9, 3) := by decide +kernel
theorem dX5_functionItem_93 : decode cX5_functionItem 93 = .ok (.iload_n 1, 1) := by decide +kernel
theorem dX5_functionItem_94 : decode cX5_functionItem 94 = .ok (.iconst 0, 1) := by decide +kernel
theorem dX5_functionItem_95 : decode cX5_functionItem 95 = .ok (.aload_n 0, 1) := by decide +kernel
theorem dX5_functionItem_96 : decode cX5_functionItem 96 = .ok (.getfield 27, 3) := by decide +kernel
theorem dX5_functionItem_99 : decode cX5_functionItem 99 = .ok (.getfield 141, 3) := by decide +kernel
theorem dX5_functionItem_102 : decode cX5_functionItem 102 = .ok (.invokevirtual 132, 3) := by decide +kernel
theorem dX5_functionItem_105 : decode cX5_functionItem 105 = .ok (.aload_n 0, 1) := by decide +kernel
theorem dX5_functionItem_106 : decode cX5_functionItem 106 = .ok (.getfield 9, 3) := by decide +kernel
theorem dX5_functionItem_109 : decode cX5_functionItem 109 = .ok (.iload_n 1, 1) := by decide +kernel
theorem dX5_functionItem_110 : decode cX5_functionItem 110 = .ok (.iconst 5, 1) := by decide +kernel
theorem dX5_functionItem_111 : decode cX5_functionItem 111 = .ok (.aload_n 0, 1) := by decide +kernel
theorem dX5_functionItem_112 : decode cX5_functionItem 112 = .ok (.getfield 9, 3) := by decide +kernel
theorem dX5_functionItem_115 : decode cX5_functionItem 115 = .ok (.getfield 144, 3) := by decide +kernel
theorem tw_651 : (.fieldLink RX5 144 "PocketCompiler$Program" "deedCount" "I" : Cond) ∈ tw_W := tw_in (t8_1 (List.mem_of_getElem? (i := 139) rfl)) rfl
theorem dX5_functionItem_118 : decode cX5_functionItem 118 = .ok (.invokevirtual 132, 3) := by decide +kernel
theorem dX5_functionItem_121 : decode cX5_functionItem 121 = .ok (.aload_n 0, 1) := by decide +kernel
theorem dX5_functionItem_122 : decode cX5_functionItem 122 = .ok (.getfield 27, 3) := by decide +kernel
theorem dX5_functionItem_125 : decode cX5_functionItem 125 = .ok (.iconst 0, 1) := by decide +kernel
theorem dX5_functionItem_126 : decode cX5_functionItem 126 = .ok (.iload_n 1, 1) := by decide +kernel
theorem dX5_functionItem_127 : decode cX5_functionItem 127 = .ok (.iconst 0, 1) := by decide +kernel
theorem dX5_functionItem_128 : decode cX5_functionItem 128 = .ok (.invokevirtual 147, 3) := by decide +kernel
theorem dX5_functionItem_131 : decode cX5_functionItem 131 = .ok (.aload_n 0, 1) := by decide +kernel
theorem dX5_functionItem_132 : decode cX5_functionItem 132 = .ok (.iconst (-1), 1) := by decide +kernel
theorem dX5_functionItem_133 : decode cX5_functionItem 133 = .ok (.putfield 150, 3) := by decide +kernel
theorem dX5_functionItem_136 : decode cX5_functionItem 136 = .ok (.aload_n 0, 1) := by decide +kernel
theorem dX5_functionItem_137 : decode cX5_functionItem 137 = .ok (.iconst (-1), 1) := by decide +kernel
theorem dX5_functionItem_138 : decode cX5_functionItem 138 = .ok (.putfield 153, 3) := by decide +kernel
theorem dX5_functionItem_141 : decode cX5_functionItem 141 = .ok (.aload_n 0, 1) := by decide +kernel
theorem dX5_functionItem_142 : decode cX5_functionItem 142 = .ok (.aload_n 0, 1) := by decide +kernel
theorem dX5_functionItem_143 : decode cX5_functionItem 143 = .ok (.getfield 27, 3) := by decide +kernel
theorem dX5_functionItem_146 : decode cX5_functionItem 146 = .ok (.invokevirtual 156, 3) := by decide +kernel
theorem dX5_functionItem_149 : decode cX5_functionItem 149 = .ok (.putfield 159, 3) := by decide +kernel
theorem dX5_functionItem_152 : decode cX5_functionItem 152 = .ok (.aload_n 0, 1) := by decide +kernel
theorem dX5_functionItem_153 : decode cX5_functionItem 153 = .ok (.getfield 20, 3) := by decide +kernel
theorem dX5_functionItem_156 : decode cX5_functionItem 156 = .ok (.bipush 32, 2) := by decide +kernel
theorem dX5_functionItem_158 : decode cX5_functionItem 158 = .ok (.invokevirtual 90, 3) := by decide +kernel
theorem dX5_functionItem_161 : decode cX5_functionItem 161 = .ok (.aload_n 0, 1) := by decide +kernel
theorem dX5_functionItem_162 : decode cX5_functionItem 162 = .ok (.getfield 20, 3) := by decide +kernel
theorem dX5_functionItem_165 : decode cX5_functionItem 165 = .ok (.invokevirtual 123, 3) := by decide +kernel
theorem dX5_functionItem_168 : decode cX5_functionItem 168 = .ok (.aload_n 0, 1) := by decide +kernel
theorem dX5_functionItem_169 : decode cX5_functionItem 169 = .ok (.invokevirtual 162, 3) := by decide +kernel
theorem dX5_functionItem_172 : decode cX5_functionItem 172 = .ok (.aload_n 0, 1) := by decide +kernel
theorem dX5_functionItem_173 : decode cX5_functionItem 173 = .ok (.getfield 20, 3) := by decide +kernel
theorem dX5_functionItem_176 : decode cX5_functionItem 176 = .ok (.bipush 33, 2) := by decide +kernel
theorem dX5_functionItem_178 : decode cX5_functionItem 178 = .ok (.invokevirtual 87, 3) := by decide +kernel
theorem dX5_functionItem_181 : decode cX5_functionItem 181 = .ok (.aload_n 0, 1) := by decide +kernel
theorem dX5_functionItem_182 : decode cX5_functionItem 182 = .ok (.getfield 20, 3) := by decide +kernel
theorem dX5_functionItem_185 : decode cX5_functionItem 185 = .ok (.invokevirtual 126, 3) := by decide +kernel
theorem dX5_functionItem_188 : decode cX5_functionItem 188 = .ok (.aload_n 0, 1) := by decide +kernel
theorem dX5_functionItem_189 : decode cX5_functionItem 189 = .ok (.getfield 27, 3) := by decide +kernel
theorem dX5_functionItem_192 : decode cX5_functionItem 192 = .ok (.iconst 2, 1) := by decide +kernel
theorem dX5_functionItem_193 : decode cX5_functionItem 193 = .ok (.iconst 0, 1) := by decide +kernel
theorem dX5_functionItem_194 : decode cX5_functionItem 194 = .ok (.iconst 0, 1) := by decide +kernel
theorem dX5_functionItem_195 : decode cX5_functionItem 195 = .ok (.invokevirtual 147, 3) := by decide +kernel
theorem dX5_functionItem_198 : decode cX5_functionItem 198 = .ok (.aload_n 0, 1) := by decide +kernel
theorem dX5_functionItem_199 : decode cX5_functionItem 199 = .ok (.getfield 27, 3) := by decide +kernel
theorem dX5_functionItem_202 : decode cX5_functionItem 202 = .ok (.aload_n 0, 1) := by decide +kernel
theorem dX5_functionItem_203 : decode cX5_functionItem 203 = .ok (.getfield 159, 3) := by decide +kernel
theorem dX5_functionItem_206 : decode cX5_functionItem 206 = .ok (.invokevirtual 165, 3) := by decide +kernel
theorem dX5_functionItem_209 : decode cX5_functionItem 209 = .ok (.aload_n 0, 1) := by decide +kernel
theorem dX5_functionItem_210 : decode cX5_functionItem 210 = .ok (.getfield 27, 3) := by decide +kernel
theorem dX5_functionItem_213 : decode cX5_functionItem 213 = .ok (.iconst 1, 1) := by decide +kernel
theorem dX5_functionItem_214 : decode cX5_functionItem 214 = .ok (.iconst 0, 1) := by decide +kernel
theorem dX5_functionItem_215 : decode cX5_functionItem 215 = .ok (.iconst 0, 1) := by decide +kernel
theorem dX5_functionItem_216 : decode cX5_functionItem 216 = .ok (.invokevirtual 147, 3) := by decide +kernel
theorem dX5_functionItem_219 : decode cX5_functionItem 219 = .ok (.aload_n 0, 1) := by decide +kernel
theorem dX5_functionItem_220 : decode cX5_functionItem 220 = .ok (.getfield 9, 3) := by decide +kernel
theorem dX5_functionItem_223 : decode cX5_functionItem 223 = .ok (.iload_n 1, 1) := by decide +kernel
theorem dX5_functionItem_224 : decode cX5_functionItem 224 = .ok (.iconst 2, 1) := by decide +kernel
theorem dX5_functionItem_225 : decode cX5_functionItem 225 = .ok (.aload_n 0, 1) := by decide +kernel
theorem dX5_functionItem_226 : decode cX5_functionItem 226 = .ok (.getfield 27, 3) := by decide +kernel
theorem dX5_functionItem_229 : decode cX5_functionItem 229 = .ok (.invokevirtual 168, 3) := by decide +kernel
theorem tw_652 : (.code yX1_frame cX1_frame 1 (some .int) : Cond) ∈ tw_W := tw_in (t8_4 (List.mem_of_getElem? (i := 225) rfl)) rfl
theorem tw_653 : ∀ w ∈ ([.methodLink RX5 168 yX1_frame, .instanceMethod yX1_frame, .selects RX1 yX1_frame yX1_frame, .initialized RX1] : List Cond), w ∈ tw_W := al_c (tw_in (t8_4 (List.mem_of_getElem? (i := 222) rfl)) rfl) (al_c (tw_in (t8_4 (List.mem_of_getElem? (i := 223) rfl)) rfl) (al_c (tw_in (t8_4 (List.mem_of_getElem? (i := 224) rfl)) rfl) (al_c (tw_in (t8_1 (List.mem_of_getElem? (i := 11) rfl)) rfl) al_n)))
theorem dX5_functionItem_232 : decode cX5_functionItem 232 = .ok (.invokevirtual 132, 3) := by decide +kernel
theorem dX5_functionItem_235 : decode cX5_functionItem 235 = .ok (.return_, 1) := by decide +kernel
theorem dX5_functionItem_14 : decode cX5_functionItem 14 = .ok (.aload_n 0, 1) := by decide +kernel
theorem dX5_functionItem_15 : decode cX5_functionItem 15 = .ok (.getfield 20, 3) := by decide +kernel
theorem dX5_functionItem_18 : decode cX5_functionItem 18 = .ok (.iconst 5, 1) := by decide +kernel
theorem dX5_functionItem_19 : decode cX5_functionItem 19 = .ok (.aload_n 0, 1) := by decide +kernel
theorem dX5_functionItem_20 : decode cX5_functionItem 20 = .ok (.getfield 20, 3) := by decide +kernel
theorem dX5_functionItem_23 : decode cX5_functionItem 23 = .ok (.invokevirtual 104, 3) := by decide +kernel
theorem dX5_functionItem_26 : decode cX5_functionItem 26 = .ok (.invokevirtual 79, 3) := by decide +kernel
theorem dX5_readText_0 : decode cX5_readText 0 = .ok (.aload_n 0, 1) := by decide +kernel
theorem dX5_readText_1 : decode cX5_readText 1 = .ok (.aload_n 1, 1) := by decide +kernel
theorem dX5_readText_2 : decode cX5_readText 2 = .ok (.putfield 9, 3) := by decide +kernel
theorem dX5_readText_5 : decode cX5_readText 5 = .ok (.aload_n 0, 1) := by decide +kernel
theorem dX5_readText_6 : decode cX5_readText 6 = .ok (.getfield 20, 3) := by decide +kernel
theorem dX5_readText_9 : decode cX5_readText 9 = .ok (.aload_n 1, 1) := by decide +kernel
theorem dX5_readText_10 : decode cX5_readText 10 = .ok (.invokevirtual 40, 3) := by decide +kernel
theorem tw_654 : (.code yX9_scan cX9_scan 4 none : Cond) ∈ tw_W := tw_in (t8_2 (List.mem_of_getElem? (i := 218) rfl)) rfl
theorem tw_655 : ∀ w ∈ ([.methodLink RX5 40 yX9_scan, .instanceMethod yX9_scan, .selects RX9 yX9_scan yX9_scan, .initialized RX9] : List Cond), w ∈ tw_W := al_c (tw_in (t8_2 (List.mem_of_getElem? (i := 215) rfl)) rfl) (al_c (tw_in (t8_2 (List.mem_of_getElem? (i := 216) rfl)) rfl) (al_c (tw_in (t8_2 (List.mem_of_getElem? (i := 217) rfl)) rfl) (al_c (tw_in (t8_1 (List.mem_of_getElem? (i := 10) rfl)) rfl) al_n)))
theorem dX5_readText_13 : decode cX5_readText 13 = .ok (.aload_n 0, 1) := by decide +kernel
theorem dX5_readText_14 : decode cX5_readText 14 = .ok (.getfield 27, 3) := by decide +kernel
theorem dX5_readText_17 : decode cX5_readText 17 = .ok (.aload_n 1, 1) := by decide +kernel
theorem dX5_readText_18 : decode cX5_readText 18 = .ok (.invokevirtual 43, 3) := by decide +kernel
theorem tw_656 : (.code yX1_begin cX1_begin 2 none : Cond) ∈ tw_W := tw_in (t8_3 (List.mem_of_getElem? (i := 94) rfl)) rfl
theorem tw_657 : ∀ w ∈ ([.methodLink RX5 43 yX1_begin, .instanceMethod yX1_begin, .selects RX1 yX1_begin yX1_begin, .initialized RX1] : List Cond), w ∈ tw_W := al_c (tw_in (t8_3 (List.mem_of_getElem? (i := 91) rfl)) rfl) (al_c (tw_in (t8_3 (List.mem_of_getElem? (i := 92) rfl)) rfl) (al_c (tw_in (t8_3 (List.mem_of_getElem? (i := 93) rfl)) rfl) (al_c (tw_in (t8_1 (List.mem_of_getElem? (i := 11) rfl)) rfl) al_n)))
theorem dX5_readText_21 : decode cX5_readText 21 = .ok (.aload_n 0, 1) := by decide +kernel
theorem dX5_readText_22 : decode cX5_readText 22 = .ok (.getfield 36, 3) := by decide +kernel
theorem dX5_readText_25 : decode cX5_readText 25 = .ok (.invokevirtual 46, 3) := by decide +kernel
theorem tw_658 : (.code yX2_begin cX2_begin 1 none : Cond) ∈ tw_W := tw_in (t8_3 (List.mem_of_getElem? (i := 102) rfl)) rfl
theorem tw_659 : ∀ w ∈ ([.methodLink RX5 46 yX2_begin, .instanceMethod yX2_begin, .selects RX2 yX2_begin yX2_begin, .initialized RX2] : List Cond), w ∈ tw_W := al_c (tw_in (t8_3 (List.mem_of_getElem? (i := 99) rfl)) rfl) (al_c (tw_in (t8_3 (List.mem_of_getElem? (i := 100) rfl)) rfl) (al_c (tw_in (t8_3 (List.mem_of_getElem? (i := 101) rfl)) rfl) (al_c (tw_in (t8_1 (List.mem_of_getElem? (i := 12) rfl)) rfl) al_n)))
theorem dX5_readText_28 : decode cX5_readText 28 = .ok (.iconst 0, 1) := by decide +kernel
theorem dX5_readText_29 : decode cX5_readText 29 = .ok (.istore_n 2, 1) := by decide +kernel
theorem dX5_readText_30 : decode cX5_readText 30 = .ok (.iload_n 2, 1) := by decide +kernel
theorem dX5_readText_31 : decode cX5_readText 31 = .ok (.sipush 1500, 3) := by decide +kernel
theorem dX5_readText_34 : decode cX5_readText 34 = .ok (.if_icmp .ge 42, 3) := by decide +kernel
theorem dX5_readText_76 : decode cX5_readText 76 = .ok (.aload_n 0, 1) := by decide +kernel
theorem dX5_readText_77 : decode cX5_readText 77 = .ok (.invokevirtual 62, 3) := by decide +kernel
theorem tw_660 : (.code yX5_checkCalls cX5_checkCalls 2 none : Cond) ∈ tw_W := tw_in (t8_5 (List.mem_of_getElem? (i := 1) rfl)) rfl
theorem tw_661 : ∀ w ∈ ([.methodLink RX5 62 yX5_checkCalls, .instanceMethod yX5_checkCalls, .selects RX5 yX5_checkCalls yX5_checkCalls, .initialized RX5] : List Cond), w ∈ tw_W := al_c (tw_in (t8_4 (List.mem_of_getElem? (i := 238) rfl)) rfl) (al_c (tw_in (t8_5 (List.mem_of_getElem? (i := 0) rfl)) rfl) (al_c (tw_in (t7_3 (q := (yX5_checkCalls, 7)) (List.mem_of_getElem? (i := 15) rfl)) rfl) (al_c (tw_in (t8_1 (List.mem_of_getElem? (i := 9) rfl)) rfl) al_n)))
theorem dX5_readText_80 : decode cX5_readText 80 = .ok (.aload_n 0, 1) := by decide +kernel
theorem dX5_readText_81 : decode cX5_readText 81 = .ok (.getfield 27, 3) := by decide +kernel
theorem dX5_readText_84 : decode cX5_readText 84 = .ok (.invokevirtual 65, 3) := by decide +kernel
theorem tw_662 : (.code yX1_link cX1_link 4 none : Cond) ∈ tw_W := tw_in (t8_5 (List.mem_of_getElem? (i := 20) rfl)) rfl
theorem tw_663 : ∀ w ∈ ([.methodLink RX5 65 yX1_link, .instanceMethod yX1_link, .selects RX1 yX1_link yX1_link, .initialized RX1] : List Cond), w ∈ tw_W := al_c (tw_in (t8_5 (List.mem_of_getElem? (i := 17) rfl)) rfl) (al_c (tw_in (t8_5 (List.mem_of_getElem? (i := 18) rfl)) rfl) (al_c (tw_in (t8_5 (List.mem_of_getElem? (i := 19) rfl)) rfl) (al_c (tw_in (t8_1 (List.mem_of_getElem? (i := 11) rfl)) rfl) al_n)))
theorem dX5_readText_87 : decode cX5_readText 87 = .ok (.return_, 1) := by decide +kernel
theorem dX5_readText_37 : decode cX5_readText 37 = .ok (.aload_n 0, 1) := by decide +kernel
theorem dX5_readText_38 : decode cX5_readText 38 = .ok (.getfield 20, 3) := by decide +kernel
theorem dX5_readText_41 : decode cX5_readText 41 = .ok (.invokevirtual 48, 3) := by decide +kernel
theorem dX5_readText_44 : decode cX5_readText 44 = .ok (.ifCond .eq 32, 3) := by decide +kernel
theorem dX5_readText_47 : decode cX5_readText 47 = .ok (.aload_n 0, 1) := by decide +kernel
theorem dX5_readText_48 : decode cX5_readText 48 = .ok (.invokevirtual 52, 3) := by decide +kernel
theorem tw_664 : (.code yX5_headOfItem cX5_headOfItem 2 (some .int) : Cond) ∈ tw_W := tw_in (t8_3 (List.mem_of_getElem? (i := 110) rfl)) rfl
theorem tw_665 : ∀ w ∈ ([.methodLink RX5 52 yX5_headOfItem, .instanceMethod yX5_headOfItem, .selects RX5 yX5_headOfItem yX5_headOfItem, .initialized RX5] : List Cond), w ∈ tw_W := al_c (tw_in (t8_3 (List.mem_of_getElem? (i := 107) rfl)) rfl) (al_c (tw_in (t8_3 (List.mem_of_getElem? (i := 109) rfl)) rfl) (al_c (tw_in (t7_1 (q := (yX5_headOfItem, 7)) (List.mem_of_getElem? (i := 10) rfl)) rfl) (al_c (tw_in (t8_1 (List.mem_of_getElem? (i := 9) rfl)) rfl) al_n)))
theorem dX5_readText_51 : decode cX5_readText 51 = .ok (.istore_n 3, 1) := by decide +kernel
theorem dX5_readText_52 : decode cX5_readText 52 = .ok (.iload_n 3, 1) := by decide +kernel
theorem dX5_readText_53 : decode cX5_readText 53 = .ok (.bipush 30, 2) := by decide +kernel
theorem dX5_readText_55 : decode cX5_readText 55 = .ok (.if_icmp .ne 10, 3) := by decide +kernel
theorem dX5_readText_65 : decode cX5_readText 65 = .ok (.aload_n 0, 1) := by decide +kernel
theorem dX5_readText_66 : decode cX5_readText 66 = .ok (.iload_n 3, 1) := by decide +kernel
theorem dX5_readText_67 : decode cX5_readText 67 = .ok (.invokevirtual 58, 3) := by decide +kernel
theorem tw_666 : (.code yX5_globalItem cX5_globalItem 5 none : Cond) ∈ tw_W := tw_in (t8_4 (List.mem_of_getElem? (i := 229) rfl)) rfl
theorem tw_667 : ∀ w ∈ ([.methodLink RX5 58 yX5_globalItem, .instanceMethod yX5_globalItem, .selects RX5 yX5_globalItem yX5_globalItem, .initialized RX5] : List Cond), w ∈ tw_W := al_c (tw_in (t8_4 (List.mem_of_getElem? (i := 226) rfl)) rfl) (al_c (tw_in (t8_4 (List.mem_of_getElem? (i := 228) rfl)) rfl) (al_c (tw_in (t7_3 (q := (yX5_globalItem, 7)) (List.mem_of_getElem? (i := 13) rfl)) rfl) (al_c (tw_in (t8_1 (List.mem_of_getElem? (i := 9) rfl)) rfl) al_n)))
theorem dX5_readText_70 : decode cX5_readText 70 = .ok (.iinc 2 1, 3) := by decide +kernel
theorem dX5_readText_73 : decode cX5_readText 73 = .ok (.goto (-43), 3) := by decide +kernel
theorem dX5_readText_58 : decode cX5_readText 58 = .ok (.aload_n 0, 1) := by decide +kernel
theorem dX5_readText_59 : decode cX5_readText 59 = .ok (.invokevirtual 55, 3) := by decide +kernel
theorem tw_668 : (.code yX5_functionItem cX5_functionItem 2 none : Cond) ∈ tw_W := tw_in (t8_3 (List.mem_of_getElem? (i := 232) rfl)) rfl
theorem tw_669 : ∀ w ∈ ([.methodLink RX5 55 yX5_functionItem, .instanceMethod yX5_functionItem, .selects RX5 yX5_functionItem yX5_functionItem, .initialized RX5] : List Cond), w ∈ tw_W := al_c (tw_in (t8_3 (List.mem_of_getElem? (i := 229) rfl)) rfl) (al_c (tw_in (t8_3 (List.mem_of_getElem? (i := 231) rfl)) rfl) (al_c (tw_in (t7_1 (q := (yX5_functionItem, 7)) (List.mem_of_getElem? (i := 13) rfl)) rfl) (al_c (tw_in (t8_1 (List.mem_of_getElem? (i := 9) rfl)) rfl) al_n)))
theorem dX5_readText_62 : decode cX5_readText 62 = .ok (.goto 8, 3) := by decide +kernel
theorem om_2d031ae8ef {n0 : Nat} : 0 + 1 ≤ 8 * n0 + 40 := by omega
theorem om_4cc6770fd9 {n0 : Nat} : 8 + (1 + 11) + 0 ≤ 28 * (8 * n0 + 40) := by omega
theorem om_9fc99d7902 {n0 : Nat} : (8 * n0 + 21) + 1 ≤ 8 * n0 + 40 := by omega
theorem om_f0b4200236 {n0 : Nat} : 8 + (3 + 11) + 28 * (8 * n0 + 21) ≤ 28 * (8 * n0 + 40) := by omega
theorem om_dd0431829d {n0 : Nat} : (8 * n0 + 35) + 1 ≤ 8 * n0 + 40 := by omega
theorem om_cfe676da40 {n0 : Nat} : 8 + (3 + 11) + 28 * (8 * n0 + 35) ≤ 28 * (8 * n0 + 40) := by omega
theorem om_38ba114efc {n0 : Nat} : (8 * n0 + 20) + 1 ≤ 8 * n0 + 40 := by omega
theorem om_237ccf37c6 {n0 : Nat} : 8 + (5 + 11) + 28 * (8 * n0 + 20) ≤ 28 * (8 * n0 + 40) := by omega
theorem om_a597943b8d {n0 : Nat} : 7 + 1 ≤ 8 * n0 + 40 := by omega
theorem om_10b26f883e {n0 : Nat} : 8 + (2 + 11) + 104 ≤ 28 * (8 * n0 + 40) := by omega
theorem om_bd1844e5b5 {n0 : Nat} : 8 + (4 + 11) + 28 * (8 * n0 + 35) ≤ 28 * (8 * n0 + 40) := by omega
theorem om_ee2269ad2b {n0 : Nat} : 8 + 1 ≤ 8 * n0 + 40 := by omega
theorem om_90704ba8db {n0 : Nat} : 8 + (3 + 11) + 125 ≤ 28 * (8 * n0 + 40) := by omega
theorem om_1e45d8a2f4 {n0 : Nat} : 8 + (1 + 11) + 28 * (8 * n0 + 21) ≤ 28 * (8 * n0 + 40) := by omega
theorem om_89c91d5fe4 {n0 : Nat} : 8 + (1 + 11) + 104 ≤ 28 * (8 * n0 + 40) := by omega
theorem om_fd720c34e2 {n0 : Nat} : (8 * n0 + 14) + 1 ≤ 8 * n0 + 40 := by omega
theorem om_1b75e7ec53 {n0 : Nat} : 8 + (1 + 11) + 28 * (8 * n0 + 14) ≤ 28 * (8 * n0 + 40) := by omega
theorem om_c4c73bc6ca {n0 : Nat} : 8 + (5 + 11) + 0 ≤ 28 * (8 * n0 + 40) := by omega
set_option maxHeartbeats 16000000 in
set_option maxRecDepth 100000 in
theorem c_x_X5_stat (l : Launch) (n : Nat) (ihS : ∀ m, n = m + 1 → Cq_stat l m) (dC : Nat → ClassId) (dI : Nat → Nat → Nat) (cI cB cZ cJ cR : ClassId) (tb : Nat → Nat) (sz : Nat) (ad : Nat → Nat) (pr : Int32 → Nat) (N : Nat) (L1 L2 : List Nat) (v : MS) (ps : Int32) (z304 : 0 ≤ (v.1 0 304).toInt ∧ (v.1 0 304).toInt ≤ 1503) (z306 : 0 ≤ (v.1 0 306).toInt ∧ (v.1 0 306).toInt ≤ 40) (z312 : 0 ≤ (v.1 0 312).toInt ∧ (v.1 0 312).toInt ≤ 500) (z321 : 0 ≤ (v.1 0 321).toInt ∧ (v.1 0 321).toInt ≤ 501) (z326 : 0 ≤ (v.1 0 326).toInt ∧ (v.1 0 326).toInt ≤ 420) (z373 : 0 ≤ (v.1 0 373).toInt ∧ (v.1 0 373).toInt ≤ 4000) (z381 : 0 ≤ (v.1 0 381).toInt ∧ (v.1 0 381).toInt ≤ 3008) (hL1 : L1.length = 40) (hL2 : L2.length = 60) (rp : RP v) (hps : pr ps = ad 908) (es300 : (v.1 0 300) = ps) (es310 : (v.1 0 310) = ps) (hst : l.stackTraces = false) (zn : 40 ≤ (v.1 0 306).toInt + (n : Int)) : vx_Met l yX5_stat (Cond.code yX5_stat cX5_stat 1 none :: tw_W) ({ frames := 8 * n + 40, cells := 1, slots := 6, locals := 28 * (8 * n + 40) }) (pc_ (dC, dI) (tyS cI cB cZ cJ cR) tb (cW ad pr N cI cR L1 L2 v) sz [.ref (ad 903)]) (qvz_ (dC, dI) (cW ad pr N cI cR L1 L2 v) sz (fun (u : MS) => FC [305, 306, 307, 312, 313, 314, 315, 317, 321, 326, 331, 332, 381] [0, 311, 316, 318, 319, 320, 324, 325, 378, 379, 380] v u ∧ (0 ≤ (u.1 0 306).toInt ∧ (u.1 0 306).toInt ≤ 40) ∧ (0 ≤ (u.1 0 312).toInt ∧ (u.1 0 312).toInt ≤ 500) ∧ (0 ≤ (u.1 0 321).toInt ∧ (u.1 0 321).toInt ≤ 501) ∧ (0 ≤ (u.1 0 326).toInt ∧ (u.1 0 326).toInt ≤ 420) ∧ (0 ≤ (u.1 0 381).toInt ∧ (u.1 0 381).toInt ≤ 3008) ∧ ((u.1 0 306).toInt = (v.1 0 306).toInt)) (fun (u : MS) => (cW ad pr N cI cR L1 L2 u))) (qxc (dC, dI) (cW ad pr N cI cR L1 L2 v) sz (fun (u : MS) => (cW ad pr N cI cR L1 L2 u)) (fun (u : MS) => FC xfl xal v u ∧ (u.1 0 308).toInt ≠ 0)) 1 6 (va_A (cW ad pr N cI cR L1 L2 v) sz) := by
  refine vx_ofW (cc := cX5_stat) (maxL := 1) (ret := none) (by decide) rfl ?_
  intro p e s m args below meth c s₁ B hml hnt hv
  obtain ⟨rfl, hsz, hP, hKK, hD0, hFx⟩ := hv
  have hK := hKK.1
  have hx := B.exec
  have hb := B.bytes
  have hr := B.returns
  have ht : ∀ w ∈ tw_W, w.before _ s = true := fun w h => atoms_spec (ws := Cond.code yX5_stat cX5_stat 1 none :: tw_W) B.pre w (List.mem_cons_of_mem _ h)
  have hown : s.vm.findClass RX5 = some m.cls := findClass_of_methodNamed B.named
  have hlocks := B.notSynchronized
  subst hsz
  unfold qvz_ qxc
  have hD := hD0.self (sz := s.heap.size)
  generalize hAe : va_A (cW ad pr N cI cR L1 L2 v) s.heap.size = A at hD hFx ⊢
  have hA : ∀ q : Nat, s.heap.size ≤ q → A q := fun q h => by rw [← hAe]; exact Or.inr h
  have hS : va_S A s.heap s.heap [] := va_S.rf
  have hl := lv_entry ([.ref (ad 903)]) (n := 1) (Nat.le_of_ble_eq_true rfl)
  rw [lg_entry_eq]
  generalize (lg_sl ([.ref (ad 903)]) ++ List.replicate (1 - (lg_sl ([.ref (ad 903)])).length) Slot.unset).toArray = ls at hl ⊢
  have hl : lv_has ls 1 [(0, .ref (ad 903))] := hl
  refine lv_aload_n hx hb dX5_stat_0 rfl (lv_at hl 0 rfl) ?_
  refine va_get (D := (dC, dI)) (ci := 8) (fs := oF_X5 ad pr v) (v := .ref (ad 900)) (C := RX5) (T := TX5) (N := 7) hx hb ht itX5 hown hK hP 3 rfl rfl 1 (by decide) (ht _ tw_571) (fun _ h9 => h9) rfl dX5_stat_1 ?_
  refine cu_i (rn_Vk (n := 0) (As := []) (rest := []) hx hb hml hown ht hKK hFx hP hD hS hA (c_x_X9_kind l dC dI cI cB cZ cJ cR tb s.heap.size ad pr N L1 L2 v  (show 0 ≤ (v.1 0 304).toInt ∧ (v.1 0 304).toInt ≤ 1503 from (om_c99648273b z304))) tw_455 tw_594 (by decide +kernel) rfl rfl ⟨show 0 + 1 ≤ 8 * n + 40 from om_2d031ae8ef, show 8 + (1 + 11) + 0 ≤ 28 * (8 * n + 40) from om_4cc6770fd9⟩ (List.range (cW ad pr N cI cR L1 L2 v).length) (rg_map _) (nd_range _) 0 rfl rfl rfl rfl hl.1 rfl (Nat.le_of_ble_eq_true rfl) dX5_stat_4 ⟨Nat.le_of_ble_eq_true rfl, Nat.le_of_ble_eq_true rfl⟩) hP hD hS hA (fun r3 u2 H locs hw1 hP hD hS => ?_)
  obtain rfl := hw1
  refine W.widen (k := 0) (n := 0) (Nat.le_refl _) (Nat.le_refl _) ?_
  by_cases h4 : r3 = 10
  · refine lv_tableIn (off := 128) (tgt := 135) hx hb dX5_stat_7 (by rw [h4]; decide) (by rw [h4]; decide) (by rw [h4]; decide) (by decide) ?_
    refine lv_aload_n hx hb dX5_stat_135 rfl (lv_at hl 0 rfl) ?_
    refine W.sz (fun hz9 => ?_)
    refine czx_v (rx_Vk (n := 0) (As := []) (rest := []) hx hb hml hown ht hKK hFx hP hD hS hA (c_x_X5_local l n dC dI cI cB cZ cJ cR tb H.size ad pr N L1 L2 v ps (show 0 ≤ (v.1 0 304).toInt ∧ (v.1 0 304).toInt ≤ 1503 from (om_c99648273b z304)) (show 0 ≤ (v.1 0 306).toInt ∧ (v.1 0 306).toInt ≤ 40 from (om_7eaf33e007 z306)) (show 0 ≤ (v.1 0 312).toInt ∧ (v.1 0 312).toInt ≤ 500 from (om_9861e69da5 z312)) (show 0 ≤ (v.1 0 321).toInt ∧ (v.1 0 321).toInt ≤ 501 from (om_e1d35f5faf z321)) (show 0 ≤ (v.1 0 326).toInt ∧ (v.1 0 326).toInt ≤ 420 from (om_839d7ed7dd z326)) (show 0 ≤ (v.1 0 373).toInt ∧ (v.1 0 373).toInt ≤ 4000 from (om_c74a68af25 z373)) (show 0 ≤ (v.1 0 381).toInt ∧ (v.1 0 381).toInt ≤ 3008 from (om_e78eec72e1 z381)) (show L1.length = 40 from hL1) (show L2.length = 60 from hL2) (show RP v from rp) (show pr ps = ad 908 from hps) (show (v.1 0 300) = ps from es300) (show (v.1 0 310) = ps from es310) (show l.stackTraces = false from hst) (show 40 ≤ (v.1 0 306).toInt + (n : Int) from (om_a9150ae9b6 zn))) tw_632 tw_633 (by decide +kernel) rfl rfl ⟨show (8 * n + 21) + 1 ≤ 8 * n + 40 from om_9fc99d7902, show 8 + (3 + 11) + 28 * (8 * n + 21) ≤ 28 * (8 * n + 40) from om_f0b4200236⟩ (List.range (cW ad pr N cI cR L1 L2 v).length) (rg_map _) (nd_range _) 3 rfl rfl rfl rfl hl.1 rfl (Nat.le_of_ble_eq_true rfl) dX5_stat_136 ⟨Nat.le_of_ble_eq_true rfl, Nat.le_of_ble_eq_true rfl⟩) hP hD hS hA (fun u9 ce9 q9 H locs hx9 hP hD hS hc9 hv9 hf9 => ?_) (fun u6 H locs hw5 hP hD hS hz8 => ?_)
    · exact vx_out (fun x h9 => (hnt x h9).elim) hlocks hc9 hv9 hf9 (fun t9 ht9 hv8 => ⟨u9, ⟨FC.tr (FC.rf _) hx9.1, hx9.2⟩, ⟨rfl, by rw [ht9]; exact hP, hD⟩, hS.F ht9⟩) hS.2.2 (Nat.le_refl _) (Nat.le_refl _)
    refine W.shrink (hz8.trans hz9) ?_
    obtain ⟨fr5, i3065, i3125, i3215, i3265, i3815, po5⟩ := hw5
    refine lv_goto (tgt := 266) hx hb dX5_stat_139 (by decide) ?_
    refine W.sz (fun hz => ?_)
    refine vx_ret ?_
    refine W.widen (k := 1) (n := 6) (Nat.le_of_ble_eq_true rfl) (Nat.le_of_ble_eq_true rfl) ?_
    exact W.vret hx hb hr (fun t ht9 hW => ⟨⟨u6, rfl, ⟨(FC.tr (FC.rf _) (FC.up fr5 (by decide) (by decide))), (show 0 ≤ (u6.1 0 306).toInt ∧ (u6.1 0 306).toInt ≤ 40 from (om_7eaf33e007 i3065)), (show 0 ≤ (u6.1 0 312).toInt ∧ (u6.1 0 312).toInt ≤ 500 from (om_9861e69da5 i3125)), (show 0 ≤ (u6.1 0 321).toInt ∧ (u6.1 0 321).toInt ≤ 501 from (om_e1d35f5faf i3215)), (show 0 ≤ (u6.1 0 326).toInt ∧ (u6.1 0 326).toInt ≤ 420 from (om_839d7ed7dd i3265)), (show 0 ≤ (u6.1 0 381).toInt ∧ (u6.1 0 381).toInt ≤ 3008 from (om_e78eec72e1 i3815)), (show (u6.1 0 306).toInt = (v.1 0 306).toInt from (om_5049cbdce5 po5))⟩, ⟨by rw [ht9]; exact hP, hD⟩, by rw [ht9]; exact hz⟩, hS.F ht9⟩) hS.2.2 dX5_stat_266
  ·
    by_cases h8 : r3 = 11
    · refine lv_tableIn (off := 135) (tgt := 142) hx hb dX5_stat_7 (by rw [h8]; decide) (by rw [h8]; decide) (by rw [h8]; decide) (by decide) ?_
      refine lv_aload_n hx hb dX5_stat_142 rfl (lv_at hl 0 rfl) ?_
      refine W.sz (fun hz9 => ?_)
      refine czx_v (rx_Vk (n := 0) (As := []) (rest := []) hx hb hml hown ht hKK hFx hP hD hS hA (c_x_X5_ifStat l n ihS dC dI cI cB cZ cJ cR tb H.size ad pr N L1 L2 v ps (show 0 ≤ (v.1 0 304).toInt ∧ (v.1 0 304).toInt ≤ 1503 from (om_c99648273b z304)) (show 0 ≤ (v.1 0 306).toInt ∧ (v.1 0 306).toInt ≤ 40 from (om_7eaf33e007 z306)) (show 0 ≤ (v.1 0 312).toInt ∧ (v.1 0 312).toInt ≤ 500 from (om_9861e69da5 z312)) (show 0 ≤ (v.1 0 321).toInt ∧ (v.1 0 321).toInt ≤ 501 from (om_e1d35f5faf z321)) (show 0 ≤ (v.1 0 326).toInt ∧ (v.1 0 326).toInt ≤ 420 from (om_839d7ed7dd z326)) (show 0 ≤ (v.1 0 373).toInt ∧ (v.1 0 373).toInt ≤ 4000 from (om_c74a68af25 z373)) (show 0 ≤ (v.1 0 381).toInt ∧ (v.1 0 381).toInt ≤ 3008 from (om_e78eec72e1 z381)) (show L1.length = 40 from hL1) (show L2.length = 60 from hL2) (show RP v from rp) (show pr ps = ad 908 from hps) (show (v.1 0 300) = ps from es300) (show (v.1 0 310) = ps from es310) (show l.stackTraces = false from hst) (show 40 ≤ (v.1 0 306).toInt + (n : Int) from (om_a9150ae9b6 zn))) tw_634 tw_635 (by decide +kernel) rfl rfl ⟨show (8 * n + 35) + 1 ≤ 8 * n + 40 from om_dd0431829d, show 8 + (3 + 11) + 28 * (8 * n + 35) ≤ 28 * (8 * n + 40) from om_cfe676da40⟩ (List.range (cW ad pr N cI cR L1 L2 v).length) (rg_map _) (nd_range _) 3 rfl rfl rfl rfl hl.1 rfl (Nat.le_of_ble_eq_true rfl) dX5_stat_143 ⟨Nat.le_of_ble_eq_true rfl, Nat.le_of_ble_eq_true rfl⟩) hP hD hS hA (fun u9 ce9 q9 H locs hx9 hP hD hS hc9 hv9 hf9 => ?_) (fun u10 H locs hw9 hP hD hS hz8 => ?_)
      · exact vx_out (fun x h9 => (hnt x h9).elim) hlocks hc9 hv9 hf9 (fun t9 ht9 hv8 => ⟨u9, ⟨FC.tr (FC.rf _) hx9.1, hx9.2⟩, ⟨rfl, by rw [ht9]; exact hP, hD⟩, hS.F ht9⟩) hS.2.2 (Nat.le_refl _) (Nat.le_refl _)
      refine W.shrink (hz8.trans hz9) ?_
      obtain ⟨fr9, i3069, i3129, i3219, i3269, i3819, po9⟩ := hw9
      refine lv_goto (tgt := 266) hx hb dX5_stat_146 (by decide) ?_
      refine W.sz (fun hz => ?_)
      refine vx_ret ?_
      refine W.widen (k := 1) (n := 6) (Nat.le_of_ble_eq_true rfl) (Nat.le_of_ble_eq_true rfl) ?_
      exact W.vret hx hb hr (fun t ht9 hW => ⟨⟨u10, rfl, ⟨(FC.tr (FC.rf _) (FC.up fr9 (by decide) (by decide))), (show 0 ≤ (u10.1 0 306).toInt ∧ (u10.1 0 306).toInt ≤ 40 from (om_7eaf33e007 i3069)), (show 0 ≤ (u10.1 0 312).toInt ∧ (u10.1 0 312).toInt ≤ 500 from (om_9861e69da5 i3129)), (show 0 ≤ (u10.1 0 321).toInt ∧ (u10.1 0 321).toInt ≤ 501 from (om_e1d35f5faf i3219)), (show 0 ≤ (u10.1 0 326).toInt ∧ (u10.1 0 326).toInt ≤ 420 from (om_839d7ed7dd i3269)), (show 0 ≤ (u10.1 0 381).toInt ∧ (u10.1 0 381).toInt ≤ 3008 from (om_e78eec72e1 i3819)), (show (u10.1 0 306).toInt = (v.1 0 306).toInt from (om_5049cbdce5 po9))⟩, ⟨by rw [ht9]; exact hP, hD⟩, by rw [ht9]; exact hz⟩, hS.F ht9⟩) hS.2.2 dX5_stat_266
    ·
      by_cases h12 : r3 = 12
      · refine lv_tableIn (off := 242) (tgt := 249) hx hb dX5_stat_7 (by rw [h12]; decide) (by rw [h12]; decide) (by rw [h12]; decide) (by decide) ?_
        refine lv_aload_n hx hb dX5_stat_249 rfl (lv_at hl 0 rfl) ?_
        refine va_get (D := (dC, dI)) (ci := 8) (fs := oF_X5 ad pr v) (v := .ref (ad 902)) (C := RX5) (T := TX5) (N := 7) hx hb ht itX5 hown hK hP 3 rfl rfl 3 (by decide) (ht _ tw_608) (fun _ h9 => h9) rfl dX5_stat_250 ?_
        refine lv_iconst (v := 1) hx hb dX5_stat_253 (by decide) ?_
        refine W.sz (fun hz9 => ?_)
        refine czx_v (rx_Vk (n := 1) (As := [.int 1]) (rest := []) hx hb hml hown ht hKK hFx hP hD hS hA ((cq_all l n).1 dC dI cI cB cZ cJ cR tb H.size ad pr N L1 L2 v (1 : Int32) ps (show 0 ≤ (v.1 0 304).toInt ∧ (v.1 0 304).toInt ≤ 1503 from (om_c99648273b z304)) (show 0 ≤ (v.1 0 306).toInt ∧ (v.1 0 306).toInt ≤ 40 from (om_7eaf33e007 z306)) (show 0 ≤ (v.1 0 312).toInt ∧ (v.1 0 312).toInt ≤ 500 from (om_9861e69da5 z312)) (show 0 ≤ (v.1 0 321).toInt ∧ (v.1 0 321).toInt ≤ 501 from (om_e1d35f5faf z321)) (show 0 ≤ (v.1 0 326).toInt ∧ (v.1 0 326).toInt ≤ 420 from (om_839d7ed7dd z326)) (show 0 ≤ (v.1 0 373).toInt ∧ (v.1 0 373).toInt ≤ 4000 from (om_c74a68af25 z373)) (show 0 ≤ (v.1 0 381).toInt ∧ (v.1 0 381).toInt ≤ 3008 from (om_e78eec72e1 z381)) (show L1.length = 40 from hL1) (show L2.length = 60 from hL2) (show RP v from rp) (show pr ps = ad 908 from hps) (show (v.1 0 300) = ps from es300) (show (v.1 0 310) = ps from es310) (show l.stackTraces = false from hst) (show 40 ≤ (v.1 0 306).toInt + (n : Int) from (om_a9150ae9b6 zn))) tw_520 tw_609 (by decide +kernel) rfl rfl ⟨show (8 * n + 20) + 1 ≤ 8 * n + 40 from om_38ba114efc, show 8 + (5 + 11) + 28 * (8 * n + 20) ≤ 28 * (8 * n + 40) from om_237ccf37c6⟩ (List.range (cW ad pr N cI cR L1 L2 v).length) (rg_map _) (nd_range _) 2 rfl rfl rfl rfl hl.1 rfl (Nat.le_of_ble_eq_true rfl) dX5_stat_254 ⟨Nat.le_of_ble_eq_true rfl, Nat.le_of_ble_eq_true rfl⟩) hP hD hS hA (fun u9 ce9 q9 H locs hx9 hP hD hS hc9 hv9 hf9 => ?_) (fun u14 H locs hw13 hP hD hS hz8 => ?_)
        · exact vx_out (fun x h9 => (hnt x h9).elim) hlocks hc9 hv9 hf9 (fun t9 ht9 hv8 => ⟨u9, ⟨FC.tr (FC.rf _) hx9.1, hx9.2⟩, ⟨rfl, by rw [ht9]; exact hP, hD⟩, hS.F ht9⟩) hS.2.2 (Nat.le_refl _) (Nat.le_refl _)
        refine W.shrink (hz8.trans hz9) ?_
        obtain ⟨fr13, i30613, i32113, i32613, i38113, po13⟩ := hw13
        refine lv_aload_n hx hb dX5_stat_257 rfl (lv_at hl 0 rfl) ?_
        refine va_get (D := (dC, dI)) (ci := 8) (fs := oF_X5 ad pr u14) (v := .ref (ad 900)) (C := RX5) (T := TX5) (N := 7) hx hb ht itX5 hown hK hP 3 rfl rfl 1 (by decide) (ht _ tw_571) (fun _ h9 => h9) rfl dX5_stat_258 ?_
        refine lv_bipush (v := 36) hx hb dX5_stat_261 (by decide) ?_
        have q16 : (u14.1 0 304).toInt = (v.1 0 304).toInt := congrArg Int32.toInt ((fr13.2.1 304 (by decide)).trans (show v.1 0 304 = (v.1 0 304) by rfl))
        have q17 : (u14.1 0 373).toInt = (v.1 0 373).toInt := congrArg Int32.toInt ((fr13.2.1 373 (by decide)).trans (show v.1 0 373 = (v.1 0 373) by rfl))
        refine W.sz (fun hz9 => ?_)
        refine czx_v (rx_Vk (n := 1) (As := [.int 36]) (rest := []) hx hb hml hown ht hKK hFx hP hD hS hA (c_x_X9_expect l dC dI cI cB cZ cJ cR tb H.size ad pr N L1 L2 u14 (36 : Int32) ps (show 0 ≤ (u14.1 0 304).toInt ∧ (u14.1 0 304).toInt ≤ 1503 from (om_73002589c1 z304 q16)) (show 0 ≤ (u14.1 0 373).toInt ∧ (u14.1 0 373).toInt ≤ 4000 from (om_9084c127ed z373 q17)) (show pr ps = ad 908 from hps) (show (u14.1 0 300) = ps from (Eq.trans (fr13.2.1 300 (by decide)) es300)) (show l.stackTraces = false from hst)) tw_526 tw_580 (by decide +kernel) rfl rfl ⟨show 7 + 1 ≤ 8 * n + 40 from om_a597943b8d, show 8 + (2 + 11) + 104 ≤ 28 * (8 * n + 40) from om_10b26f883e⟩ (List.range (cW ad pr N cI cR L1 L2 u14).length) (rg_map _) (nd_range _) 0 rfl rfl rfl rfl hl.1 rfl (Nat.le_of_ble_eq_true rfl) dX5_stat_263 ⟨Nat.le_of_ble_eq_true rfl, Nat.le_of_ble_eq_true rfl⟩) hP hD hS hA (fun u9 ce9 q9 H locs hx9 hP hD hS hc9 hv9 hf9 => ?_) (fun u19 H locs hw18 hP hD hS hz8 => ?_)
        · exact vx_out (fun x h9 => (hnt x h9).elim) hlocks hc9 hv9 hf9 (fun t9 ht9 hv8 => ⟨u9, ⟨FC.tr (FC.tr (FC.rf _) (FC.up fr13 (by decide) (by decide))) hx9.1, hx9.2⟩, ⟨rfl, by rw [ht9]; exact hP, hD⟩, hS.F ht9⟩) hS.2.2 (Nat.le_refl _) (Nat.le_refl _)
        refine W.shrink (hz8.trans hz9) ?_
        have fr18 := hw18
        have q21 : (u19.1 0 306).toInt = (u14.1 0 306).toInt := congrArg Int32.toInt ((fr18.2.1 306 (by decide)).trans (show u14.1 0 306 = (u14.1 0 306) by rfl))
        have q22 : (u14.1 0 312).toInt = (v.1 0 312).toInt := congrArg Int32.toInt ((fr13.2.1 312 (by decide)).trans (show v.1 0 312 = (v.1 0 312) by rfl))
        have q23 : (u19.1 0 312).toInt = (u14.1 0 312).toInt := congrArg Int32.toInt ((fr18.2.1 312 (by decide)).trans (show u14.1 0 312 = (u14.1 0 312) by rfl))
        have q24 : (u19.1 0 321).toInt = (u14.1 0 321).toInt := congrArg Int32.toInt ((fr18.2.1 321 (by decide)).trans (show u14.1 0 321 = (u14.1 0 321) by rfl))
        have q25 : (u19.1 0 326).toInt = (u14.1 0 326).toInt := congrArg Int32.toInt ((fr18.2.1 326 (by decide)).trans (show u14.1 0 326 = (u14.1 0 326) by rfl))
        have q26 : (u19.1 0 381).toInt = (u14.1 0 381).toInt := congrArg Int32.toInt ((fr18.2.1 381 (by decide)).trans (show u14.1 0 381 = (u14.1 0 381) by rfl))
        refine W.sz (fun hz => ?_)
        refine vx_ret ?_
        refine W.widen (k := 1) (n := 6) (Nat.le_of_ble_eq_true rfl) (Nat.le_of_ble_eq_true rfl) ?_
        exact W.vret hx hb hr (fun t ht9 hW => ⟨⟨u19, rfl, ⟨(FC.tr (FC.tr (FC.rf _) (FC.up fr13 (by decide) (by decide))) (FC.up fr18 (by decide) (by decide))), (show 0 ≤ (u19.1 0 306).toInt ∧ (u19.1 0 306).toInt ≤ 40 from (om_99e115f631 i30613 q21)), (show 0 ≤ (u19.1 0 312).toInt ∧ (u19.1 0 312).toInt ≤ 500 from (om_8a5975ec21 z312 q22 q23)), (show 0 ≤ (u19.1 0 321).toInt ∧ (u19.1 0 321).toInt ≤ 501 from (om_ff27494c0e i32113 q24)), (show 0 ≤ (u19.1 0 326).toInt ∧ (u19.1 0 326).toInt ≤ 420 from (om_8ed0dedb19 i32613 q25)), (show 0 ≤ (u19.1 0 381).toInt ∧ (u19.1 0 381).toInt ≤ 3008 from (om_6e4eb11ad3 i38113 q26)), (show (u19.1 0 306).toInt = (v.1 0 306).toInt from (om_837b7bd001 po13 q21))⟩, ⟨by rw [ht9]; exact hP, hD⟩, by rw [ht9]; exact hz⟩, hS.F ht9⟩) hS.2.2 dX5_stat_266
      ·
        by_cases h27 : r3 = 13
        · refine lv_tableIn (off := 142) (tgt := 149) hx hb dX5_stat_7 (by rw [h27]; decide) (by rw [h27]; decide) (by rw [h27]; decide) (by decide) ?_
          refine lv_aload_n hx hb dX5_stat_149 rfl (lv_at hl 0 rfl) ?_
          refine lv_bipush (v := 13) hx hb dX5_stat_150 (by decide) ?_
          refine W.sz (fun hz9 => ?_)
          refine czx_v (rx_Vk (n := 1) (As := [.int 13]) (rest := []) hx hb hml hown ht hKK hFx hP hD hS hA (c_x_X5_loopStat l n ihS dC dI cI cB cZ cJ cR tb H.size ad pr N L1 L2 v (13 : Int32) ps (show 0 ≤ (v.1 0 304).toInt ∧ (v.1 0 304).toInt ≤ 1503 from (om_c99648273b z304)) (show 0 ≤ (v.1 0 306).toInt ∧ (v.1 0 306).toInt ≤ 40 from (om_7eaf33e007 z306)) (show 0 ≤ (v.1 0 312).toInt ∧ (v.1 0 312).toInt ≤ 500 from (om_9861e69da5 z312)) (show 0 ≤ (v.1 0 321).toInt ∧ (v.1 0 321).toInt ≤ 501 from (om_e1d35f5faf z321)) (show 0 ≤ (v.1 0 326).toInt ∧ (v.1 0 326).toInt ≤ 420 from (om_839d7ed7dd z326)) (show 0 ≤ (v.1 0 373).toInt ∧ (v.1 0 373).toInt ≤ 4000 from (om_c74a68af25 z373)) (show 0 ≤ (v.1 0 381).toInt ∧ (v.1 0 381).toInt ≤ 3008 from (om_e78eec72e1 z381)) (show L1.length = 40 from hL1) (show L2.length = 60 from hL2) (show RP v from rp) (show pr ps = ad 908 from hps) (show (v.1 0 300) = ps from es300) (show (v.1 0 310) = ps from es310) (show l.stackTraces = false from hst) (show 40 ≤ (v.1 0 306).toInt + (n : Int) from (om_a9150ae9b6 zn))) tw_636 tw_637 (by decide +kernel) rfl rfl ⟨show (8 * n + 35) + 1 ≤ 8 * n + 40 from om_dd0431829d, show 8 + (4 + 11) + 28 * (8 * n + 35) ≤ 28 * (8 * n + 40) from om_bd1844e5b5⟩ (List.range (cW ad pr N cI cR L1 L2 v).length) (rg_map _) (nd_range _) 3 rfl rfl rfl rfl hl.1 rfl (Nat.le_of_ble_eq_true rfl) dX5_stat_152 ⟨Nat.le_of_ble_eq_true rfl, Nat.le_of_ble_eq_true rfl⟩) hP hD hS hA (fun u9 ce9 q9 H locs hx9 hP hD hS hc9 hv9 hf9 => ?_) (fun u29 H locs hw28 hP hD hS hz8 => ?_)
          · exact vx_out (fun x h9 => (hnt x h9).elim) hlocks hc9 hv9 hf9 (fun t9 ht9 hv8 => ⟨u9, ⟨FC.tr (FC.rf _) hx9.1, hx9.2⟩, ⟨rfl, by rw [ht9]; exact hP, hD⟩, hS.F ht9⟩) hS.2.2 (Nat.le_refl _) (Nat.le_refl _)
          refine W.shrink (hz8.trans hz9) ?_
          obtain ⟨fr28, i30628, i31228, i32128, i32628, i38128, po28⟩ := hw28
          refine lv_goto (tgt := 266) hx hb dX5_stat_155 (by decide) ?_
          refine W.sz (fun hz => ?_)
          refine vx_ret ?_
          refine W.widen (k := 1) (n := 6) (Nat.le_of_ble_eq_true rfl) (Nat.le_of_ble_eq_true rfl) ?_
          exact W.vret hx hb hr (fun t ht9 hW => ⟨⟨u29, rfl, ⟨(FC.tr (FC.rf _) (FC.up fr28 (by decide) (by decide))), (show 0 ≤ (u29.1 0 306).toInt ∧ (u29.1 0 306).toInt ≤ 40 from (om_7eaf33e007 i30628)), (show 0 ≤ (u29.1 0 312).toInt ∧ (u29.1 0 312).toInt ≤ 500 from (om_9861e69da5 i31228)), (show 0 ≤ (u29.1 0 321).toInt ∧ (u29.1 0 321).toInt ≤ 501 from (om_e1d35f5faf i32128)), (show 0 ≤ (u29.1 0 326).toInt ∧ (u29.1 0 326).toInt ≤ 420 from (om_839d7ed7dd i32628)), (show 0 ≤ (u29.1 0 381).toInt ∧ (u29.1 0 381).toInt ≤ 3008 from (om_e78eec72e1 i38128)), (show (u29.1 0 306).toInt = (v.1 0 306).toInt from (om_5049cbdce5 po28))⟩, ⟨by rw [ht9]; exact hP, hD⟩, by rw [ht9]; exact hz⟩, hS.F ht9⟩) hS.2.2 dX5_stat_266
        ·
          by_cases h31 : r3 = 14
          · refine lv_tableIn (off := 151) (tgt := 158) hx hb dX5_stat_7 (by rw [h31]; decide) (by rw [h31]; decide) (by rw [h31]; decide) (by decide) ?_
            refine lv_aload_n hx hb dX5_stat_158 rfl (lv_at hl 0 rfl) ?_
            refine lv_bipush (v := 14) hx hb dX5_stat_159 (by decide) ?_
            refine W.sz (fun hz9 => ?_)
            refine czx_v (rx_Vk (n := 1) (As := [.int 14]) (rest := []) hx hb hml hown ht hKK hFx hP hD hS hA (c_x_X5_loopStat l n ihS dC dI cI cB cZ cJ cR tb H.size ad pr N L1 L2 v (14 : Int32) ps (show 0 ≤ (v.1 0 304).toInt ∧ (v.1 0 304).toInt ≤ 1503 from (om_c99648273b z304)) (show 0 ≤ (v.1 0 306).toInt ∧ (v.1 0 306).toInt ≤ 40 from (om_7eaf33e007 z306)) (show 0 ≤ (v.1 0 312).toInt ∧ (v.1 0 312).toInt ≤ 500 from (om_9861e69da5 z312)) (show 0 ≤ (v.1 0 321).toInt ∧ (v.1 0 321).toInt ≤ 501 from (om_e1d35f5faf z321)) (show 0 ≤ (v.1 0 326).toInt ∧ (v.1 0 326).toInt ≤ 420 from (om_839d7ed7dd z326)) (show 0 ≤ (v.1 0 373).toInt ∧ (v.1 0 373).toInt ≤ 4000 from (om_c74a68af25 z373)) (show 0 ≤ (v.1 0 381).toInt ∧ (v.1 0 381).toInt ≤ 3008 from (om_e78eec72e1 z381)) (show L1.length = 40 from hL1) (show L2.length = 60 from hL2) (show RP v from rp) (show pr ps = ad 908 from hps) (show (v.1 0 300) = ps from es300) (show (v.1 0 310) = ps from es310) (show l.stackTraces = false from hst) (show 40 ≤ (v.1 0 306).toInt + (n : Int) from (om_a9150ae9b6 zn))) tw_636 tw_637 (by decide +kernel) rfl rfl ⟨show (8 * n + 35) + 1 ≤ 8 * n + 40 from om_dd0431829d, show 8 + (4 + 11) + 28 * (8 * n + 35) ≤ 28 * (8 * n + 40) from om_bd1844e5b5⟩ (List.range (cW ad pr N cI cR L1 L2 v).length) (rg_map _) (nd_range _) 3 rfl rfl rfl rfl hl.1 rfl (Nat.le_of_ble_eq_true rfl) dX5_stat_161 ⟨Nat.le_of_ble_eq_true rfl, Nat.le_of_ble_eq_true rfl⟩) hP hD hS hA (fun u9 ce9 q9 H locs hx9 hP hD hS hc9 hv9 hf9 => ?_) (fun u33 H locs hw32 hP hD hS hz8 => ?_)
            · exact vx_out (fun x h9 => (hnt x h9).elim) hlocks hc9 hv9 hf9 (fun t9 ht9 hv8 => ⟨u9, ⟨FC.tr (FC.rf _) hx9.1, hx9.2⟩, ⟨rfl, by rw [ht9]; exact hP, hD⟩, hS.F ht9⟩) hS.2.2 (Nat.le_refl _) (Nat.le_refl _)
            refine W.shrink (hz8.trans hz9) ?_
            obtain ⟨fr32, i30632, i31232, i32132, i32632, i38132, po32⟩ := hw32
            refine lv_goto (tgt := 266) hx hb dX5_stat_164 (by decide) ?_
            refine W.sz (fun hz => ?_)
            refine vx_ret ?_
            refine W.widen (k := 1) (n := 6) (Nat.le_of_ble_eq_true rfl) (Nat.le_of_ble_eq_true rfl) ?_
            exact W.vret hx hb hr (fun t ht9 hW => ⟨⟨u33, rfl, ⟨(FC.tr (FC.rf _) (FC.up fr32 (by decide) (by decide))), (show 0 ≤ (u33.1 0 306).toInt ∧ (u33.1 0 306).toInt ≤ 40 from (om_7eaf33e007 i30632)), (show 0 ≤ (u33.1 0 312).toInt ∧ (u33.1 0 312).toInt ≤ 500 from (om_9861e69da5 i31232)), (show 0 ≤ (u33.1 0 321).toInt ∧ (u33.1 0 321).toInt ≤ 501 from (om_e1d35f5faf i32132)), (show 0 ≤ (u33.1 0 326).toInt ∧ (u33.1 0 326).toInt ≤ 420 from (om_839d7ed7dd i32632)), (show 0 ≤ (u33.1 0 381).toInt ∧ (u33.1 0 381).toInt ≤ 3008 from (om_e78eec72e1 i38132)), (show (u33.1 0 306).toInt = (v.1 0 306).toInt from (om_5049cbdce5 po32))⟩, ⟨by rw [ht9]; exact hP, hD⟩, by rw [ht9]; exact hz⟩, hS.F ht9⟩) hS.2.2 dX5_stat_266
          ·
            by_cases h35 : r3 = 15
            · refine lv_tableIn (off := 160) (tgt := 167) hx hb dX5_stat_7 (by rw [h35]; decide) (by rw [h35]; decide) (by rw [h35]; decide) (by decide) ?_
              refine lv_aload_n hx hb dX5_stat_167 rfl (lv_at hl 0 rfl) ?_
              refine lv_bipush (v := 15) hx hb dX5_stat_168 (by decide) ?_
              refine W.sz (fun hz9 => ?_)
              refine czx_v (rx_Vk (n := 1) (As := [.int 15]) (rest := []) hx hb hml hown ht hKK hFx hP hD hS hA (c_x_X5_loopStat l n ihS dC dI cI cB cZ cJ cR tb H.size ad pr N L1 L2 v (15 : Int32) ps (show 0 ≤ (v.1 0 304).toInt ∧ (v.1 0 304).toInt ≤ 1503 from (om_c99648273b z304)) (show 0 ≤ (v.1 0 306).toInt ∧ (v.1 0 306).toInt ≤ 40 from (om_7eaf33e007 z306)) (show 0 ≤ (v.1 0 312).toInt ∧ (v.1 0 312).toInt ≤ 500 from (om_9861e69da5 z312)) (show 0 ≤ (v.1 0 321).toInt ∧ (v.1 0 321).toInt ≤ 501 from (om_e1d35f5faf z321)) (show 0 ≤ (v.1 0 326).toInt ∧ (v.1 0 326).toInt ≤ 420 from (om_839d7ed7dd z326)) (show 0 ≤ (v.1 0 373).toInt ∧ (v.1 0 373).toInt ≤ 4000 from (om_c74a68af25 z373)) (show 0 ≤ (v.1 0 381).toInt ∧ (v.1 0 381).toInt ≤ 3008 from (om_e78eec72e1 z381)) (show L1.length = 40 from hL1) (show L2.length = 60 from hL2) (show RP v from rp) (show pr ps = ad 908 from hps) (show (v.1 0 300) = ps from es300) (show (v.1 0 310) = ps from es310) (show l.stackTraces = false from hst) (show 40 ≤ (v.1 0 306).toInt + (n : Int) from (om_a9150ae9b6 zn))) tw_636 tw_637 (by decide +kernel) rfl rfl ⟨show (8 * n + 35) + 1 ≤ 8 * n + 40 from om_dd0431829d, show 8 + (4 + 11) + 28 * (8 * n + 35) ≤ 28 * (8 * n + 40) from om_bd1844e5b5⟩ (List.range (cW ad pr N cI cR L1 L2 v).length) (rg_map _) (nd_range _) 3 rfl rfl rfl rfl hl.1 rfl (Nat.le_of_ble_eq_true rfl) dX5_stat_170 ⟨Nat.le_of_ble_eq_true rfl, Nat.le_of_ble_eq_true rfl⟩) hP hD hS hA (fun u9 ce9 q9 H locs hx9 hP hD hS hc9 hv9 hf9 => ?_) (fun u37 H locs hw36 hP hD hS hz8 => ?_)
              · exact vx_out (fun x h9 => (hnt x h9).elim) hlocks hc9 hv9 hf9 (fun t9 ht9 hv8 => ⟨u9, ⟨FC.tr (FC.rf _) hx9.1, hx9.2⟩, ⟨rfl, by rw [ht9]; exact hP, hD⟩, hS.F ht9⟩) hS.2.2 (Nat.le_refl _) (Nat.le_refl _)
              refine W.shrink (hz8.trans hz9) ?_
              obtain ⟨fr36, i30636, i31236, i32136, i32636, i38136, po36⟩ := hw36
              refine lv_goto (tgt := 266) hx hb dX5_stat_173 (by decide) ?_
              refine W.sz (fun hz => ?_)
              refine vx_ret ?_
              refine W.widen (k := 1) (n := 6) (Nat.le_of_ble_eq_true rfl) (Nat.le_of_ble_eq_true rfl) ?_
              exact W.vret hx hb hr (fun t ht9 hW => ⟨⟨u37, rfl, ⟨(FC.tr (FC.rf _) (FC.up fr36 (by decide) (by decide))), (show 0 ≤ (u37.1 0 306).toInt ∧ (u37.1 0 306).toInt ≤ 40 from (om_7eaf33e007 i30636)), (show 0 ≤ (u37.1 0 312).toInt ∧ (u37.1 0 312).toInt ≤ 500 from (om_9861e69da5 i31236)), (show 0 ≤ (u37.1 0 321).toInt ∧ (u37.1 0 321).toInt ≤ 501 from (om_e1d35f5faf i32136)), (show 0 ≤ (u37.1 0 326).toInt ∧ (u37.1 0 326).toInt ≤ 420 from (om_839d7ed7dd i32636)), (show 0 ≤ (u37.1 0 381).toInt ∧ (u37.1 0 381).toInt ≤ 3008 from (om_e78eec72e1 i38136)), (show (u37.1 0 306).toInt = (v.1 0 306).toInt from (om_5049cbdce5 po36))⟩, ⟨by rw [ht9]; exact hP, hD⟩, by rw [ht9]; exact hz⟩, hS.F ht9⟩) hS.2.2 dX5_stat_266
            ·
              by_cases h39 : r3 = 16
              · refine lv_tableIn (off := 169) (tgt := 176) hx hb dX5_stat_7 (by rw [h39]; decide) (by rw [h39]; decide) (by rw [h39]; decide) (by decide) ?_
                refine lv_aload_n hx hb dX5_stat_176 rfl (lv_at hl 0 rfl) ?_
                refine lv_aload_n hx hb dX5_stat_177 rfl (lv_at hl 0 rfl) ?_
                refine va_get (D := (dC, dI)) (ci := 8) (fs := oF_X5 ad pr v) (v := .int (v.1 0 331)) (C := RX5) (T := TX5) (N := 7) hx hb ht itX5 hown hK hP 3 rfl rfl 4 (by decide) (ht _ tw_618) (fun _ h9 => h9) rfl dX5_stat_178 ?_
                refine W.sz (fun hz9 => ?_)
                refine czx_v (rx_Vk (n := 1) (As := [.int (v.1 0 331)]) (rest := []) hx hb hml hown ht hKK hFx hP hD hS hA (c_x_X5_jumpStat l dC dI cI cB cZ cJ cR tb H.size ad pr N L1 L2 v (v.1 0 331) ps (show 0 ≤ (v.1 0 304).toInt ∧ (v.1 0 304).toInt ≤ 1503 from (om_c99648273b z304)) (show 0 ≤ (v.1 0 373).toInt ∧ (v.1 0 373).toInt ≤ 4000 from (om_c74a68af25 z373)) (show 0 ≤ (v.1 0 381).toInt ∧ (v.1 0 381).toInt ≤ 3008 from (om_e78eec72e1 z381)) (show pr ps = ad 908 from hps) (show (v.1 0 300) = ps from es300) (show (v.1 0 310) = ps from es310) (show l.stackTraces = false from hst)) tw_638 tw_639 (by decide +kernel) rfl rfl ⟨show 8 + 1 ≤ 8 * n + 40 from om_ee2269ad2b, show 8 + (3 + 11) + 125 ≤ 28 * (8 * n + 40) from om_90704ba8db⟩ (List.range (cW ad pr N cI cR L1 L2 v).length) (rg_map _) (nd_range _) 3 rfl rfl rfl rfl hl.1 rfl (Nat.le_of_ble_eq_true rfl) dX5_stat_181 ⟨Nat.le_of_ble_eq_true rfl, Nat.le_of_ble_eq_true rfl⟩) hP hD hS hA (fun u9 ce9 q9 H locs hx9 hP hD hS hc9 hv9 hf9 => ?_) (fun u41 H locs hw40 hP hD hS hz8 => ?_)
                · exact vx_out (fun x h9 => (hnt x h9).elim) hlocks hc9 hv9 hf9 (fun t9 ht9 hv8 => ⟨u9, ⟨FC.tr (FC.rf _) hx9.1, hx9.2⟩, ⟨rfl, by rw [ht9]; exact hP, hD⟩, hS.F ht9⟩) hS.2.2 (Nat.le_refl _) (Nat.le_refl _)
                refine W.shrink (hz8.trans hz9) ?_
                obtain ⟨fr40, i38140⟩ := hw40
                refine lv_goto (tgt := 266) hx hb dX5_stat_184 (by decide) ?_
                have q43 : (u41.1 0 306).toInt = (v.1 0 306).toInt := congrArg Int32.toInt ((fr40.2.1 306 (by decide)).trans (show v.1 0 306 = (v.1 0 306) by rfl))
                have q44 : (u41.1 0 312).toInt = (v.1 0 312).toInt := congrArg Int32.toInt ((fr40.2.1 312 (by decide)).trans (show v.1 0 312 = (v.1 0 312) by rfl))
                have q45 : (u41.1 0 321).toInt = (v.1 0 321).toInt := congrArg Int32.toInt ((fr40.2.1 321 (by decide)).trans (show v.1 0 321 = (v.1 0 321) by rfl))
                have q46 : (u41.1 0 326).toInt = (v.1 0 326).toInt := congrArg Int32.toInt ((fr40.2.1 326 (by decide)).trans (show v.1 0 326 = (v.1 0 326) by rfl))
                refine W.sz (fun hz => ?_)
                refine vx_ret ?_
                refine W.widen (k := 1) (n := 6) (Nat.le_of_ble_eq_true rfl) (Nat.le_of_ble_eq_true rfl) ?_
                exact W.vret hx hb hr (fun t ht9 hW => ⟨⟨u41, rfl, ⟨(FC.tr (FC.rf _) (FC.up fr40 (by decide) (by decide))), (show 0 ≤ (u41.1 0 306).toInt ∧ (u41.1 0 306).toInt ≤ 40 from (om_99e115f631 z306 q43)), (show 0 ≤ (u41.1 0 312).toInt ∧ (u41.1 0 312).toInt ≤ 500 from (om_f8376ff89c z312 q44)), (show 0 ≤ (u41.1 0 321).toInt ∧ (u41.1 0 321).toInt ≤ 501 from (om_ff27494c0e z321 q45)), (show 0 ≤ (u41.1 0 326).toInt ∧ (u41.1 0 326).toInt ≤ 420 from (om_8ed0dedb19 z326 q46)), (show 0 ≤ (u41.1 0 381).toInt ∧ (u41.1 0 381).toInt ≤ 3008 from (om_e78eec72e1 i38140)), (show (u41.1 0 306).toInt = (v.1 0 306).toInt from (om_5049cbdce5 q43))⟩, ⟨by rw [ht9]; exact hP, hD⟩, by rw [ht9]; exact hz⟩, hS.F ht9⟩) hS.2.2 dX5_stat_266
              ·
                by_cases h47 : r3 = 17
                · refine lv_tableIn (off := 180) (tgt := 187) hx hb dX5_stat_7 (by rw [h47]; decide) (by rw [h47]; decide) (by rw [h47]; decide) (by decide) ?_
                  refine lv_aload_n hx hb dX5_stat_187 rfl (lv_at hl 0 rfl) ?_
                  refine lv_aload_n hx hb dX5_stat_188 rfl (lv_at hl 0 rfl) ?_
                  refine va_get (D := (dC, dI)) (ci := 8) (fs := oF_X5 ad pr v) (v := .int (v.1 0 332)) (C := RX5) (T := TX5) (N := 7) hx hb ht itX5 hown hK hP 3 rfl rfl 5 (by decide) (ht _ tw_614) (fun _ h9 => h9) rfl dX5_stat_189 ?_
                  refine W.sz (fun hz9 => ?_)
                  refine czx_v (rx_Vk (n := 1) (As := [.int (v.1 0 332)]) (rest := []) hx hb hml hown ht hKK hFx hP hD hS hA (c_x_X5_jumpStat l dC dI cI cB cZ cJ cR tb H.size ad pr N L1 L2 v (v.1 0 332) ps (show 0 ≤ (v.1 0 304).toInt ∧ (v.1 0 304).toInt ≤ 1503 from (om_c99648273b z304)) (show 0 ≤ (v.1 0 373).toInt ∧ (v.1 0 373).toInt ≤ 4000 from (om_c74a68af25 z373)) (show 0 ≤ (v.1 0 381).toInt ∧ (v.1 0 381).toInt ≤ 3008 from (om_e78eec72e1 z381)) (show pr ps = ad 908 from hps) (show (v.1 0 300) = ps from es300) (show (v.1 0 310) = ps from es310) (show l.stackTraces = false from hst)) tw_638 tw_639 (by decide +kernel) rfl rfl ⟨show 8 + 1 ≤ 8 * n + 40 from om_ee2269ad2b, show 8 + (3 + 11) + 125 ≤ 28 * (8 * n + 40) from om_90704ba8db⟩ (List.range (cW ad pr N cI cR L1 L2 v).length) (rg_map _) (nd_range _) 3 rfl rfl rfl rfl hl.1 rfl (Nat.le_of_ble_eq_true rfl) dX5_stat_192 ⟨Nat.le_of_ble_eq_true rfl, Nat.le_of_ble_eq_true rfl⟩) hP hD hS hA (fun u9 ce9 q9 H locs hx9 hP hD hS hc9 hv9 hf9 => ?_) (fun u49 H locs hw48 hP hD hS hz8 => ?_)
                  · exact vx_out (fun x h9 => (hnt x h9).elim) hlocks hc9 hv9 hf9 (fun t9 ht9 hv8 => ⟨u9, ⟨FC.tr (FC.rf _) hx9.1, hx9.2⟩, ⟨rfl, by rw [ht9]; exact hP, hD⟩, hS.F ht9⟩) hS.2.2 (Nat.le_refl _) (Nat.le_refl _)
                  refine W.shrink (hz8.trans hz9) ?_
                  obtain ⟨fr48, i38148⟩ := hw48
                  refine lv_goto (tgt := 266) hx hb dX5_stat_195 (by decide) ?_
                  have q51 : (u49.1 0 306).toInt = (v.1 0 306).toInt := congrArg Int32.toInt ((fr48.2.1 306 (by decide)).trans (show v.1 0 306 = (v.1 0 306) by rfl))
                  have q52 : (u49.1 0 312).toInt = (v.1 0 312).toInt := congrArg Int32.toInt ((fr48.2.1 312 (by decide)).trans (show v.1 0 312 = (v.1 0 312) by rfl))
                  have q53 : (u49.1 0 321).toInt = (v.1 0 321).toInt := congrArg Int32.toInt ((fr48.2.1 321 (by decide)).trans (show v.1 0 321 = (v.1 0 321) by rfl))
                  have q54 : (u49.1 0 326).toInt = (v.1 0 326).toInt := congrArg Int32.toInt ((fr48.2.1 326 (by decide)).trans (show v.1 0 326 = (v.1 0 326) by rfl))
                  refine W.sz (fun hz => ?_)
                  refine vx_ret ?_
                  refine W.widen (k := 1) (n := 6) (Nat.le_of_ble_eq_true rfl) (Nat.le_of_ble_eq_true rfl) ?_
                  exact W.vret hx hb hr (fun t ht9 hW => ⟨⟨u49, rfl, ⟨(FC.tr (FC.rf _) (FC.up fr48 (by decide) (by decide))), (show 0 ≤ (u49.1 0 306).toInt ∧ (u49.1 0 306).toInt ≤ 40 from (om_99e115f631 z306 q51)), (show 0 ≤ (u49.1 0 312).toInt ∧ (u49.1 0 312).toInt ≤ 500 from (om_f8376ff89c z312 q52)), (show 0 ≤ (u49.1 0 321).toInt ∧ (u49.1 0 321).toInt ≤ 501 from (om_ff27494c0e z321 q53)), (show 0 ≤ (u49.1 0 326).toInt ∧ (u49.1 0 326).toInt ≤ 420 from (om_8ed0dedb19 z326 q54)), (show 0 ≤ (u49.1 0 381).toInt ∧ (u49.1 0 381).toInt ≤ 3008 from (om_e78eec72e1 i38148)), (show (u49.1 0 306).toInt = (v.1 0 306).toInt from (om_5049cbdce5 q51))⟩, ⟨by rw [ht9]; exact hP, hD⟩, by rw [ht9]; exact hz⟩, hS.F ht9⟩) hS.2.2 dX5_stat_266
                ·
                  by_cases h55 : r3 = 18
                  · refine lv_tableIn (off := 191) (tgt := 198) hx hb dX5_stat_7 (by rw [h55]; decide) (by rw [h55]; decide) (by rw [h55]; decide) (by decide) ?_
                    refine lv_aload_n hx hb dX5_stat_198 rfl (lv_at hl 0 rfl) ?_
                    refine W.sz (fun hz9 => ?_)
                    refine czx_v (rx_Vk (n := 0) (As := []) (rest := []) hx hb hml hown ht hKK hFx hP hD hS hA (c_x_X5_returnStat l n dC dI cI cB cZ cJ cR tb H.size ad pr N L1 L2 v ps (show 0 ≤ (v.1 0 304).toInt ∧ (v.1 0 304).toInt ≤ 1503 from (om_c99648273b z304)) (show 0 ≤ (v.1 0 306).toInt ∧ (v.1 0 306).toInt ≤ 40 from (om_7eaf33e007 z306)) (show 0 ≤ (v.1 0 312).toInt ∧ (v.1 0 312).toInt ≤ 500 from (om_9861e69da5 z312)) (show 0 ≤ (v.1 0 321).toInt ∧ (v.1 0 321).toInt ≤ 501 from (om_e1d35f5faf z321)) (show 0 ≤ (v.1 0 326).toInt ∧ (v.1 0 326).toInt ≤ 420 from (om_839d7ed7dd z326)) (show 0 ≤ (v.1 0 373).toInt ∧ (v.1 0 373).toInt ≤ 4000 from (om_c74a68af25 z373)) (show 0 ≤ (v.1 0 381).toInt ∧ (v.1 0 381).toInt ≤ 3008 from (om_e78eec72e1 z381)) (show L1.length = 40 from hL1) (show L2.length = 60 from hL2) (show RP v from rp) (show pr ps = ad 908 from hps) (show (v.1 0 300) = ps from es300) (show (v.1 0 310) = ps from es310) (show l.stackTraces = false from hst) (show 40 ≤ (v.1 0 306).toInt + (n : Int) from (om_a9150ae9b6 zn))) tw_640 tw_641 (by decide +kernel) rfl rfl ⟨show (8 * n + 21) + 1 ≤ 8 * n + 40 from om_9fc99d7902, show 8 + (1 + 11) + 28 * (8 * n + 21) ≤ 28 * (8 * n + 40) from om_1e45d8a2f4⟩ (List.range (cW ad pr N cI cR L1 L2 v).length) (rg_map _) (nd_range _) 3 rfl rfl rfl rfl hl.1 rfl (Nat.le_of_ble_eq_true rfl) dX5_stat_199 ⟨Nat.le_of_ble_eq_true rfl, Nat.le_of_ble_eq_true rfl⟩) hP hD hS hA (fun u9 ce9 q9 H locs hx9 hP hD hS hc9 hv9 hf9 => ?_) (fun u57 H locs hw56 hP hD hS hz8 => ?_)
                    · exact vx_out (fun x h9 => (hnt x h9).elim) hlocks hc9 hv9 hf9 (fun t9 ht9 hv8 => ⟨u9, ⟨FC.tr (FC.rf _) hx9.1, hx9.2⟩, ⟨rfl, by rw [ht9]; exact hP, hD⟩, hS.F ht9⟩) hS.2.2 (Nat.le_refl _) (Nat.le_refl _)
                    refine W.shrink (hz8.trans hz9) ?_
                    obtain ⟨fr56, i30656, i32156, i32656, i38156, po56⟩ := hw56
                    refine lv_goto (tgt := 266) hx hb dX5_stat_202 (by decide) ?_
                    have q59 : (u57.1 0 312).toInt = (v.1 0 312).toInt := congrArg Int32.toInt ((fr56.2.1 312 (by decide)).trans (show v.1 0 312 = (v.1 0 312) by rfl))
                    refine W.sz (fun hz => ?_)
                    refine vx_ret ?_
                    refine W.widen (k := 1) (n := 6) (Nat.le_of_ble_eq_true rfl) (Nat.le_of_ble_eq_true rfl) ?_
                    exact W.vret hx hb hr (fun t ht9 hW => ⟨⟨u57, rfl, ⟨(FC.tr (FC.rf _) (FC.up fr56 (by decide) (by decide))), (show 0 ≤ (u57.1 0 306).toInt ∧ (u57.1 0 306).toInt ≤ 40 from (om_7eaf33e007 i30656)), (show 0 ≤ (u57.1 0 312).toInt ∧ (u57.1 0 312).toInt ≤ 500 from (om_f8376ff89c z312 q59)), (show 0 ≤ (u57.1 0 321).toInt ∧ (u57.1 0 321).toInt ≤ 501 from (om_e1d35f5faf i32156)), (show 0 ≤ (u57.1 0 326).toInt ∧ (u57.1 0 326).toInt ≤ 420 from (om_839d7ed7dd i32656)), (show 0 ≤ (u57.1 0 381).toInt ∧ (u57.1 0 381).toInt ≤ 3008 from (om_e78eec72e1 i38156)), (show (u57.1 0 306).toInt = (v.1 0 306).toInt from (om_5049cbdce5 po56))⟩, ⟨by rw [ht9]; exact hP, hD⟩, by rw [ht9]; exact hz⟩, hS.F ht9⟩) hS.2.2 dX5_stat_266
                  ·
                    by_cases h60 : r3 = 19
                    · refine lv_tableIn (off := 198) (tgt := 205) hx hb dX5_stat_7 (by rw [h60]; decide) (by rw [h60]; decide) (by rw [h60]; decide) (by decide) ?_
                      refine lv_aload_n hx hb dX5_stat_205 rfl (lv_at hl 0 rfl) ?_
                      refine va_get (D := (dC, dI)) (ci := 8) (fs := oF_X5 ad pr v) (v := .ref (ad 900)) (C := RX5) (T := TX5) (N := 7) hx hb ht itX5 hown hK hP 3 rfl rfl 1 (by decide) (ht _ tw_571) (fun _ h9 => h9) rfl dX5_stat_206 ?_
                      refine W.sz (fun hz9 => ?_)
                      refine czx_v (rx_Vk (n := 0) (As := []) (rest := []) hx hb hml hown ht hKK hFx hP hD hS hA (c_x_X9_take l dC dI cI cB cZ cJ cR tb H.size ad pr N L1 L2 v ps (show 0 ≤ (v.1 0 304).toInt ∧ (v.1 0 304).toInt ≤ 1503 from (om_c99648273b z304)) (show 0 ≤ (v.1 0 373).toInt ∧ (v.1 0 373).toInt ≤ 4000 from (om_c74a68af25 z373)) (show pr ps = ad 908 from hps) (show (v.1 0 300) = ps from es300) (show l.stackTraces = false from hst)) tw_539 tw_585 (by decide +kernel) rfl rfl ⟨show 7 + 1 ≤ 8 * n + 40 from om_a597943b8d, show 8 + (1 + 11) + 104 ≤ 28 * (8 * n + 40) from om_89c91d5fe4⟩ (List.range (cW ad pr N cI cR L1 L2 v).length) (rg_map _) (nd_range _) 0 rfl rfl rfl rfl hl.1 rfl (Nat.le_of_ble_eq_true rfl) dX5_stat_209 ⟨Nat.le_of_ble_eq_true rfl, Nat.le_of_ble_eq_true rfl⟩) hP hD hS hA (fun u9 ce9 q9 H locs hx9 hP hD hS hc9 hv9 hf9 => ?_) (fun u62 H locs hw61 hP hD hS hz8 => ?_)
                      · exact vx_out (fun x h9 => (hnt x h9).elim) hlocks hc9 hv9 hf9 (fun t9 ht9 hv8 => ⟨u9, ⟨FC.tr (FC.rf _) hx9.1, hx9.2⟩, ⟨rfl, by rw [ht9]; exact hP, hD⟩, hS.F ht9⟩) hS.2.2 (Nat.le_refl _) (Nat.le_refl _)
                      refine W.shrink (hz8.trans hz9) ?_
                      have fr61 := hw61
                      refine lv_aload_n hx hb dX5_stat_212 rfl (lv_at hl 0 rfl) ?_
                      have q64 : (u62.1 0 304).toInt = (v.1 0 304).toInt := congrArg Int32.toInt ((fr61.2.1 304 (by decide)).trans (show v.1 0 304 = (v.1 0 304) by rfl))
                      have q65 : (u62.1 0 306).toInt = (v.1 0 306).toInt := congrArg Int32.toInt ((fr61.2.1 306 (by decide)).trans (show v.1 0 306 = (v.1 0 306) by rfl))
                      have q66 : (u62.1 0 312).toInt = (v.1 0 312).toInt := congrArg Int32.toInt ((fr61.2.1 312 (by decide)).trans (show v.1 0 312 = (v.1 0 312) by rfl))
                      have q67 : (u62.1 0 321).toInt = (v.1 0 321).toInt := congrArg Int32.toInt ((fr61.2.1 321 (by decide)).trans (show v.1 0 321 = (v.1 0 321) by rfl))
                      have q68 : (u62.1 0 326).toInt = (v.1 0 326).toInt := congrArg Int32.toInt ((fr61.2.1 326 (by decide)).trans (show v.1 0 326 = (v.1 0 326) by rfl))
                      have q69 : (u62.1 0 373).toInt = (v.1 0 373).toInt := congrArg Int32.toInt ((fr61.2.1 373 (by decide)).trans (show v.1 0 373 = (v.1 0 373) by rfl))
                      have q70 : (u62.1 0 381).toInt = (v.1 0 381).toInt := congrArg Int32.toInt ((fr61.2.1 381 (by decide)).trans (show v.1 0 381 = (v.1 0 381) by rfl))
                      refine W.sz (fun hz9 => ?_)
                      refine czx_v (rx_Vk (n := 0) (As := []) (rest := []) hx hb hml hown ht hKK hFx hP hD hS hA (c_x_X5_condition l n dC dI cI cB cZ cJ cR tb H.size ad pr N L1 L2 u62 ps (show 0 ≤ (u62.1 0 304).toInt ∧ (u62.1 0 304).toInt ≤ 1503 from (om_73002589c1 z304 q64)) (show 0 ≤ (u62.1 0 306).toInt ∧ (u62.1 0 306).toInt ≤ 40 from (om_99e115f631 z306 q65)) (show 0 ≤ (u62.1 0 312).toInt ∧ (u62.1 0 312).toInt ≤ 500 from (om_f8376ff89c z312 q66)) (show 0 ≤ (u62.1 0 321).toInt ∧ (u62.1 0 321).toInt ≤ 501 from (om_ff27494c0e z321 q67)) (show 0 ≤ (u62.1 0 326).toInt ∧ (u62.1 0 326).toInt ≤ 420 from (om_8ed0dedb19 z326 q68)) (show 0 ≤ (u62.1 0 373).toInt ∧ (u62.1 0 373).toInt ≤ 4000 from (om_9084c127ed z373 q69)) (show 0 ≤ (u62.1 0 381).toInt ∧ (u62.1 0 381).toInt ≤ 3008 from (om_6e4eb11ad3 z381 q70)) (show L1.length = 40 from hL1) (show L2.length = 60 from hL2) (show RP u62 from ((show FC [305, 306, 307, 312, 313, 314, 315, 317, 321, 326, 331, 332, 381] [0, 311, 316, 318, 319, 320, 324, 325, 378, 379, 380] v u62 from (FC.tr (FC.rf _) (FC.up fr61 (by decide) (by decide)))).1 rp)) (show pr ps = ad 908 from hps) (show (u62.1 0 300) = ps from (Eq.trans (fr61.2.1 300 (by decide)) es300)) (show (u62.1 0 310) = ps from (Eq.trans (fr61.2.1 310 (by decide)) es310)) (show l.stackTraces = false from hst) (show 40 ≤ (u62.1 0 306).toInt + (n : Int) from (om_2d3a9cf1da zn q65))) tw_616 tw_617 (by decide +kernel) rfl rfl ⟨show (8 * n + 14) + 1 ≤ 8 * n + 40 from om_fd720c34e2, show 8 + (1 + 11) + 28 * (8 * n + 14) ≤ 28 * (8 * n + 40) from om_1b75e7ec53⟩ (List.range (cW ad pr N cI cR L1 L2 u62).length) (rg_map _) (nd_range _) 3 rfl rfl rfl rfl hl.1 rfl (Nat.le_of_ble_eq_true rfl) dX5_stat_213 ⟨Nat.le_of_ble_eq_true rfl, Nat.le_of_ble_eq_true rfl⟩) hP hD hS hA (fun u9 ce9 q9 H locs hx9 hP hD hS hc9 hv9 hf9 => ?_) (fun u72 H locs hw71 hP hD hS hz8 => ?_)
                      · exact vx_out (fun x h9 => (hnt x h9).elim) hlocks hc9 hv9 hf9 (fun t9 ht9 hv8 => ⟨u9, ⟨FC.tr (FC.tr (FC.rf _) (FC.up fr61 (by decide) (by decide))) hx9.1, hx9.2⟩, ⟨rfl, by rw [ht9]; exact hP, hD⟩, hS.F ht9⟩) hS.2.2 (Nat.le_refl _) (Nat.le_refl _)
                      refine W.shrink (hz8.trans hz9) ?_
                      obtain ⟨fr71, i30671, i32171, i32671, i38171, po71⟩ := hw71
                      have i30671 : 0 ≤ (u72.1 0 306).toInt ∧ (u72.1 0 306).toInt ≤ 40 := i30671
                      have i32171 : 0 ≤ (u72.1 0 321).toInt ∧ (u72.1 0 321).toInt ≤ 501 := i32171
                      have i32671 : 0 ≤ (u72.1 0 326).toInt ∧ (u72.1 0 326).toInt ≤ 420 := i32671
                      have i38171 : 0 ≤ (u72.1 0 381).toInt ∧ (u72.1 0 381).toInt ≤ 3008 := i38171
                      have po71 : (u72.1 0 306).toInt = (u62.1 0 306).toInt := po71
                      refine lv_aload_n hx hb dX5_stat_216 rfl (lv_at hl 0 rfl) ?_
                      refine va_get (D := (dC, dI)) (ci := 8) (fs := oF_X5 ad pr u72) (v := .ref (ad 901)) (C := RX5) (T := TX5) (N := 7) hx hb ht itX5 hown hK hP 3 rfl rfl 2 (by decide) (ht _ tw_573) (fun _ h9 => h9) rfl dX5_stat_217 ?_
                      refine lv_bipush (v := 22) hx hb dX5_stat_220 (by decide) ?_
                      refine lv_iconst (v := 0) hx hb dX5_stat_222 (by decide) ?_
                      refine lv_iconst (v := 0) hx hb dX5_stat_223 (by decide) ?_
                      refine cu_v (rn_Vk (n := 3) (As := [.int 22, .int 0, .int 0]) (rest := []) hx hb hml hown ht hKK hFx hP hD hS hA (c_x_X1_add l dC dI cI cB cZ cJ cR tb H.size ad pr N L1 L2 u72 (22 : Int32) (0 : Int32) (0 : Int32) ps (show 0 ≤ (u72.1 0 381).toInt ∧ (u72.1 0 381).toInt ≤ 3008 from (om_e78eec72e1 i38171)) (show pr ps = ad 908 from hps) (show (u72.1 0 310) = ps from (Eq.trans (fr71.2.1 310 (by decide)) (Eq.trans (fr61.2.1 310 (by decide)) es310)))) tw_499 tw_592 (by decide +kernel) rfl rfl ⟨show 0 + 1 ≤ 8 * n + 40 from om_2d031ae8ef, show 8 + (5 + 11) + 0 ≤ 28 * (8 * n + 40) from om_c4c73bc6ca⟩ (List.range (cW ad pr N cI cR L1 L2 u72).length) (rg_map _) (nd_range _) 1 rfl rfl rfl rfl hl.1 rfl (Nat.le_of_ble_eq_true rfl) dX5_stat_224 ⟨Nat.le_of_ble_eq_true rfl, Nat.le_of_ble_eq_true rfl⟩) hP hD hS hA (fun u75 H locs hw74 hP hD hS => ?_)
                      obtain ⟨fr74, i38174⟩ := hw74
                      have i38174 : 0 ≤ (u75.1 0 381).toInt ∧ (u75.1 0 381).toInt ≤ 3008 := i38174
                      refine W.widen (k := 0) (n := 0) (Nat.le_refl _) (Nat.le_refl _) ?_
                      refine lv_aload_n hx hb dX5_stat_227 rfl (lv_at hl 0 rfl) ?_
                      refine va_get (D := (dC, dI)) (ci := 8) (fs := oF_X5 ad pr u75) (v := .ref (ad 900)) (C := RX5) (T := TX5) (N := 7) hx hb ht itX5 hown hK hP 3 rfl rfl 1 (by decide) (ht _ tw_571) (fun _ h9 => h9) rfl dX5_stat_228 ?_
                      refine lv_bipush (v := 36) hx hb dX5_stat_231 (by decide) ?_
                      have q77 : (u72.1 0 304).toInt = (u62.1 0 304).toInt := congrArg Int32.toInt ((fr71.2.1 304 (by decide)).trans (show u62.1 0 304 = (u62.1 0 304) by rfl))
                      have q78 : (u75.1 0 304).toInt = (u72.1 0 304).toInt := congrArg Int32.toInt ((fr74.2.1 304 (by decide)).trans (show u72.1 0 304 = (u72.1 0 304) by rfl))
                      have q79 : (u72.1 0 373).toInt = (u62.1 0 373).toInt := congrArg Int32.toInt ((fr71.2.1 373 (by decide)).trans (show u62.1 0 373 = (u62.1 0 373) by rfl))
                      have q80 : (u75.1 0 373).toInt = (u72.1 0 373).toInt := congrArg Int32.toInt ((fr74.2.1 373 (by decide)).trans (show u72.1 0 373 = (u72.1 0 373) by rfl))
                      refine W.sz (fun hz9 => ?_)
                      refine czx_v (rx_Vk (n := 1) (As := [.int 36]) (rest := []) hx hb hml hown ht hKK hFx hP hD hS hA (c_x_X9_expect l dC dI cI cB cZ cJ cR tb H.size ad pr N L1 L2 u75 (36 : Int32) ps (show 0 ≤ (u75.1 0 304).toInt ∧ (u75.1 0 304).toInt ≤ 1503 from (om_57e3d9ffbd z304 q64 q77 q78)) (show 0 ≤ (u75.1 0 373).toInt ∧ (u75.1 0 373).toInt ≤ 4000 from (om_282c7f458f z373 q69 q79 q80)) (show pr ps = ad 908 from hps) (show (u75.1 0 300) = ps from (Eq.trans (fr74.2.1 300 (by decide)) (Eq.trans (fr71.2.1 300 (by decide)) (Eq.trans (fr61.2.1 300 (by decide)) es300)))) (show l.stackTraces = false from hst)) tw_526 tw_580 (by decide +kernel) rfl rfl ⟨show 7 + 1 ≤ 8 * n + 40 from om_a597943b8d, show 8 + (2 + 11) + 104 ≤ 28 * (8 * n + 40) from om_10b26f883e⟩ (List.range (cW ad pr N cI cR L1 L2 u75).length) (rg_map _) (nd_range _) 0 rfl rfl rfl rfl hl.1 rfl (Nat.le_of_ble_eq_true rfl) dX5_stat_233 ⟨Nat.le_of_ble_eq_true rfl, Nat.le_of_ble_eq_true rfl⟩) hP hD hS hA (fun u9 ce9 q9 H locs hx9 hP hD hS hc9 hv9 hf9 => ?_) (fun u82 H locs hw81 hP hD hS hz8 => ?_)
                      · exact vx_out (fun x h9 => (hnt x h9).elim) hlocks hc9 hv9 hf9 (fun t9 ht9 hv8 => ⟨u9, ⟨FC.tr (FC.tr (FC.tr (FC.tr (FC.rf _) (FC.up fr61 (by decide) (by decide))) (FC.up fr71 (by decide) (by decide))) (FC.up fr74 (by decide) (by decide))) hx9.1, hx9.2⟩, ⟨rfl, by rw [ht9]; exact hP, hD⟩, hS.F ht9⟩) hS.2.2 (Nat.le_refl _) (Nat.le_refl _)
                      refine W.shrink (hz8.trans hz9) ?_
                      have fr81 := hw81
                      refine lv_goto (tgt := 266) hx hb dX5_stat_236 (by decide) ?_
                      have q84 : (u75.1 0 306).toInt = (u72.1 0 306).toInt := congrArg Int32.toInt ((fr74.2.1 306 (by decide)).trans (show u72.1 0 306 = (u72.1 0 306) by rfl))
                      have q85 : (u82.1 0 306).toInt = (u75.1 0 306).toInt := congrArg Int32.toInt ((fr81.2.1 306 (by decide)).trans (show u75.1 0 306 = (u75.1 0 306) by rfl))
                      have q86 : (u72.1 0 312).toInt = (u62.1 0 312).toInt := congrArg Int32.toInt ((fr71.2.1 312 (by decide)).trans (show u62.1 0 312 = (u62.1 0 312) by rfl))
                      have q87 : (u75.1 0 312).toInt = (u72.1 0 312).toInt := congrArg Int32.toInt ((fr74.2.1 312 (by decide)).trans (show u72.1 0 312 = (u72.1 0 312) by rfl))
                      have q88 : (u82.1 0 312).toInt = (u75.1 0 312).toInt := congrArg Int32.toInt ((fr81.2.1 312 (by decide)).trans (show u75.1 0 312 = (u75.1 0 312) by rfl))
                      have q89 : (u75.1 0 321).toInt = (u72.1 0 321).toInt := congrArg Int32.toInt ((fr74.2.1 321 (by decide)).trans (show u72.1 0 321 = (u72.1 0 321) by rfl))
                      have q90 : (u82.1 0 321).toInt = (u75.1 0 321).toInt := congrArg Int32.toInt ((fr81.2.1 321 (by decide)).trans (show u75.1 0 321 = (u75.1 0 321) by rfl))
                      have q91 : (u75.1 0 326).toInt = (u72.1 0 326).toInt := congrArg Int32.toInt ((fr74.2.1 326 (by decide)).trans (show u72.1 0 326 = (u72.1 0 326) by rfl))
                      have q92 : (u82.1 0 326).toInt = (u75.1 0 326).toInt := congrArg Int32.toInt ((fr81.2.1 326 (by decide)).trans (show u75.1 0 326 = (u75.1 0 326) by rfl))
                      have q93 : (u82.1 0 381).toInt = (u75.1 0 381).toInt := congrArg Int32.toInt ((fr81.2.1 381 (by decide)).trans (show u75.1 0 381 = (u75.1 0 381) by rfl))
                      refine W.sz (fun hz => ?_)
                      refine vx_ret ?_
                      refine W.widen (k := 1) (n := 6) (Nat.le_of_ble_eq_true rfl) (Nat.le_of_ble_eq_true rfl) ?_
                      exact W.vret hx hb hr (fun t ht9 hW => ⟨⟨u82, rfl, ⟨(FC.tr (FC.tr (FC.tr (FC.tr (FC.rf _) (FC.up fr61 (by decide) (by decide))) (FC.up fr71 (by decide) (by decide))) (FC.up fr74 (by decide) (by decide))) (FC.up fr81 (by decide) (by decide))), (show 0 ≤ (u82.1 0 306).toInt ∧ (u82.1 0 306).toInt ≤ 40 from (om_68f540929a i30671 q84 q85)), (show 0 ≤ (u82.1 0 312).toInt ∧ (u82.1 0 312).toInt ≤ 500 from (om_31e0c91fb9 z312 q66 q86 q87 q88)), (show 0 ≤ (u82.1 0 321).toInt ∧ (u82.1 0 321).toInt ≤ 501 from (om_4dfa815534 i32171 q89 q90)), (show 0 ≤ (u82.1 0 326).toInt ∧ (u82.1 0 326).toInt ≤ 420 from (om_9591dea625 i32671 q91 q92)), (show 0 ≤ (u82.1 0 381).toInt ∧ (u82.1 0 381).toInt ≤ 3008 from (om_6e4eb11ad3 i38174 q93)), (show (u82.1 0 306).toInt = (v.1 0 306).toInt from (om_42b828193d q65 po71 q84 q85))⟩, ⟨by rw [ht9]; exact hP, hD⟩, by rw [ht9]; exact hz⟩, hS.F ht9⟩) hS.2.2 dX5_stat_266
                    ·
                      by_cases h94 : r3 = 20
                      · refine lv_tableIn (off := 242) (tgt := 249) hx hb dX5_stat_7 (by rw [h94]; decide) (by rw [h94]; decide) (by rw [h94]; decide) (by decide) ?_
                        refine lv_aload_n hx hb dX5_stat_249 rfl (lv_at hl 0 rfl) ?_
                        refine va_get (D := (dC, dI)) (ci := 8) (fs := oF_X5 ad pr v) (v := .ref (ad 902)) (C := RX5) (T := TX5) (N := 7) hx hb ht itX5 hown hK hP 3 rfl rfl 3 (by decide) (ht _ tw_608) (fun _ h9 => h9) rfl dX5_stat_250 ?_
                        refine lv_iconst (v := 1) hx hb dX5_stat_253 (by decide) ?_
                        refine W.sz (fun hz9 => ?_)
                        refine czx_v (rx_Vk (n := 1) (As := [.int 1]) (rest := []) hx hb hml hown ht hKK hFx hP hD hS hA ((cq_all l n).1 dC dI cI cB cZ cJ cR tb H.size ad pr N L1 L2 v (1 : Int32) ps (show 0 ≤ (v.1 0 304).toInt ∧ (v.1 0 304).toInt ≤ 1503 from (om_c99648273b z304)) (show 0 ≤ (v.1 0 306).toInt ∧ (v.1 0 306).toInt ≤ 40 from (om_7eaf33e007 z306)) (show 0 ≤ (v.1 0 312).toInt ∧ (v.1 0 312).toInt ≤ 500 from (om_9861e69da5 z312)) (show 0 ≤ (v.1 0 321).toInt ∧ (v.1 0 321).toInt ≤ 501 from (om_e1d35f5faf z321)) (show 0 ≤ (v.1 0 326).toInt ∧ (v.1 0 326).toInt ≤ 420 from (om_839d7ed7dd z326)) (show 0 ≤ (v.1 0 373).toInt ∧ (v.1 0 373).toInt ≤ 4000 from (om_c74a68af25 z373)) (show 0 ≤ (v.1 0 381).toInt ∧ (v.1 0 381).toInt ≤ 3008 from (om_e78eec72e1 z381)) (show L1.length = 40 from hL1) (show L2.length = 60 from hL2) (show RP v from rp) (show pr ps = ad 908 from hps) (show (v.1 0 300) = ps from es300) (show (v.1 0 310) = ps from es310) (show l.stackTraces = false from hst) (show 40 ≤ (v.1 0 306).toInt + (n : Int) from (om_a9150ae9b6 zn))) tw_520 tw_609 (by decide +kernel) rfl rfl ⟨show (8 * n + 20) + 1 ≤ 8 * n + 40 from om_38ba114efc, show 8 + (5 + 11) + 28 * (8 * n + 20) ≤ 28 * (8 * n + 40) from om_237ccf37c6⟩ (List.range (cW ad pr N cI cR L1 L2 v).length) (rg_map _) (nd_range _) 2 rfl rfl rfl rfl hl.1 rfl (Nat.le_of_ble_eq_true rfl) dX5_stat_254 ⟨Nat.le_of_ble_eq_true rfl, Nat.le_of_ble_eq_true rfl⟩) hP hD hS hA (fun u9 ce9 q9 H locs hx9 hP hD hS hc9 hv9 hf9 => ?_) (fun u96 H locs hw95 hP hD hS hz8 => ?_)
                        · exact vx_out (fun x h9 => (hnt x h9).elim) hlocks hc9 hv9 hf9 (fun t9 ht9 hv8 => ⟨u9, ⟨FC.tr (FC.rf _) hx9.1, hx9.2⟩, ⟨rfl, by rw [ht9]; exact hP, hD⟩, hS.F ht9⟩) hS.2.2 (Nat.le_refl _) (Nat.le_refl _)
                        refine W.shrink (hz8.trans hz9) ?_
                        obtain ⟨fr95, i30695, i32195, i32695, i38195, po95⟩ := hw95
                        refine lv_aload_n hx hb dX5_stat_257 rfl (lv_at hl 0 rfl) ?_
                        refine va_get (D := (dC, dI)) (ci := 8) (fs := oF_X5 ad pr u96) (v := .ref (ad 900)) (C := RX5) (T := TX5) (N := 7) hx hb ht itX5 hown hK hP 3 rfl rfl 1 (by decide) (ht _ tw_571) (fun _ h9 => h9) rfl dX5_stat_258 ?_
                        refine lv_bipush (v := 36) hx hb dX5_stat_261 (by decide) ?_
                        have q98 : (u96.1 0 304).toInt = (v.1 0 304).toInt := congrArg Int32.toInt ((fr95.2.1 304 (by decide)).trans (show v.1 0 304 = (v.1 0 304) by rfl))
                        have q99 : (u96.1 0 373).toInt = (v.1 0 373).toInt := congrArg Int32.toInt ((fr95.2.1 373 (by decide)).trans (show v.1 0 373 = (v.1 0 373) by rfl))
                        refine W.sz (fun hz9 => ?_)
                        refine czx_v (rx_Vk (n := 1) (As := [.int 36]) (rest := []) hx hb hml hown ht hKK hFx hP hD hS hA (c_x_X9_expect l dC dI cI cB cZ cJ cR tb H.size ad pr N L1 L2 u96 (36 : Int32) ps (show 0 ≤ (u96.1 0 304).toInt ∧ (u96.1 0 304).toInt ≤ 1503 from (om_73002589c1 z304 q98)) (show 0 ≤ (u96.1 0 373).toInt ∧ (u96.1 0 373).toInt ≤ 4000 from (om_9084c127ed z373 q99)) (show pr ps = ad 908 from hps) (show (u96.1 0 300) = ps from (Eq.trans (fr95.2.1 300 (by decide)) es300)) (show l.stackTraces = false from hst)) tw_526 tw_580 (by decide +kernel) rfl rfl ⟨show 7 + 1 ≤ 8 * n + 40 from om_a597943b8d, show 8 + (2 + 11) + 104 ≤ 28 * (8 * n + 40) from om_10b26f883e⟩ (List.range (cW ad pr N cI cR L1 L2 u96).length) (rg_map _) (nd_range _) 0 rfl rfl rfl rfl hl.1 rfl (Nat.le_of_ble_eq_true rfl) dX5_stat_263 ⟨Nat.le_of_ble_eq_true rfl, Nat.le_of_ble_eq_true rfl⟩) hP hD hS hA (fun u9 ce9 q9 H locs hx9 hP hD hS hc9 hv9 hf9 => ?_) (fun u101 H locs hw100 hP hD hS hz8 => ?_)
                        · exact vx_out (fun x h9 => (hnt x h9).elim) hlocks hc9 hv9 hf9 (fun t9 ht9 hv8 => ⟨u9, ⟨FC.tr (FC.tr (FC.rf _) (FC.up fr95 (by decide) (by decide))) hx9.1, hx9.2⟩, ⟨rfl, by rw [ht9]; exact hP, hD⟩, hS.F ht9⟩) hS.2.2 (Nat.le_refl _) (Nat.le_refl _)
                        refine W.shrink (hz8.trans hz9) ?_
                        have fr100 := hw100
                        have q103 : (u101.1 0 306).toInt = (u96.1 0 306).toInt := congrArg Int32.toInt ((fr100.2.1 306 (by decide)).trans (show u96.1 0 306 = (u96.1 0 306) by rfl))
                        have q104 : (u96.1 0 312).toInt = (v.1 0 312).toInt := congrArg Int32.toInt ((fr95.2.1 312 (by decide)).trans (show v.1 0 312 = (v.1 0 312) by rfl))
                        have q105 : (u101.1 0 312).toInt = (u96.1 0 312).toInt := congrArg Int32.toInt ((fr100.2.1 312 (by decide)).trans (show u96.1 0 312 = (u96.1 0 312) by rfl))
                        have q106 : (u101.1 0 321).toInt = (u96.1 0 321).toInt := congrArg Int32.toInt ((fr100.2.1 321 (by decide)).trans (show u96.1 0 321 = (u96.1 0 321) by rfl))
                        have q107 : (u101.1 0 326).toInt = (u96.1 0 326).toInt := congrArg Int32.toInt ((fr100.2.1 326 (by decide)).trans (show u96.1 0 326 = (u96.1 0 326) by rfl))
                        have q108 : (u101.1 0 381).toInt = (u96.1 0 381).toInt := congrArg Int32.toInt ((fr100.2.1 381 (by decide)).trans (show u96.1 0 381 = (u96.1 0 381) by rfl))
                        refine W.sz (fun hz => ?_)
                        refine vx_ret ?_
                        refine W.widen (k := 1) (n := 6) (Nat.le_of_ble_eq_true rfl) (Nat.le_of_ble_eq_true rfl) ?_
                        exact W.vret hx hb hr (fun t ht9 hW => ⟨⟨u101, rfl, ⟨(FC.tr (FC.tr (FC.rf _) (FC.up fr95 (by decide) (by decide))) (FC.up fr100 (by decide) (by decide))), (show 0 ≤ (u101.1 0 306).toInt ∧ (u101.1 0 306).toInt ≤ 40 from (om_99e115f631 i30695 q103)), (show 0 ≤ (u101.1 0 312).toInt ∧ (u101.1 0 312).toInt ≤ 500 from (om_8a5975ec21 z312 q104 q105)), (show 0 ≤ (u101.1 0 321).toInt ∧ (u101.1 0 321).toInt ≤ 501 from (om_ff27494c0e i32195 q106)), (show 0 ≤ (u101.1 0 326).toInt ∧ (u101.1 0 326).toInt ≤ 420 from (om_8ed0dedb19 i32695 q107)), (show 0 ≤ (u101.1 0 381).toInt ∧ (u101.1 0 381).toInt ≤ 3008 from (om_6e4eb11ad3 i38195 q108)), (show (u101.1 0 306).toInt = (v.1 0 306).toInt from (om_837b7bd001 po95 q103))⟩, ⟨by rw [ht9]; exact hP, hD⟩, by rw [ht9]; exact hz⟩, hS.F ht9⟩) hS.2.2 dX5_stat_266
                      ·
                        by_cases h109 : r3 = 21
                        · refine lv_tableIn (off := 242) (tgt := 249) hx hb dX5_stat_7 (by rw [h109]; decide) (by rw [h109]; decide) (by rw [h109]; decide) (by decide) ?_
                          refine lv_aload_n hx hb dX5_stat_249 rfl (lv_at hl 0 rfl) ?_
                          refine va_get (D := (dC, dI)) (ci := 8) (fs := oF_X5 ad pr v) (v := .ref (ad 902)) (C := RX5) (T := TX5) (N := 7) hx hb ht itX5 hown hK hP 3 rfl rfl 3 (by decide) (ht _ tw_608) (fun _ h9 => h9) rfl dX5_stat_250 ?_
                          refine lv_iconst (v := 1) hx hb dX5_stat_253 (by decide) ?_
                          refine W.sz (fun hz9 => ?_)
                          refine czx_v (rx_Vk (n := 1) (As := [.int 1]) (rest := []) hx hb hml hown ht hKK hFx hP hD hS hA ((cq_all l n).1 dC dI cI cB cZ cJ cR tb H.size ad pr N L1 L2 v (1 : Int32) ps (show 0 ≤ (v.1 0 304).toInt ∧ (v.1 0 304).toInt ≤ 1503 from (om_c99648273b z304)) (show 0 ≤ (v.1 0 306).toInt ∧ (v.1 0 306).toInt ≤ 40 from (om_7eaf33e007 z306)) (show 0 ≤ (v.1 0 312).toInt ∧ (v.1 0 312).toInt ≤ 500 from (om_9861e69da5 z312)) (show 0 ≤ (v.1 0 321).toInt ∧ (v.1 0 321).toInt ≤ 501 from (om_e1d35f5faf z321)) (show 0 ≤ (v.1 0 326).toInt ∧ (v.1 0 326).toInt ≤ 420 from (om_839d7ed7dd z326)) (show 0 ≤ (v.1 0 373).toInt ∧ (v.1 0 373).toInt ≤ 4000 from (om_c74a68af25 z373)) (show 0 ≤ (v.1 0 381).toInt ∧ (v.1 0 381).toInt ≤ 3008 from (om_e78eec72e1 z381)) (show L1.length = 40 from hL1) (show L2.length = 60 from hL2) (show RP v from rp) (show pr ps = ad 908 from hps) (show (v.1 0 300) = ps from es300) (show (v.1 0 310) = ps from es310) (show l.stackTraces = false from hst) (show 40 ≤ (v.1 0 306).toInt + (n : Int) from (om_a9150ae9b6 zn))) tw_520 tw_609 (by decide +kernel) rfl rfl ⟨show (8 * n + 20) + 1 ≤ 8 * n + 40 from om_38ba114efc, show 8 + (5 + 11) + 28 * (8 * n + 20) ≤ 28 * (8 * n + 40) from om_237ccf37c6⟩ (List.range (cW ad pr N cI cR L1 L2 v).length) (rg_map _) (nd_range _) 2 rfl rfl rfl rfl hl.1 rfl (Nat.le_of_ble_eq_true rfl) dX5_stat_254 ⟨Nat.le_of_ble_eq_true rfl, Nat.le_of_ble_eq_true rfl⟩) hP hD hS hA (fun u9 ce9 q9 H locs hx9 hP hD hS hc9 hv9 hf9 => ?_) (fun u111 H locs hw110 hP hD hS hz8 => ?_)
                          · exact vx_out (fun x h9 => (hnt x h9).elim) hlocks hc9 hv9 hf9 (fun t9 ht9 hv8 => ⟨u9, ⟨FC.tr (FC.rf _) hx9.1, hx9.2⟩, ⟨rfl, by rw [ht9]; exact hP, hD⟩, hS.F ht9⟩) hS.2.2 (Nat.le_refl _) (Nat.le_refl _)
                          refine W.shrink (hz8.trans hz9) ?_
                          obtain ⟨fr110, i306110, i321110, i326110, i381110, po110⟩ := hw110
                          refine lv_aload_n hx hb dX5_stat_257 rfl (lv_at hl 0 rfl) ?_
                          refine va_get (D := (dC, dI)) (ci := 8) (fs := oF_X5 ad pr u111) (v := .ref (ad 900)) (C := RX5) (T := TX5) (N := 7) hx hb ht itX5 hown hK hP 3 rfl rfl 1 (by decide) (ht _ tw_571) (fun _ h9 => h9) rfl dX5_stat_258 ?_
                          refine lv_bipush (v := 36) hx hb dX5_stat_261 (by decide) ?_
                          have q113 : (u111.1 0 304).toInt = (v.1 0 304).toInt := congrArg Int32.toInt ((fr110.2.1 304 (by decide)).trans (show v.1 0 304 = (v.1 0 304) by rfl))
                          have q114 : (u111.1 0 373).toInt = (v.1 0 373).toInt := congrArg Int32.toInt ((fr110.2.1 373 (by decide)).trans (show v.1 0 373 = (v.1 0 373) by rfl))
                          refine W.sz (fun hz9 => ?_)
                          refine czx_v (rx_Vk (n := 1) (As := [.int 36]) (rest := []) hx hb hml hown ht hKK hFx hP hD hS hA (c_x_X9_expect l dC dI cI cB cZ cJ cR tb H.size ad pr N L1 L2 u111 (36 : Int32) ps (show 0 ≤ (u111.1 0 304).toInt ∧ (u111.1 0 304).toInt ≤ 1503 from (om_73002589c1 z304 q113)) (show 0 ≤ (u111.1 0 373).toInt ∧ (u111.1 0 373).toInt ≤ 4000 from (om_9084c127ed z373 q114)) (show pr ps = ad 908 from hps) (show (u111.1 0 300) = ps from (Eq.trans (fr110.2.1 300 (by decide)) es300)) (show l.stackTraces = false from hst)) tw_526 tw_580 (by decide +kernel) rfl rfl ⟨show 7 + 1 ≤ 8 * n + 40 from om_a597943b8d, show 8 + (2 + 11) + 104 ≤ 28 * (8 * n + 40) from om_10b26f883e⟩ (List.range (cW ad pr N cI cR L1 L2 u111).length) (rg_map _) (nd_range _) 0 rfl rfl rfl rfl hl.1 rfl (Nat.le_of_ble_eq_true rfl) dX5_stat_263 ⟨Nat.le_of_ble_eq_true rfl, Nat.le_of_ble_eq_true rfl⟩) hP hD hS hA (fun u9 ce9 q9 H locs hx9 hP hD hS hc9 hv9 hf9 => ?_) (fun u116 H locs hw115 hP hD hS hz8 => ?_)
                          · exact vx_out (fun x h9 => (hnt x h9).elim) hlocks hc9 hv9 hf9 (fun t9 ht9 hv8 => ⟨u9, ⟨FC.tr (FC.tr (FC.rf _) (FC.up fr110 (by decide) (by decide))) hx9.1, hx9.2⟩, ⟨rfl, by rw [ht9]; exact hP, hD⟩, hS.F ht9⟩) hS.2.2 (Nat.le_refl _) (Nat.le_refl _)
                          refine W.shrink (hz8.trans hz9) ?_
                          have fr115 := hw115
                          have q118 : (u116.1 0 306).toInt = (u111.1 0 306).toInt := congrArg Int32.toInt ((fr115.2.1 306 (by decide)).trans (show u111.1 0 306 = (u111.1 0 306) by rfl))
                          have q119 : (u111.1 0 312).toInt = (v.1 0 312).toInt := congrArg Int32.toInt ((fr110.2.1 312 (by decide)).trans (show v.1 0 312 = (v.1 0 312) by rfl))
                          have q120 : (u116.1 0 312).toInt = (u111.1 0 312).toInt := congrArg Int32.toInt ((fr115.2.1 312 (by decide)).trans (show u111.1 0 312 = (u111.1 0 312) by rfl))
                          have q121 : (u116.1 0 321).toInt = (u111.1 0 321).toInt := congrArg Int32.toInt ((fr115.2.1 321 (by decide)).trans (show u111.1 0 321 = (u111.1 0 321) by rfl))
                          have q122 : (u116.1 0 326).toInt = (u111.1 0 326).toInt := congrArg Int32.toInt ((fr115.2.1 326 (by decide)).trans (show u111.1 0 326 = (u111.1 0 326) by rfl))
                          have q123 : (u116.1 0 381).toInt = (u111.1 0 381).toInt := congrArg Int32.toInt ((fr115.2.1 381 (by decide)).trans (show u111.1 0 381 = (u111.1 0 381) by rfl))
                          refine W.sz (fun hz => ?_)
                          refine vx_ret ?_
                          refine W.widen (k := 1) (n := 6) (Nat.le_of_ble_eq_true rfl) (Nat.le_of_ble_eq_true rfl) ?_
                          exact W.vret hx hb hr (fun t ht9 hW => ⟨⟨u116, rfl, ⟨(FC.tr (FC.tr (FC.rf _) (FC.up fr110 (by decide) (by decide))) (FC.up fr115 (by decide) (by decide))), (show 0 ≤ (u116.1 0 306).toInt ∧ (u116.1 0 306).toInt ≤ 40 from (om_99e115f631 i306110 q118)), (show 0 ≤ (u116.1 0 312).toInt ∧ (u116.1 0 312).toInt ≤ 500 from (om_8a5975ec21 z312 q119 q120)), (show 0 ≤ (u116.1 0 321).toInt ∧ (u116.1 0 321).toInt ≤ 501 from (om_ff27494c0e i321110 q121)), (show 0 ≤ (u116.1 0 326).toInt ∧ (u116.1 0 326).toInt ≤ 420 from (om_8ed0dedb19 i326110 q122)), (show 0 ≤ (u116.1 0 381).toInt ∧ (u116.1 0 381).toInt ≤ 3008 from (om_6e4eb11ad3 i381110 q123)), (show (u116.1 0 306).toInt = (v.1 0 306).toInt from (om_837b7bd001 po110 q118))⟩, ⟨by rw [ht9]; exact hP, hD⟩, by rw [ht9]; exact hz⟩, hS.F ht9⟩) hS.2.2 dX5_stat_266
                        ·
                          by_cases h124 : r3 = 22
                          · refine lv_tableIn (off := 242) (tgt := 249) hx hb dX5_stat_7 (by rw [h124]; decide) (by rw [h124]; decide) (by rw [h124]; decide) (by decide) ?_
                            refine lv_aload_n hx hb dX5_stat_249 rfl (lv_at hl 0 rfl) ?_
                            refine va_get (D := (dC, dI)) (ci := 8) (fs := oF_X5 ad pr v) (v := .ref (ad 902)) (C := RX5) (T := TX5) (N := 7) hx hb ht itX5 hown hK hP 3 rfl rfl 3 (by decide) (ht _ tw_608) (fun _ h9 => h9) rfl dX5_stat_250 ?_
                            refine lv_iconst (v := 1) hx hb dX5_stat_253 (by decide) ?_
                            refine W.sz (fun hz9 => ?_)
                            refine czx_v (rx_Vk (n := 1) (As := [.int 1]) (rest := []) hx hb hml hown ht hKK hFx hP hD hS hA ((cq_all l n).1 dC dI cI cB cZ cJ cR tb H.size ad pr N L1 L2 v (1 : Int32) ps (show 0 ≤ (v.1 0 304).toInt ∧ (v.1 0 304).toInt ≤ 1503 from (om_c99648273b z304)) (show 0 ≤ (v.1 0 306).toInt ∧ (v.1 0 306).toInt ≤ 40 from (om_7eaf33e007 z306)) (show 0 ≤ (v.1 0 312).toInt ∧ (v.1 0 312).toInt ≤ 500 from (om_9861e69da5 z312)) (show 0 ≤ (v.1 0 321).toInt ∧ (v.1 0 321).toInt ≤ 501 from (om_e1d35f5faf z321)) (show 0 ≤ (v.1 0 326).toInt ∧ (v.1 0 326).toInt ≤ 420 from (om_839d7ed7dd z326)) (show 0 ≤ (v.1 0 373).toInt ∧ (v.1 0 373).toInt ≤ 4000 from (om_c74a68af25 z373)) (show 0 ≤ (v.1 0 381).toInt ∧ (v.1 0 381).toInt ≤ 3008 from (om_e78eec72e1 z381)) (show L1.length = 40 from hL1) (show L2.length = 60 from hL2) (show RP v from rp) (show pr ps = ad 908 from hps) (show (v.1 0 300) = ps from es300) (show (v.1 0 310) = ps from es310) (show l.stackTraces = false from hst) (show 40 ≤ (v.1 0 306).toInt + (n : Int) from (om_a9150ae9b6 zn))) tw_520 tw_609 (by decide +kernel) rfl rfl ⟨show (8 * n + 20) + 1 ≤ 8 * n + 40 from om_38ba114efc, show 8 + (5 + 11) + 28 * (8 * n + 20) ≤ 28 * (8 * n + 40) from om_237ccf37c6⟩ (List.range (cW ad pr N cI cR L1 L2 v).length) (rg_map _) (nd_range _) 2 rfl rfl rfl rfl hl.1 rfl (Nat.le_of_ble_eq_true rfl) dX5_stat_254 ⟨Nat.le_of_ble_eq_true rfl, Nat.le_of_ble_eq_true rfl⟩) hP hD hS hA (fun u9 ce9 q9 H locs hx9 hP hD hS hc9 hv9 hf9 => ?_) (fun u126 H locs hw125 hP hD hS hz8 => ?_)
                            · exact vx_out (fun x h9 => (hnt x h9).elim) hlocks hc9 hv9 hf9 (fun t9 ht9 hv8 => ⟨u9, ⟨FC.tr (FC.rf _) hx9.1, hx9.2⟩, ⟨rfl, by rw [ht9]; exact hP, hD⟩, hS.F ht9⟩) hS.2.2 (Nat.le_refl _) (Nat.le_refl _)
                            refine W.shrink (hz8.trans hz9) ?_
                            obtain ⟨fr125, i306125, i321125, i326125, i381125, po125⟩ := hw125
                            refine lv_aload_n hx hb dX5_stat_257 rfl (lv_at hl 0 rfl) ?_
                            refine va_get (D := (dC, dI)) (ci := 8) (fs := oF_X5 ad pr u126) (v := .ref (ad 900)) (C := RX5) (T := TX5) (N := 7) hx hb ht itX5 hown hK hP 3 rfl rfl 1 (by decide) (ht _ tw_571) (fun _ h9 => h9) rfl dX5_stat_258 ?_
                            refine lv_bipush (v := 36) hx hb dX5_stat_261 (by decide) ?_
                            have q128 : (u126.1 0 304).toInt = (v.1 0 304).toInt := congrArg Int32.toInt ((fr125.2.1 304 (by decide)).trans (show v.1 0 304 = (v.1 0 304) by rfl))
                            have q129 : (u126.1 0 373).toInt = (v.1 0 373).toInt := congrArg Int32.toInt ((fr125.2.1 373 (by decide)).trans (show v.1 0 373 = (v.1 0 373) by rfl))
                            refine W.sz (fun hz9 => ?_)
                            refine czx_v (rx_Vk (n := 1) (As := [.int 36]) (rest := []) hx hb hml hown ht hKK hFx hP hD hS hA (c_x_X9_expect l dC dI cI cB cZ cJ cR tb H.size ad pr N L1 L2 u126 (36 : Int32) ps (show 0 ≤ (u126.1 0 304).toInt ∧ (u126.1 0 304).toInt ≤ 1503 from (om_73002589c1 z304 q128)) (show 0 ≤ (u126.1 0 373).toInt ∧ (u126.1 0 373).toInt ≤ 4000 from (om_9084c127ed z373 q129)) (show pr ps = ad 908 from hps) (show (u126.1 0 300) = ps from (Eq.trans (fr125.2.1 300 (by decide)) es300)) (show l.stackTraces = false from hst)) tw_526 tw_580 (by decide +kernel) rfl rfl ⟨show 7 + 1 ≤ 8 * n + 40 from om_a597943b8d, show 8 + (2 + 11) + 104 ≤ 28 * (8 * n + 40) from om_10b26f883e⟩ (List.range (cW ad pr N cI cR L1 L2 u126).length) (rg_map _) (nd_range _) 0 rfl rfl rfl rfl hl.1 rfl (Nat.le_of_ble_eq_true rfl) dX5_stat_263 ⟨Nat.le_of_ble_eq_true rfl, Nat.le_of_ble_eq_true rfl⟩) hP hD hS hA (fun u9 ce9 q9 H locs hx9 hP hD hS hc9 hv9 hf9 => ?_) (fun u131 H locs hw130 hP hD hS hz8 => ?_)
                            · exact vx_out (fun x h9 => (hnt x h9).elim) hlocks hc9 hv9 hf9 (fun t9 ht9 hv8 => ⟨u9, ⟨FC.tr (FC.tr (FC.rf _) (FC.up fr125 (by decide) (by decide))) hx9.1, hx9.2⟩, ⟨rfl, by rw [ht9]; exact hP, hD⟩, hS.F ht9⟩) hS.2.2 (Nat.le_refl _) (Nat.le_refl _)
                            refine W.shrink (hz8.trans hz9) ?_
                            have fr130 := hw130
                            have q133 : (u131.1 0 306).toInt = (u126.1 0 306).toInt := congrArg Int32.toInt ((fr130.2.1 306 (by decide)).trans (show u126.1 0 306 = (u126.1 0 306) by rfl))
                            have q134 : (u126.1 0 312).toInt = (v.1 0 312).toInt := congrArg Int32.toInt ((fr125.2.1 312 (by decide)).trans (show v.1 0 312 = (v.1 0 312) by rfl))
                            have q135 : (u131.1 0 312).toInt = (u126.1 0 312).toInt := congrArg Int32.toInt ((fr130.2.1 312 (by decide)).trans (show u126.1 0 312 = (u126.1 0 312) by rfl))
                            have q136 : (u131.1 0 321).toInt = (u126.1 0 321).toInt := congrArg Int32.toInt ((fr130.2.1 321 (by decide)).trans (show u126.1 0 321 = (u126.1 0 321) by rfl))
                            have q137 : (u131.1 0 326).toInt = (u126.1 0 326).toInt := congrArg Int32.toInt ((fr130.2.1 326 (by decide)).trans (show u126.1 0 326 = (u126.1 0 326) by rfl))
                            have q138 : (u131.1 0 381).toInt = (u126.1 0 381).toInt := congrArg Int32.toInt ((fr130.2.1 381 (by decide)).trans (show u126.1 0 381 = (u126.1 0 381) by rfl))
                            refine W.sz (fun hz => ?_)
                            refine vx_ret ?_
                            refine W.widen (k := 1) (n := 6) (Nat.le_of_ble_eq_true rfl) (Nat.le_of_ble_eq_true rfl) ?_
                            exact W.vret hx hb hr (fun t ht9 hW => ⟨⟨u131, rfl, ⟨(FC.tr (FC.tr (FC.rf _) (FC.up fr125 (by decide) (by decide))) (FC.up fr130 (by decide) (by decide))), (show 0 ≤ (u131.1 0 306).toInt ∧ (u131.1 0 306).toInt ≤ 40 from (om_99e115f631 i306125 q133)), (show 0 ≤ (u131.1 0 312).toInt ∧ (u131.1 0 312).toInt ≤ 500 from (om_8a5975ec21 z312 q134 q135)), (show 0 ≤ (u131.1 0 321).toInt ∧ (u131.1 0 321).toInt ≤ 501 from (om_ff27494c0e i321125 q136)), (show 0 ≤ (u131.1 0 326).toInt ∧ (u131.1 0 326).toInt ≤ 420 from (om_8ed0dedb19 i326125 q137)), (show 0 ≤ (u131.1 0 381).toInt ∧ (u131.1 0 381).toInt ≤ 3008 from (om_6e4eb11ad3 i381125 q138)), (show (u131.1 0 306).toInt = (v.1 0 306).toInt from (om_837b7bd001 po125 q133))⟩, ⟨by rw [ht9]; exact hP, hD⟩, by rw [ht9]; exact hz⟩, hS.F ht9⟩) hS.2.2 dX5_stat_266
                          ·
                            by_cases h139 : r3 = 23
                            · refine lv_tableIn (off := 242) (tgt := 249) hx hb dX5_stat_7 (by rw [h139]; decide) (by rw [h139]; decide) (by rw [h139]; decide) (by decide) ?_
                              refine lv_aload_n hx hb dX5_stat_249 rfl (lv_at hl 0 rfl) ?_
                              refine va_get (D := (dC, dI)) (ci := 8) (fs := oF_X5 ad pr v) (v := .ref (ad 902)) (C := RX5) (T := TX5) (N := 7) hx hb ht itX5 hown hK hP 3 rfl rfl 3 (by decide) (ht _ tw_608) (fun _ h9 => h9) rfl dX5_stat_250 ?_
                              refine lv_iconst (v := 1) hx hb dX5_stat_253 (by decide) ?_
                              refine W.sz (fun hz9 => ?_)
                              refine czx_v (rx_Vk (n := 1) (As := [.int 1]) (rest := []) hx hb hml hown ht hKK hFx hP hD hS hA ((cq_all l n).1 dC dI cI cB cZ cJ cR tb H.size ad pr N L1 L2 v (1 : Int32) ps (show 0 ≤ (v.1 0 304).toInt ∧ (v.1 0 304).toInt ≤ 1503 from (om_c99648273b z304)) (show 0 ≤ (v.1 0 306).toInt ∧ (v.1 0 306).toInt ≤ 40 from (om_7eaf33e007 z306)) (show 0 ≤ (v.1 0 312).toInt ∧ (v.1 0 312).toInt ≤ 500 from (om_9861e69da5 z312)) (show 0 ≤ (v.1 0 321).toInt ∧ (v.1 0 321).toInt ≤ 501 from (om_e1d35f5faf z321)) (show 0 ≤ (v.1 0 326).toInt ∧ (v.1 0 326).toInt ≤ 420 from (om_839d7ed7dd z326)) (show 0 ≤ (v.1 0 373).toInt ∧ (v.1 0 373).toInt ≤ 4000 from (om_c74a68af25 z373)) (show 0 ≤ (v.1 0 381).toInt ∧ (v.1 0 381).toInt ≤ 3008 from (om_e78eec72e1 z381)) (show L1.length = 40 from hL1) (show L2.length = 60 from hL2) (show RP v from rp) (show pr ps = ad 908 from hps) (show (v.1 0 300) = ps from es300) (show (v.1 0 310) = ps from es310) (show l.stackTraces = false from hst) (show 40 ≤ (v.1 0 306).toInt + (n : Int) from (om_a9150ae9b6 zn))) tw_520 tw_609 (by decide +kernel) rfl rfl ⟨show (8 * n + 20) + 1 ≤ 8 * n + 40 from om_38ba114efc, show 8 + (5 + 11) + 28 * (8 * n + 20) ≤ 28 * (8 * n + 40) from om_237ccf37c6⟩ (List.range (cW ad pr N cI cR L1 L2 v).length) (rg_map _) (nd_range _) 2 rfl rfl rfl rfl hl.1 rfl (Nat.le_of_ble_eq_true rfl) dX5_stat_254 ⟨Nat.le_of_ble_eq_true rfl, Nat.le_of_ble_eq_true rfl⟩) hP hD hS hA (fun u9 ce9 q9 H locs hx9 hP hD hS hc9 hv9 hf9 => ?_) (fun u141 H locs hw140 hP hD hS hz8 => ?_)
                              · exact vx_out (fun x h9 => (hnt x h9).elim) hlocks hc9 hv9 hf9 (fun t9 ht9 hv8 => ⟨u9, ⟨FC.tr (FC.rf _) hx9.1, hx9.2⟩, ⟨rfl, by rw [ht9]; exact hP, hD⟩, hS.F ht9⟩) hS.2.2 (Nat.le_refl _) (Nat.le_refl _)
                              refine W.shrink (hz8.trans hz9) ?_
                              obtain ⟨fr140, i306140, i321140, i326140, i381140, po140⟩ := hw140
                              refine lv_aload_n hx hb dX5_stat_257 rfl (lv_at hl 0 rfl) ?_
                              refine va_get (D := (dC, dI)) (ci := 8) (fs := oF_X5 ad pr u141) (v := .ref (ad 900)) (C := RX5) (T := TX5) (N := 7) hx hb ht itX5 hown hK hP 3 rfl rfl 1 (by decide) (ht _ tw_571) (fun _ h9 => h9) rfl dX5_stat_258 ?_
                              refine lv_bipush (v := 36) hx hb dX5_stat_261 (by decide) ?_
                              have q143 : (u141.1 0 304).toInt = (v.1 0 304).toInt := congrArg Int32.toInt ((fr140.2.1 304 (by decide)).trans (show v.1 0 304 = (v.1 0 304) by rfl))
                              have q144 : (u141.1 0 373).toInt = (v.1 0 373).toInt := congrArg Int32.toInt ((fr140.2.1 373 (by decide)).trans (show v.1 0 373 = (v.1 0 373) by rfl))
                              refine W.sz (fun hz9 => ?_)
                              refine czx_v (rx_Vk (n := 1) (As := [.int 36]) (rest := []) hx hb hml hown ht hKK hFx hP hD hS hA (c_x_X9_expect l dC dI cI cB cZ cJ cR tb H.size ad pr N L1 L2 u141 (36 : Int32) ps (show 0 ≤ (u141.1 0 304).toInt ∧ (u141.1 0 304).toInt ≤ 1503 from (om_73002589c1 z304 q143)) (show 0 ≤ (u141.1 0 373).toInt ∧ (u141.1 0 373).toInt ≤ 4000 from (om_9084c127ed z373 q144)) (show pr ps = ad 908 from hps) (show (u141.1 0 300) = ps from (Eq.trans (fr140.2.1 300 (by decide)) es300)) (show l.stackTraces = false from hst)) tw_526 tw_580 (by decide +kernel) rfl rfl ⟨show 7 + 1 ≤ 8 * n + 40 from om_a597943b8d, show 8 + (2 + 11) + 104 ≤ 28 * (8 * n + 40) from om_10b26f883e⟩ (List.range (cW ad pr N cI cR L1 L2 u141).length) (rg_map _) (nd_range _) 0 rfl rfl rfl rfl hl.1 rfl (Nat.le_of_ble_eq_true rfl) dX5_stat_263 ⟨Nat.le_of_ble_eq_true rfl, Nat.le_of_ble_eq_true rfl⟩) hP hD hS hA (fun u9 ce9 q9 H locs hx9 hP hD hS hc9 hv9 hf9 => ?_) (fun u146 H locs hw145 hP hD hS hz8 => ?_)
                              · exact vx_out (fun x h9 => (hnt x h9).elim) hlocks hc9 hv9 hf9 (fun t9 ht9 hv8 => ⟨u9, ⟨FC.tr (FC.tr (FC.rf _) (FC.up fr140 (by decide) (by decide))) hx9.1, hx9.2⟩, ⟨rfl, by rw [ht9]; exact hP, hD⟩, hS.F ht9⟩) hS.2.2 (Nat.le_refl _) (Nat.le_refl _)
                              refine W.shrink (hz8.trans hz9) ?_
                              have fr145 := hw145
                              have q148 : (u146.1 0 306).toInt = (u141.1 0 306).toInt := congrArg Int32.toInt ((fr145.2.1 306 (by decide)).trans (show u141.1 0 306 = (u141.1 0 306) by rfl))
                              have q149 : (u141.1 0 312).toInt = (v.1 0 312).toInt := congrArg Int32.toInt ((fr140.2.1 312 (by decide)).trans (show v.1 0 312 = (v.1 0 312) by rfl))
                              have q150 : (u146.1 0 312).toInt = (u141.1 0 312).toInt := congrArg Int32.toInt ((fr145.2.1 312 (by decide)).trans (show u141.1 0 312 = (u141.1 0 312) by rfl))
                              have q151 : (u146.1 0 321).toInt = (u141.1 0 321).toInt := congrArg Int32.toInt ((fr145.2.1 321 (by decide)).trans (show u141.1 0 321 = (u141.1 0 321) by rfl))
                              have q152 : (u146.1 0 326).toInt = (u141.1 0 326).toInt := congrArg Int32.toInt ((fr145.2.1 326 (by decide)).trans (show u141.1 0 326 = (u141.1 0 326) by rfl))
                              have q153 : (u146.1 0 381).toInt = (u141.1 0 381).toInt := congrArg Int32.toInt ((fr145.2.1 381 (by decide)).trans (show u141.1 0 381 = (u141.1 0 381) by rfl))
                              refine W.sz (fun hz => ?_)
                              refine vx_ret ?_
                              refine W.widen (k := 1) (n := 6) (Nat.le_of_ble_eq_true rfl) (Nat.le_of_ble_eq_true rfl) ?_
                              exact W.vret hx hb hr (fun t ht9 hW => ⟨⟨u146, rfl, ⟨(FC.tr (FC.tr (FC.rf _) (FC.up fr140 (by decide) (by decide))) (FC.up fr145 (by decide) (by decide))), (show 0 ≤ (u146.1 0 306).toInt ∧ (u146.1 0 306).toInt ≤ 40 from (om_99e115f631 i306140 q148)), (show 0 ≤ (u146.1 0 312).toInt ∧ (u146.1 0 312).toInt ≤ 500 from (om_8a5975ec21 z312 q149 q150)), (show 0 ≤ (u146.1 0 321).toInt ∧ (u146.1 0 321).toInt ≤ 501 from (om_ff27494c0e i321140 q151)), (show 0 ≤ (u146.1 0 326).toInt ∧ (u146.1 0 326).toInt ≤ 420 from (om_8ed0dedb19 i326140 q152)), (show 0 ≤ (u146.1 0 381).toInt ∧ (u146.1 0 381).toInt ≤ 3008 from (om_6e4eb11ad3 i381140 q153)), (show (u146.1 0 306).toInt = (v.1 0 306).toInt from (om_837b7bd001 po140 q148))⟩, ⟨by rw [ht9]; exact hP, hD⟩, by rw [ht9]; exact hz⟩, hS.F ht9⟩) hS.2.2 dX5_stat_266
                            ·
                              by_cases h154 : r3 = 24
                              · refine lv_tableIn (off := 242) (tgt := 249) hx hb dX5_stat_7 (by rw [h154]; decide) (by rw [h154]; decide) (by rw [h154]; decide) (by decide) ?_
                                refine lv_aload_n hx hb dX5_stat_249 rfl (lv_at hl 0 rfl) ?_
                                refine va_get (D := (dC, dI)) (ci := 8) (fs := oF_X5 ad pr v) (v := .ref (ad 902)) (C := RX5) (T := TX5) (N := 7) hx hb ht itX5 hown hK hP 3 rfl rfl 3 (by decide) (ht _ tw_608) (fun _ h9 => h9) rfl dX5_stat_250 ?_
                                refine lv_iconst (v := 1) hx hb dX5_stat_253 (by decide) ?_
                                refine W.sz (fun hz9 => ?_)
                                refine czx_v (rx_Vk (n := 1) (As := [.int 1]) (rest := []) hx hb hml hown ht hKK hFx hP hD hS hA ((cq_all l n).1 dC dI cI cB cZ cJ cR tb H.size ad pr N L1 L2 v (1 : Int32) ps (show 0 ≤ (v.1 0 304).toInt ∧ (v.1 0 304).toInt ≤ 1503 from (om_c99648273b z304)) (show 0 ≤ (v.1 0 306).toInt ∧ (v.1 0 306).toInt ≤ 40 from (om_7eaf33e007 z306)) (show 0 ≤ (v.1 0 312).toInt ∧ (v.1 0 312).toInt ≤ 500 from (om_9861e69da5 z312)) (show 0 ≤ (v.1 0 321).toInt ∧ (v.1 0 321).toInt ≤ 501 from (om_e1d35f5faf z321)) (show 0 ≤ (v.1 0 326).toInt ∧ (v.1 0 326).toInt ≤ 420 from (om_839d7ed7dd z326)) (show 0 ≤ (v.1 0 373).toInt ∧ (v.1 0 373).toInt ≤ 4000 from (om_c74a68af25 z373)) (show 0 ≤ (v.1 0 381).toInt ∧ (v.1 0 381).toInt ≤ 3008 from (om_e78eec72e1 z381)) (show L1.length = 40 from hL1) (show L2.length = 60 from hL2) (show RP v from rp) (show pr ps = ad 908 from hps) (show (v.1 0 300) = ps from es300) (show (v.1 0 310) = ps from es310) (show l.stackTraces = false from hst) (show 40 ≤ (v.1 0 306).toInt + (n : Int) from (om_a9150ae9b6 zn))) tw_520 tw_609 (by decide +kernel) rfl rfl ⟨show (8 * n + 20) + 1 ≤ 8 * n + 40 from om_38ba114efc, show 8 + (5 + 11) + 28 * (8 * n + 20) ≤ 28 * (8 * n + 40) from om_237ccf37c6⟩ (List.range (cW ad pr N cI cR L1 L2 v).length) (rg_map _) (nd_range _) 2 rfl rfl rfl rfl hl.1 rfl (Nat.le_of_ble_eq_true rfl) dX5_stat_254 ⟨Nat.le_of_ble_eq_true rfl, Nat.le_of_ble_eq_true rfl⟩) hP hD hS hA (fun u9 ce9 q9 H locs hx9 hP hD hS hc9 hv9 hf9 => ?_) (fun u156 H locs hw155 hP hD hS hz8 => ?_)
                                · exact vx_out (fun x h9 => (hnt x h9).elim) hlocks hc9 hv9 hf9 (fun t9 ht9 hv8 => ⟨u9, ⟨FC.tr (FC.rf _) hx9.1, hx9.2⟩, ⟨rfl, by rw [ht9]; exact hP, hD⟩, hS.F ht9⟩) hS.2.2 (Nat.le_refl _) (Nat.le_refl _)
                                refine W.shrink (hz8.trans hz9) ?_
                                obtain ⟨fr155, i306155, i321155, i326155, i381155, po155⟩ := hw155
                                refine lv_aload_n hx hb dX5_stat_257 rfl (lv_at hl 0 rfl) ?_
                                refine va_get (D := (dC, dI)) (ci := 8) (fs := oF_X5 ad pr u156) (v := .ref (ad 900)) (C := RX5) (T := TX5) (N := 7) hx hb ht itX5 hown hK hP 3 rfl rfl 1 (by decide) (ht _ tw_571) (fun _ h9 => h9) rfl dX5_stat_258 ?_
                                refine lv_bipush (v := 36) hx hb dX5_stat_261 (by decide) ?_
                                have q158 : (u156.1 0 304).toInt = (v.1 0 304).toInt := congrArg Int32.toInt ((fr155.2.1 304 (by decide)).trans (show v.1 0 304 = (v.1 0 304) by rfl))
                                have q159 : (u156.1 0 373).toInt = (v.1 0 373).toInt := congrArg Int32.toInt ((fr155.2.1 373 (by decide)).trans (show v.1 0 373 = (v.1 0 373) by rfl))
                                refine W.sz (fun hz9 => ?_)
                                refine czx_v (rx_Vk (n := 1) (As := [.int 36]) (rest := []) hx hb hml hown ht hKK hFx hP hD hS hA (c_x_X9_expect l dC dI cI cB cZ cJ cR tb H.size ad pr N L1 L2 u156 (36 : Int32) ps (show 0 ≤ (u156.1 0 304).toInt ∧ (u156.1 0 304).toInt ≤ 1503 from (om_73002589c1 z304 q158)) (show 0 ≤ (u156.1 0 373).toInt ∧ (u156.1 0 373).toInt ≤ 4000 from (om_9084c127ed z373 q159)) (show pr ps = ad 908 from hps) (show (u156.1 0 300) = ps from (Eq.trans (fr155.2.1 300 (by decide)) es300)) (show l.stackTraces = false from hst)) tw_526 tw_580 (by decide +kernel) rfl rfl ⟨show 7 + 1 ≤ 8 * n + 40 from om_a597943b8d, show 8 + (2 + 11) + 104 ≤ 28 * (8 * n + 40) from om_10b26f883e⟩ (List.range (cW ad pr N cI cR L1 L2 u156).length) (rg_map _) (nd_range _) 0 rfl rfl rfl rfl hl.1 rfl (Nat.le_of_ble_eq_true rfl) dX5_stat_263 ⟨Nat.le_of_ble_eq_true rfl, Nat.le_of_ble_eq_true rfl⟩) hP hD hS hA (fun u9 ce9 q9 H locs hx9 hP hD hS hc9 hv9 hf9 => ?_) (fun u161 H locs hw160 hP hD hS hz8 => ?_)
                                · exact vx_out (fun x h9 => (hnt x h9).elim) hlocks hc9 hv9 hf9 (fun t9 ht9 hv8 => ⟨u9, ⟨FC.tr (FC.tr (FC.rf _) (FC.up fr155 (by decide) (by decide))) hx9.1, hx9.2⟩, ⟨rfl, by rw [ht9]; exact hP, hD⟩, hS.F ht9⟩) hS.2.2 (Nat.le_refl _) (Nat.le_refl _)
                                refine W.shrink (hz8.trans hz9) ?_
                                have fr160 := hw160
                                have q163 : (u161.1 0 306).toInt = (u156.1 0 306).toInt := congrArg Int32.toInt ((fr160.2.1 306 (by decide)).trans (show u156.1 0 306 = (u156.1 0 306) by rfl))
                                have q164 : (u156.1 0 312).toInt = (v.1 0 312).toInt := congrArg Int32.toInt ((fr155.2.1 312 (by decide)).trans (show v.1 0 312 = (v.1 0 312) by rfl))
                                have q165 : (u161.1 0 312).toInt = (u156.1 0 312).toInt := congrArg Int32.toInt ((fr160.2.1 312 (by decide)).trans (show u156.1 0 312 = (u156.1 0 312) by rfl))
                                have q166 : (u161.1 0 321).toInt = (u156.1 0 321).toInt := congrArg Int32.toInt ((fr160.2.1 321 (by decide)).trans (show u156.1 0 321 = (u156.1 0 321) by rfl))
                                have q167 : (u161.1 0 326).toInt = (u156.1 0 326).toInt := congrArg Int32.toInt ((fr160.2.1 326 (by decide)).trans (show u156.1 0 326 = (u156.1 0 326) by rfl))
                                have q168 : (u161.1 0 381).toInt = (u156.1 0 381).toInt := congrArg Int32.toInt ((fr160.2.1 381 (by decide)).trans (show u156.1 0 381 = (u156.1 0 381) by rfl))
                                refine W.sz (fun hz => ?_)
                                refine vx_ret ?_
                                refine W.widen (k := 1) (n := 6) (Nat.le_of_ble_eq_true rfl) (Nat.le_of_ble_eq_true rfl) ?_
                                exact W.vret hx hb hr (fun t ht9 hW => ⟨⟨u161, rfl, ⟨(FC.tr (FC.tr (FC.rf _) (FC.up fr155 (by decide) (by decide))) (FC.up fr160 (by decide) (by decide))), (show 0 ≤ (u161.1 0 306).toInt ∧ (u161.1 0 306).toInt ≤ 40 from (om_99e115f631 i306155 q163)), (show 0 ≤ (u161.1 0 312).toInt ∧ (u161.1 0 312).toInt ≤ 500 from (om_8a5975ec21 z312 q164 q165)), (show 0 ≤ (u161.1 0 321).toInt ∧ (u161.1 0 321).toInt ≤ 501 from (om_ff27494c0e i321155 q166)), (show 0 ≤ (u161.1 0 326).toInt ∧ (u161.1 0 326).toInt ≤ 420 from (om_8ed0dedb19 i326155 q167)), (show 0 ≤ (u161.1 0 381).toInt ∧ (u161.1 0 381).toInt ≤ 3008 from (om_6e4eb11ad3 i381155 q168)), (show (u161.1 0 306).toInt = (v.1 0 306).toInt from (om_837b7bd001 po155 q163))⟩, ⟨by rw [ht9]; exact hP, hD⟩, by rw [ht9]; exact hz⟩, hS.F ht9⟩) hS.2.2 dX5_stat_266
                              ·
                                by_cases h169 : r3 = 25
                                · refine lv_tableIn (off := 242) (tgt := 249) hx hb dX5_stat_7 (by rw [h169]; decide) (by rw [h169]; decide) (by rw [h169]; decide) (by decide) ?_
                                  refine lv_aload_n hx hb dX5_stat_249 rfl (lv_at hl 0 rfl) ?_
                                  refine va_get (D := (dC, dI)) (ci := 8) (fs := oF_X5 ad pr v) (v := .ref (ad 902)) (C := RX5) (T := TX5) (N := 7) hx hb ht itX5 hown hK hP 3 rfl rfl 3 (by decide) (ht _ tw_608) (fun _ h9 => h9) rfl dX5_stat_250 ?_
                                  refine lv_iconst (v := 1) hx hb dX5_stat_253 (by decide) ?_
                                  refine W.sz (fun hz9 => ?_)
                                  refine czx_v (rx_Vk (n := 1) (As := [.int 1]) (rest := []) hx hb hml hown ht hKK hFx hP hD hS hA ((cq_all l n).1 dC dI cI cB cZ cJ cR tb H.size ad pr N L1 L2 v (1 : Int32) ps (show 0 ≤ (v.1 0 304).toInt ∧ (v.1 0 304).toInt ≤ 1503 from (om_c99648273b z304)) (show 0 ≤ (v.1 0 306).toInt ∧ (v.1 0 306).toInt ≤ 40 from (om_7eaf33e007 z306)) (show 0 ≤ (v.1 0 312).toInt ∧ (v.1 0 312).toInt ≤ 500 from (om_9861e69da5 z312)) (show 0 ≤ (v.1 0 321).toInt ∧ (v.1 0 321).toInt ≤ 501 from (om_e1d35f5faf z321)) (show 0 ≤ (v.1 0 326).toInt ∧ (v.1 0 326).toInt ≤ 420 from (om_839d7ed7dd z326)) (show 0 ≤ (v.1 0 373).toInt ∧ (v.1 0 373).toInt ≤ 4000 from (om_c74a68af25 z373)) (show 0 ≤ (v.1 0 381).toInt ∧ (v.1 0 381).toInt ≤ 3008 from (om_e78eec72e1 z381)) (show L1.length = 40 from hL1) (show L2.length = 60 from hL2) (show RP v from rp) (show pr ps = ad 908 from hps) (show (v.1 0 300) = ps from es300) (show (v.1 0 310) = ps from es310) (show l.stackTraces = false from hst) (show 40 ≤ (v.1 0 306).toInt + (n : Int) from (om_a9150ae9b6 zn))) tw_520 tw_609 (by decide +kernel) rfl rfl ⟨show (8 * n + 20) + 1 ≤ 8 * n + 40 from om_38ba114efc, show 8 + (5 + 11) + 28 * (8 * n + 20) ≤ 28 * (8 * n + 40) from om_237ccf37c6⟩ (List.range (cW ad pr N cI cR L1 L2 v).length) (rg_map _) (nd_range _) 2 rfl rfl rfl rfl hl.1 rfl (Nat.le_of_ble_eq_true rfl) dX5_stat_254 ⟨Nat.le_of_ble_eq_true rfl, Nat.le_of_ble_eq_true rfl⟩) hP hD hS hA (fun u9 ce9 q9 H locs hx9 hP hD hS hc9 hv9 hf9 => ?_) (fun u171 H locs hw170 hP hD hS hz8 => ?_)
                                  · exact vx_out (fun x h9 => (hnt x h9).elim) hlocks hc9 hv9 hf9 (fun t9 ht9 hv8 => ⟨u9, ⟨FC.tr (FC.rf _) hx9.1, hx9.2⟩, ⟨rfl, by rw [ht9]; exact hP, hD⟩, hS.F ht9⟩) hS.2.2 (Nat.le_refl _) (Nat.le_refl _)
                                  refine W.shrink (hz8.trans hz9) ?_
                                  obtain ⟨fr170, i306170, i321170, i326170, i381170, po170⟩ := hw170
                                  refine lv_aload_n hx hb dX5_stat_257 rfl (lv_at hl 0 rfl) ?_
                                  refine va_get (D := (dC, dI)) (ci := 8) (fs := oF_X5 ad pr u171) (v := .ref (ad 900)) (C := RX5) (T := TX5) (N := 7) hx hb ht itX5 hown hK hP 3 rfl rfl 1 (by decide) (ht _ tw_571) (fun _ h9 => h9) rfl dX5_stat_258 ?_
                                  refine lv_bipush (v := 36) hx hb dX5_stat_261 (by decide) ?_
                                  have q173 : (u171.1 0 304).toInt = (v.1 0 304).toInt := congrArg Int32.toInt ((fr170.2.1 304 (by decide)).trans (show v.1 0 304 = (v.1 0 304) by rfl))
                                  have q174 : (u171.1 0 373).toInt = (v.1 0 373).toInt := congrArg Int32.toInt ((fr170.2.1 373 (by decide)).trans (show v.1 0 373 = (v.1 0 373) by rfl))
                                  refine W.sz (fun hz9 => ?_)
                                  refine czx_v (rx_Vk (n := 1) (As := [.int 36]) (rest := []) hx hb hml hown ht hKK hFx hP hD hS hA (c_x_X9_expect l dC dI cI cB cZ cJ cR tb H.size ad pr N L1 L2 u171 (36 : Int32) ps (show 0 ≤ (u171.1 0 304).toInt ∧ (u171.1 0 304).toInt ≤ 1503 from (om_73002589c1 z304 q173)) (show 0 ≤ (u171.1 0 373).toInt ∧ (u171.1 0 373).toInt ≤ 4000 from (om_9084c127ed z373 q174)) (show pr ps = ad 908 from hps) (show (u171.1 0 300) = ps from (Eq.trans (fr170.2.1 300 (by decide)) es300)) (show l.stackTraces = false from hst)) tw_526 tw_580 (by decide +kernel) rfl rfl ⟨show 7 + 1 ≤ 8 * n + 40 from om_a597943b8d, show 8 + (2 + 11) + 104 ≤ 28 * (8 * n + 40) from om_10b26f883e⟩ (List.range (cW ad pr N cI cR L1 L2 u171).length) (rg_map _) (nd_range _) 0 rfl rfl rfl rfl hl.1 rfl (Nat.le_of_ble_eq_true rfl) dX5_stat_263 ⟨Nat.le_of_ble_eq_true rfl, Nat.le_of_ble_eq_true rfl⟩) hP hD hS hA (fun u9 ce9 q9 H locs hx9 hP hD hS hc9 hv9 hf9 => ?_) (fun u176 H locs hw175 hP hD hS hz8 => ?_)
                                  · exact vx_out (fun x h9 => (hnt x h9).elim) hlocks hc9 hv9 hf9 (fun t9 ht9 hv8 => ⟨u9, ⟨FC.tr (FC.tr (FC.rf _) (FC.up fr170 (by decide) (by decide))) hx9.1, hx9.2⟩, ⟨rfl, by rw [ht9]; exact hP, hD⟩, hS.F ht9⟩) hS.2.2 (Nat.le_refl _) (Nat.le_refl _)
                                  refine W.shrink (hz8.trans hz9) ?_
                                  have fr175 := hw175
                                  have q178 : (u176.1 0 306).toInt = (u171.1 0 306).toInt := congrArg Int32.toInt ((fr175.2.1 306 (by decide)).trans (show u171.1 0 306 = (u171.1 0 306) by rfl))
                                  have q179 : (u171.1 0 312).toInt = (v.1 0 312).toInt := congrArg Int32.toInt ((fr170.2.1 312 (by decide)).trans (show v.1 0 312 = (v.1 0 312) by rfl))
                                  have q180 : (u176.1 0 312).toInt = (u171.1 0 312).toInt := congrArg Int32.toInt ((fr175.2.1 312 (by decide)).trans (show u171.1 0 312 = (u171.1 0 312) by rfl))
                                  have q181 : (u176.1 0 321).toInt = (u171.1 0 321).toInt := congrArg Int32.toInt ((fr175.2.1 321 (by decide)).trans (show u171.1 0 321 = (u171.1 0 321) by rfl))
                                  have q182 : (u176.1 0 326).toInt = (u171.1 0 326).toInt := congrArg Int32.toInt ((fr175.2.1 326 (by decide)).trans (show u171.1 0 326 = (u171.1 0 326) by rfl))
                                  have q183 : (u176.1 0 381).toInt = (u171.1 0 381).toInt := congrArg Int32.toInt ((fr175.2.1 381 (by decide)).trans (show u171.1 0 381 = (u171.1 0 381) by rfl))
                                  refine W.sz (fun hz => ?_)
                                  refine vx_ret ?_
                                  refine W.widen (k := 1) (n := 6) (Nat.le_of_ble_eq_true rfl) (Nat.le_of_ble_eq_true rfl) ?_
                                  exact W.vret hx hb hr (fun t ht9 hW => ⟨⟨u176, rfl, ⟨(FC.tr (FC.tr (FC.rf _) (FC.up fr170 (by decide) (by decide))) (FC.up fr175 (by decide) (by decide))), (show 0 ≤ (u176.1 0 306).toInt ∧ (u176.1 0 306).toInt ≤ 40 from (om_99e115f631 i306170 q178)), (show 0 ≤ (u176.1 0 312).toInt ∧ (u176.1 0 312).toInt ≤ 500 from (om_8a5975ec21 z312 q179 q180)), (show 0 ≤ (u176.1 0 321).toInt ∧ (u176.1 0 321).toInt ≤ 501 from (om_ff27494c0e i321170 q181)), (show 0 ≤ (u176.1 0 326).toInt ∧ (u176.1 0 326).toInt ≤ 420 from (om_8ed0dedb19 i326170 q182)), (show 0 ≤ (u176.1 0 381).toInt ∧ (u176.1 0 381).toInt ≤ 3008 from (om_6e4eb11ad3 i381170 q183)), (show (u176.1 0 306).toInt = (v.1 0 306).toInt from (om_837b7bd001 po170 q178))⟩, ⟨by rw [ht9]; exact hP, hD⟩, by rw [ht9]; exact hz⟩, hS.F ht9⟩) hS.2.2 dX5_stat_266
                                ·
                                  by_cases h184 : r3 = 26
                                  · refine lv_tableIn (off := 242) (tgt := 249) hx hb dX5_stat_7 (by rw [h184]; decide) (by rw [h184]; decide) (by rw [h184]; decide) (by decide) ?_
                                    refine lv_aload_n hx hb dX5_stat_249 rfl (lv_at hl 0 rfl) ?_
                                    refine va_get (D := (dC, dI)) (ci := 8) (fs := oF_X5 ad pr v) (v := .ref (ad 902)) (C := RX5) (T := TX5) (N := 7) hx hb ht itX5 hown hK hP 3 rfl rfl 3 (by decide) (ht _ tw_608) (fun _ h9 => h9) rfl dX5_stat_250 ?_
                                    refine lv_iconst (v := 1) hx hb dX5_stat_253 (by decide) ?_
                                    refine W.sz (fun hz9 => ?_)
                                    refine czx_v (rx_Vk (n := 1) (As := [.int 1]) (rest := []) hx hb hml hown ht hKK hFx hP hD hS hA ((cq_all l n).1 dC dI cI cB cZ cJ cR tb H.size ad pr N L1 L2 v (1 : Int32) ps (show 0 ≤ (v.1 0 304).toInt ∧ (v.1 0 304).toInt ≤ 1503 from (om_c99648273b z304)) (show 0 ≤ (v.1 0 306).toInt ∧ (v.1 0 306).toInt ≤ 40 from (om_7eaf33e007 z306)) (show 0 ≤ (v.1 0 312).toInt ∧ (v.1 0 312).toInt ≤ 500 from (om_9861e69da5 z312)) (show 0 ≤ (v.1 0 321).toInt ∧ (v.1 0 321).toInt ≤ 501 from (om_e1d35f5faf z321)) (show 0 ≤ (v.1 0 326).toInt ∧ (v.1 0 326).toInt ≤ 420 from (om_839d7ed7dd z326)) (show 0 ≤ (v.1 0 373).toInt ∧ (v.1 0 373).toInt ≤ 4000 from (om_c74a68af25 z373)) (show 0 ≤ (v.1 0 381).toInt ∧ (v.1 0 381).toInt ≤ 3008 from (om_e78eec72e1 z381)) (show L1.length = 40 from hL1) (show L2.length = 60 from hL2) (show RP v from rp) (show pr ps = ad 908 from hps) (show (v.1 0 300) = ps from es300) (show (v.1 0 310) = ps from es310) (show l.stackTraces = false from hst) (show 40 ≤ (v.1 0 306).toInt + (n : Int) from (om_a9150ae9b6 zn))) tw_520 tw_609 (by decide +kernel) rfl rfl ⟨show (8 * n + 20) + 1 ≤ 8 * n + 40 from om_38ba114efc, show 8 + (5 + 11) + 28 * (8 * n + 20) ≤ 28 * (8 * n + 40) from om_237ccf37c6⟩ (List.range (cW ad pr N cI cR L1 L2 v).length) (rg_map _) (nd_range _) 2 rfl rfl rfl rfl hl.1 rfl (Nat.le_of_ble_eq_true rfl) dX5_stat_254 ⟨Nat.le_of_ble_eq_true rfl, Nat.le_of_ble_eq_true rfl⟩) hP hD hS hA (fun u9 ce9 q9 H locs hx9 hP hD hS hc9 hv9 hf9 => ?_) (fun u186 H locs hw185 hP hD hS hz8 => ?_)
                                    · exact vx_out (fun x h9 => (hnt x h9).elim) hlocks hc9 hv9 hf9 (fun t9 ht9 hv8 => ⟨u9, ⟨FC.tr (FC.rf _) hx9.1, hx9.2⟩, ⟨rfl, by rw [ht9]; exact hP, hD⟩, hS.F ht9⟩) hS.2.2 (Nat.le_refl _) (Nat.le_refl _)
                                    refine W.shrink (hz8.trans hz9) ?_
                                    obtain ⟨fr185, i306185, i321185, i326185, i381185, po185⟩ := hw185
                                    refine lv_aload_n hx hb dX5_stat_257 rfl (lv_at hl 0 rfl) ?_
                                    refine va_get (D := (dC, dI)) (ci := 8) (fs := oF_X5 ad pr u186) (v := .ref (ad 900)) (C := RX5) (T := TX5) (N := 7) hx hb ht itX5 hown hK hP 3 rfl rfl 1 (by decide) (ht _ tw_571) (fun _ h9 => h9) rfl dX5_stat_258 ?_
                                    refine lv_bipush (v := 36) hx hb dX5_stat_261 (by decide) ?_
                                    have q188 : (u186.1 0 304).toInt = (v.1 0 304).toInt := congrArg Int32.toInt ((fr185.2.1 304 (by decide)).trans (show v.1 0 304 = (v.1 0 304) by rfl))
                                    have q189 : (u186.1 0 373).toInt = (v.1 0 373).toInt := congrArg Int32.toInt ((fr185.2.1 373 (by decide)).trans (show v.1 0 373 = (v.1 0 373) by rfl))
                                    refine W.sz (fun hz9 => ?_)
                                    refine czx_v (rx_Vk (n := 1) (As := [.int 36]) (rest := []) hx hb hml hown ht hKK hFx hP hD hS hA (c_x_X9_expect l dC dI cI cB cZ cJ cR tb H.size ad pr N L1 L2 u186 (36 : Int32) ps (show 0 ≤ (u186.1 0 304).toInt ∧ (u186.1 0 304).toInt ≤ 1503 from (om_73002589c1 z304 q188)) (show 0 ≤ (u186.1 0 373).toInt ∧ (u186.1 0 373).toInt ≤ 4000 from (om_9084c127ed z373 q189)) (show pr ps = ad 908 from hps) (show (u186.1 0 300) = ps from (Eq.trans (fr185.2.1 300 (by decide)) es300)) (show l.stackTraces = false from hst)) tw_526 tw_580 (by decide +kernel) rfl rfl ⟨show 7 + 1 ≤ 8 * n + 40 from om_a597943b8d, show 8 + (2 + 11) + 104 ≤ 28 * (8 * n + 40) from om_10b26f883e⟩ (List.range (cW ad pr N cI cR L1 L2 u186).length) (rg_map _) (nd_range _) 0 rfl rfl rfl rfl hl.1 rfl (Nat.le_of_ble_eq_true rfl) dX5_stat_263 ⟨Nat.le_of_ble_eq_true rfl, Nat.le_of_ble_eq_true rfl⟩) hP hD hS hA (fun u9 ce9 q9 H locs hx9 hP hD hS hc9 hv9 hf9 => ?_) (fun u191 H locs hw190 hP hD hS hz8 => ?_)
                                    · exact vx_out (fun x h9 => (hnt x h9).elim) hlocks hc9 hv9 hf9 (fun t9 ht9 hv8 => ⟨u9, ⟨FC.tr (FC.tr (FC.rf _) (FC.up fr185 (by decide) (by decide))) hx9.1, hx9.2⟩, ⟨rfl, by rw [ht9]; exact hP, hD⟩, hS.F ht9⟩) hS.2.2 (Nat.le_refl _) (Nat.le_refl _)
                                    refine W.shrink (hz8.trans hz9) ?_
                                    have fr190 := hw190
                                    have q193 : (u191.1 0 306).toInt = (u186.1 0 306).toInt := congrArg Int32.toInt ((fr190.2.1 306 (by decide)).trans (show u186.1 0 306 = (u186.1 0 306) by rfl))
                                    have q194 : (u186.1 0 312).toInt = (v.1 0 312).toInt := congrArg Int32.toInt ((fr185.2.1 312 (by decide)).trans (show v.1 0 312 = (v.1 0 312) by rfl))
                                    have q195 : (u191.1 0 312).toInt = (u186.1 0 312).toInt := congrArg Int32.toInt ((fr190.2.1 312 (by decide)).trans (show u186.1 0 312 = (u186.1 0 312) by rfl))
                                    have q196 : (u191.1 0 321).toInt = (u186.1 0 321).toInt := congrArg Int32.toInt ((fr190.2.1 321 (by decide)).trans (show u186.1 0 321 = (u186.1 0 321) by rfl))
                                    have q197 : (u191.1 0 326).toInt = (u186.1 0 326).toInt := congrArg Int32.toInt ((fr190.2.1 326 (by decide)).trans (show u186.1 0 326 = (u186.1 0 326) by rfl))
                                    have q198 : (u191.1 0 381).toInt = (u186.1 0 381).toInt := congrArg Int32.toInt ((fr190.2.1 381 (by decide)).trans (show u186.1 0 381 = (u186.1 0 381) by rfl))
                                    refine W.sz (fun hz => ?_)
                                    refine vx_ret ?_
                                    refine W.widen (k := 1) (n := 6) (Nat.le_of_ble_eq_true rfl) (Nat.le_of_ble_eq_true rfl) ?_
                                    exact W.vret hx hb hr (fun t ht9 hW => ⟨⟨u191, rfl, ⟨(FC.tr (FC.tr (FC.rf _) (FC.up fr185 (by decide) (by decide))) (FC.up fr190 (by decide) (by decide))), (show 0 ≤ (u191.1 0 306).toInt ∧ (u191.1 0 306).toInt ≤ 40 from (om_99e115f631 i306185 q193)), (show 0 ≤ (u191.1 0 312).toInt ∧ (u191.1 0 312).toInt ≤ 500 from (om_8a5975ec21 z312 q194 q195)), (show 0 ≤ (u191.1 0 321).toInt ∧ (u191.1 0 321).toInt ≤ 501 from (om_ff27494c0e i321185 q196)), (show 0 ≤ (u191.1 0 326).toInt ∧ (u191.1 0 326).toInt ≤ 420 from (om_8ed0dedb19 i326185 q197)), (show 0 ≤ (u191.1 0 381).toInt ∧ (u191.1 0 381).toInt ≤ 3008 from (om_6e4eb11ad3 i381185 q198)), (show (u191.1 0 306).toInt = (v.1 0 306).toInt from (om_837b7bd001 po185 q193))⟩, ⟨by rw [ht9]; exact hP, hD⟩, by rw [ht9]; exact hz⟩, hS.F ht9⟩) hS.2.2 dX5_stat_266
                                  ·
                                    by_cases h199 : r3 = 27
                                    · refine lv_tableIn (off := 242) (tgt := 249) hx hb dX5_stat_7 (by rw [h199]; decide) (by rw [h199]; decide) (by rw [h199]; decide) (by decide) ?_
                                      refine lv_aload_n hx hb dX5_stat_249 rfl (lv_at hl 0 rfl) ?_
                                      refine va_get (D := (dC, dI)) (ci := 8) (fs := oF_X5 ad pr v) (v := .ref (ad 902)) (C := RX5) (T := TX5) (N := 7) hx hb ht itX5 hown hK hP 3 rfl rfl 3 (by decide) (ht _ tw_608) (fun _ h9 => h9) rfl dX5_stat_250 ?_
                                      refine lv_iconst (v := 1) hx hb dX5_stat_253 (by decide) ?_
                                      refine W.sz (fun hz9 => ?_)
                                      refine czx_v (rx_Vk (n := 1) (As := [.int 1]) (rest := []) hx hb hml hown ht hKK hFx hP hD hS hA ((cq_all l n).1 dC dI cI cB cZ cJ cR tb H.size ad pr N L1 L2 v (1 : Int32) ps (show 0 ≤ (v.1 0 304).toInt ∧ (v.1 0 304).toInt ≤ 1503 from (om_c99648273b z304)) (show 0 ≤ (v.1 0 306).toInt ∧ (v.1 0 306).toInt ≤ 40 from (om_7eaf33e007 z306)) (show 0 ≤ (v.1 0 312).toInt ∧ (v.1 0 312).toInt ≤ 500 from (om_9861e69da5 z312)) (show 0 ≤ (v.1 0 321).toInt ∧ (v.1 0 321).toInt ≤ 501 from (om_e1d35f5faf z321)) (show 0 ≤ (v.1 0 326).toInt ∧ (v.1 0 326).toInt ≤ 420 from (om_839d7ed7dd z326)) (show 0 ≤ (v.1 0 373).toInt ∧ (v.1 0 373).toInt ≤ 4000 from (om_c74a68af25 z373)) (show 0 ≤ (v.1 0 381).toInt ∧ (v.1 0 381).toInt ≤ 3008 from (om_e78eec72e1 z381)) (show L1.length = 40 from hL1) (show L2.length = 60 from hL2) (show RP v from rp) (show pr ps = ad 908 from hps) (show (v.1 0 300) = ps from es300) (show (v.1 0 310) = ps from es310) (show l.stackTraces = false from hst) (show 40 ≤ (v.1 0 306).toInt + (n : Int) from (om_a9150ae9b6 zn))) tw_520 tw_609 (by decide +kernel) rfl rfl ⟨show (8 * n + 20) + 1 ≤ 8 * n + 40 from om_38ba114efc, show 8 + (5 + 11) + 28 * (8 * n + 20) ≤ 28 * (8 * n + 40) from om_237ccf37c6⟩ (List.range (cW ad pr N cI cR L1 L2 v).length) (rg_map _) (nd_range _) 2 rfl rfl rfl rfl hl.1 rfl (Nat.le_of_ble_eq_true rfl) dX5_stat_254 ⟨Nat.le_of_ble_eq_true rfl, Nat.le_of_ble_eq_true rfl⟩) hP hD hS hA (fun u9 ce9 q9 H locs hx9 hP hD hS hc9 hv9 hf9 => ?_) (fun u201 H locs hw200 hP hD hS hz8 => ?_)
                                      · exact vx_out (fun x h9 => (hnt x h9).elim) hlocks hc9 hv9 hf9 (fun t9 ht9 hv8 => ⟨u9, ⟨FC.tr (FC.rf _) hx9.1, hx9.2⟩, ⟨rfl, by rw [ht9]; exact hP, hD⟩, hS.F ht9⟩) hS.2.2 (Nat.le_refl _) (Nat.le_refl _)
                                      refine W.shrink (hz8.trans hz9) ?_
                                      obtain ⟨fr200, i306200, i321200, i326200, i381200, po200⟩ := hw200
                                      refine lv_aload_n hx hb dX5_stat_257 rfl (lv_at hl 0 rfl) ?_
                                      refine va_get (D := (dC, dI)) (ci := 8) (fs := oF_X5 ad pr u201) (v := .ref (ad 900)) (C := RX5) (T := TX5) (N := 7) hx hb ht itX5 hown hK hP 3 rfl rfl 1 (by decide) (ht _ tw_571) (fun _ h9 => h9) rfl dX5_stat_258 ?_
                                      refine lv_bipush (v := 36) hx hb dX5_stat_261 (by decide) ?_
                                      have q203 : (u201.1 0 304).toInt = (v.1 0 304).toInt := congrArg Int32.toInt ((fr200.2.1 304 (by decide)).trans (show v.1 0 304 = (v.1 0 304) by rfl))
                                      have q204 : (u201.1 0 373).toInt = (v.1 0 373).toInt := congrArg Int32.toInt ((fr200.2.1 373 (by decide)).trans (show v.1 0 373 = (v.1 0 373) by rfl))
                                      refine W.sz (fun hz9 => ?_)
                                      refine czx_v (rx_Vk (n := 1) (As := [.int 36]) (rest := []) hx hb hml hown ht hKK hFx hP hD hS hA (c_x_X9_expect l dC dI cI cB cZ cJ cR tb H.size ad pr N L1 L2 u201 (36 : Int32) ps (show 0 ≤ (u201.1 0 304).toInt ∧ (u201.1 0 304).toInt ≤ 1503 from (om_73002589c1 z304 q203)) (show 0 ≤ (u201.1 0 373).toInt ∧ (u201.1 0 373).toInt ≤ 4000 from (om_9084c127ed z373 q204)) (show pr ps = ad 908 from hps) (show (u201.1 0 300) = ps from (Eq.trans (fr200.2.1 300 (by decide)) es300)) (show l.stackTraces = false from hst)) tw_526 tw_580 (by decide +kernel) rfl rfl ⟨show 7 + 1 ≤ 8 * n + 40 from om_a597943b8d, show 8 + (2 + 11) + 104 ≤ 28 * (8 * n + 40) from om_10b26f883e⟩ (List.range (cW ad pr N cI cR L1 L2 u201).length) (rg_map _) (nd_range _) 0 rfl rfl rfl rfl hl.1 rfl (Nat.le_of_ble_eq_true rfl) dX5_stat_263 ⟨Nat.le_of_ble_eq_true rfl, Nat.le_of_ble_eq_true rfl⟩) hP hD hS hA (fun u9 ce9 q9 H locs hx9 hP hD hS hc9 hv9 hf9 => ?_) (fun u206 H locs hw205 hP hD hS hz8 => ?_)
                                      · exact vx_out (fun x h9 => (hnt x h9).elim) hlocks hc9 hv9 hf9 (fun t9 ht9 hv8 => ⟨u9, ⟨FC.tr (FC.tr (FC.rf _) (FC.up fr200 (by decide) (by decide))) hx9.1, hx9.2⟩, ⟨rfl, by rw [ht9]; exact hP, hD⟩, hS.F ht9⟩) hS.2.2 (Nat.le_refl _) (Nat.le_refl _)
                                      refine W.shrink (hz8.trans hz9) ?_
                                      have fr205 := hw205
                                      have q208 : (u206.1 0 306).toInt = (u201.1 0 306).toInt := congrArg Int32.toInt ((fr205.2.1 306 (by decide)).trans (show u201.1 0 306 = (u201.1 0 306) by rfl))
                                      have q209 : (u201.1 0 312).toInt = (v.1 0 312).toInt := congrArg Int32.toInt ((fr200.2.1 312 (by decide)).trans (show v.1 0 312 = (v.1 0 312) by rfl))
                                      have q210 : (u206.1 0 312).toInt = (u201.1 0 312).toInt := congrArg Int32.toInt ((fr205.2.1 312 (by decide)).trans (show u201.1 0 312 = (u201.1 0 312) by rfl))
                                      have q211 : (u206.1 0 321).toInt = (u201.1 0 321).toInt := congrArg Int32.toInt ((fr205.2.1 321 (by decide)).trans (show u201.1 0 321 = (u201.1 0 321) by rfl))
                                      have q212 : (u206.1 0 326).toInt = (u201.1 0 326).toInt := congrArg Int32.toInt ((fr205.2.1 326 (by decide)).trans (show u201.1 0 326 = (u201.1 0 326) by rfl))
                                      have q213 : (u206.1 0 381).toInt = (u201.1 0 381).toInt := congrArg Int32.toInt ((fr205.2.1 381 (by decide)).trans (show u201.1 0 381 = (u201.1 0 381) by rfl))
                                      refine W.sz (fun hz => ?_)
                                      refine vx_ret ?_
                                      refine W.widen (k := 1) (n := 6) (Nat.le_of_ble_eq_true rfl) (Nat.le_of_ble_eq_true rfl) ?_
                                      exact W.vret hx hb hr (fun t ht9 hW => ⟨⟨u206, rfl, ⟨(FC.tr (FC.tr (FC.rf _) (FC.up fr200 (by decide) (by decide))) (FC.up fr205 (by decide) (by decide))), (show 0 ≤ (u206.1 0 306).toInt ∧ (u206.1 0 306).toInt ≤ 40 from (om_99e115f631 i306200 q208)), (show 0 ≤ (u206.1 0 312).toInt ∧ (u206.1 0 312).toInt ≤ 500 from (om_8a5975ec21 z312 q209 q210)), (show 0 ≤ (u206.1 0 321).toInt ∧ (u206.1 0 321).toInt ≤ 501 from (om_ff27494c0e i321200 q211)), (show 0 ≤ (u206.1 0 326).toInt ∧ (u206.1 0 326).toInt ≤ 420 from (om_8ed0dedb19 i326200 q212)), (show 0 ≤ (u206.1 0 381).toInt ∧ (u206.1 0 381).toInt ≤ 3008 from (om_6e4eb11ad3 i381200 q213)), (show (u206.1 0 306).toInt = (v.1 0 306).toInt from (om_837b7bd001 po200 q208))⟩, ⟨by rw [ht9]; exact hP, hD⟩, by rw [ht9]; exact hz⟩, hS.F ht9⟩) hS.2.2 dX5_stat_266
                                    ·
                                      by_cases h214 : r3 = 28
                                      · refine lv_tableIn (off := 242) (tgt := 249) hx hb dX5_stat_7 (by rw [h214]; decide) (by rw [h214]; decide) (by rw [h214]; decide) (by decide) ?_
                                        refine lv_aload_n hx hb dX5_stat_249 rfl (lv_at hl 0 rfl) ?_
                                        refine va_get (D := (dC, dI)) (ci := 8) (fs := oF_X5 ad pr v) (v := .ref (ad 902)) (C := RX5) (T := TX5) (N := 7) hx hb ht itX5 hown hK hP 3 rfl rfl 3 (by decide) (ht _ tw_608) (fun _ h9 => h9) rfl dX5_stat_250 ?_
                                        refine lv_iconst (v := 1) hx hb dX5_stat_253 (by decide) ?_
                                        refine W.sz (fun hz9 => ?_)
                                        refine czx_v (rx_Vk (n := 1) (As := [.int 1]) (rest := []) hx hb hml hown ht hKK hFx hP hD hS hA ((cq_all l n).1 dC dI cI cB cZ cJ cR tb H.size ad pr N L1 L2 v (1 : Int32) ps (show 0 ≤ (v.1 0 304).toInt ∧ (v.1 0 304).toInt ≤ 1503 from (om_c99648273b z304)) (show 0 ≤ (v.1 0 306).toInt ∧ (v.1 0 306).toInt ≤ 40 from (om_7eaf33e007 z306)) (show 0 ≤ (v.1 0 312).toInt ∧ (v.1 0 312).toInt ≤ 500 from (om_9861e69da5 z312)) (show 0 ≤ (v.1 0 321).toInt ∧ (v.1 0 321).toInt ≤ 501 from (om_e1d35f5faf z321)) (show 0 ≤ (v.1 0 326).toInt ∧ (v.1 0 326).toInt ≤ 420 from (om_839d7ed7dd z326)) (show 0 ≤ (v.1 0 373).toInt ∧ (v.1 0 373).toInt ≤ 4000 from (om_c74a68af25 z373)) (show 0 ≤ (v.1 0 381).toInt ∧ (v.1 0 381).toInt ≤ 3008 from (om_e78eec72e1 z381)) (show L1.length = 40 from hL1) (show L2.length = 60 from hL2) (show RP v from rp) (show pr ps = ad 908 from hps) (show (v.1 0 300) = ps from es300) (show (v.1 0 310) = ps from es310) (show l.stackTraces = false from hst) (show 40 ≤ (v.1 0 306).toInt + (n : Int) from (om_a9150ae9b6 zn))) tw_520 tw_609 (by decide +kernel) rfl rfl ⟨show (8 * n + 20) + 1 ≤ 8 * n + 40 from om_38ba114efc, show 8 + (5 + 11) + 28 * (8 * n + 20) ≤ 28 * (8 * n + 40) from om_237ccf37c6⟩ (List.range (cW ad pr N cI cR L1 L2 v).length) (rg_map _) (nd_range _) 2 rfl rfl rfl rfl hl.1 rfl (Nat.le_of_ble_eq_true rfl) dX5_stat_254 ⟨Nat.le_of_ble_eq_true rfl, Nat.le_of_ble_eq_true rfl⟩) hP hD hS hA (fun u9 ce9 q9 H locs hx9 hP hD hS hc9 hv9 hf9 => ?_) (fun u216 H locs hw215 hP hD hS hz8 => ?_)
                                        · exact vx_out (fun x h9 => (hnt x h9).elim) hlocks hc9 hv9 hf9 (fun t9 ht9 hv8 => ⟨u9, ⟨FC.tr (FC.rf _) hx9.1, hx9.2⟩, ⟨rfl, by rw [ht9]; exact hP, hD⟩, hS.F ht9⟩) hS.2.2 (Nat.le_refl _) (Nat.le_refl _)
                                        refine W.shrink (hz8.trans hz9) ?_
                                        obtain ⟨fr215, i306215, i321215, i326215, i381215, po215⟩ := hw215
                                        refine lv_aload_n hx hb dX5_stat_257 rfl (lv_at hl 0 rfl) ?_
                                        refine va_get (D := (dC, dI)) (ci := 8) (fs := oF_X5 ad pr u216) (v := .ref (ad 900)) (C := RX5) (T := TX5) (N := 7) hx hb ht itX5 hown hK hP 3 rfl rfl 1 (by decide) (ht _ tw_571) (fun _ h9 => h9) rfl dX5_stat_258 ?_
                                        refine lv_bipush (v := 36) hx hb dX5_stat_261 (by decide) ?_
                                        have q218 : (u216.1 0 304).toInt = (v.1 0 304).toInt := congrArg Int32.toInt ((fr215.2.1 304 (by decide)).trans (show v.1 0 304 = (v.1 0 304) by rfl))
                                        have q219 : (u216.1 0 373).toInt = (v.1 0 373).toInt := congrArg Int32.toInt ((fr215.2.1 373 (by decide)).trans (show v.1 0 373 = (v.1 0 373) by rfl))
                                        refine W.sz (fun hz9 => ?_)
                                        refine czx_v (rx_Vk (n := 1) (As := [.int 36]) (rest := []) hx hb hml hown ht hKK hFx hP hD hS hA (c_x_X9_expect l dC dI cI cB cZ cJ cR tb H.size ad pr N L1 L2 u216 (36 : Int32) ps (show 0 ≤ (u216.1 0 304).toInt ∧ (u216.1 0 304).toInt ≤ 1503 from (om_73002589c1 z304 q218)) (show 0 ≤ (u216.1 0 373).toInt ∧ (u216.1 0 373).toInt ≤ 4000 from (om_9084c127ed z373 q219)) (show pr ps = ad 908 from hps) (show (u216.1 0 300) = ps from (Eq.trans (fr215.2.1 300 (by decide)) es300)) (show l.stackTraces = false from hst)) tw_526 tw_580 (by decide +kernel) rfl rfl ⟨show 7 + 1 ≤ 8 * n + 40 from om_a597943b8d, show 8 + (2 + 11) + 104 ≤ 28 * (8 * n + 40) from om_10b26f883e⟩ (List.range (cW ad pr N cI cR L1 L2 u216).length) (rg_map _) (nd_range _) 0 rfl rfl rfl rfl hl.1 rfl (Nat.le_of_ble_eq_true rfl) dX5_stat_263 ⟨Nat.le_of_ble_eq_true rfl, Nat.le_of_ble_eq_true rfl⟩) hP hD hS hA (fun u9 ce9 q9 H locs hx9 hP hD hS hc9 hv9 hf9 => ?_) (fun u221 H locs hw220 hP hD hS hz8 => ?_)
                                        · exact vx_out (fun x h9 => (hnt x h9).elim) hlocks hc9 hv9 hf9 (fun t9 ht9 hv8 => ⟨u9, ⟨FC.tr (FC.tr (FC.rf _) (FC.up fr215 (by decide) (by decide))) hx9.1, hx9.2⟩, ⟨rfl, by rw [ht9]; exact hP, hD⟩, hS.F ht9⟩) hS.2.2 (Nat.le_refl _) (Nat.le_refl _)
                                        refine W.shrink (hz8.trans hz9) ?_
                                        have fr220 := hw220
                                        have q223 : (u221.1 0 306).toInt = (u216.1 0 306).toInt := congrArg Int32.toInt ((fr220.2.1 306 (by decide)).trans (show u216.1 0 306 = (u216.1 0 306) by rfl))
                                        have q224 : (u216.1 0 312).toInt = (v.1 0 312).toInt := congrArg Int32.toInt ((fr215.2.1 312 (by decide)).trans (show v.1 0 312 = (v.1 0 312) by rfl))
                                        have q225 : (u221.1 0 312).toInt = (u216.1 0 312).toInt := congrArg Int32.toInt ((fr220.2.1 312 (by decide)).trans (show u216.1 0 312 = (u216.1 0 312) by rfl))
                                        have q226 : (u221.1 0 321).toInt = (u216.1 0 321).toInt := congrArg Int32.toInt ((fr220.2.1 321 (by decide)).trans (show u216.1 0 321 = (u216.1 0 321) by rfl))
                                        have q227 : (u221.1 0 326).toInt = (u216.1 0 326).toInt := congrArg Int32.toInt ((fr220.2.1 326 (by decide)).trans (show u216.1 0 326 = (u216.1 0 326) by rfl))
                                        have q228 : (u221.1 0 381).toInt = (u216.1 0 381).toInt := congrArg Int32.toInt ((fr220.2.1 381 (by decide)).trans (show u216.1 0 381 = (u216.1 0 381) by rfl))
                                        refine W.sz (fun hz => ?_)
                                        refine vx_ret ?_
                                        refine W.widen (k := 1) (n := 6) (Nat.le_of_ble_eq_true rfl) (Nat.le_of_ble_eq_true rfl) ?_
                                        exact W.vret hx hb hr (fun t ht9 hW => ⟨⟨u221, rfl, ⟨(FC.tr (FC.tr (FC.rf _) (FC.up fr215 (by decide) (by decide))) (FC.up fr220 (by decide) (by decide))), (show 0 ≤ (u221.1 0 306).toInt ∧ (u221.1 0 306).toInt ≤ 40 from (om_99e115f631 i306215 q223)), (show 0 ≤ (u221.1 0 312).toInt ∧ (u221.1 0 312).toInt ≤ 500 from (om_8a5975ec21 z312 q224 q225)), (show 0 ≤ (u221.1 0 321).toInt ∧ (u221.1 0 321).toInt ≤ 501 from (om_ff27494c0e i321215 q226)), (show 0 ≤ (u221.1 0 326).toInt ∧ (u221.1 0 326).toInt ≤ 420 from (om_8ed0dedb19 i326215 q227)), (show 0 ≤ (u221.1 0 381).toInt ∧ (u221.1 0 381).toInt ≤ 3008 from (om_6e4eb11ad3 i381215 q228)), (show (u221.1 0 306).toInt = (v.1 0 306).toInt from (om_837b7bd001 po215 q223))⟩, ⟨by rw [ht9]; exact hP, hD⟩, by rw [ht9]; exact hz⟩, hS.F ht9⟩) hS.2.2 dX5_stat_266
                                      ·
                                        by_cases h229 : r3 = 29
                                        · refine lv_tableIn (off := 242) (tgt := 249) hx hb dX5_stat_7 (by rw [h229]; decide) (by rw [h229]; decide) (by rw [h229]; decide) (by decide) ?_
                                          refine lv_aload_n hx hb dX5_stat_249 rfl (lv_at hl 0 rfl) ?_
                                          refine va_get (D := (dC, dI)) (ci := 8) (fs := oF_X5 ad pr v) (v := .ref (ad 902)) (C := RX5) (T := TX5) (N := 7) hx hb ht itX5 hown hK hP 3 rfl rfl 3 (by decide) (ht _ tw_608) (fun _ h9 => h9) rfl dX5_stat_250 ?_
                                          refine lv_iconst (v := 1) hx hb dX5_stat_253 (by decide) ?_
                                          refine W.sz (fun hz9 => ?_)
                                          refine czx_v (rx_Vk (n := 1) (As := [.int 1]) (rest := []) hx hb hml hown ht hKK hFx hP hD hS hA ((cq_all l n).1 dC dI cI cB cZ cJ cR tb H.size ad pr N L1 L2 v (1 : Int32) ps (show 0 ≤ (v.1 0 304).toInt ∧ (v.1 0 304).toInt ≤ 1503 from (om_c99648273b z304)) (show 0 ≤ (v.1 0 306).toInt ∧ (v.1 0 306).toInt ≤ 40 from (om_7eaf33e007 z306)) (show 0 ≤ (v.1 0 312).toInt ∧ (v.1 0 312).toInt ≤ 500 from (om_9861e69da5 z312)) (show 0 ≤ (v.1 0 321).toInt ∧ (v.1 0 321).toInt ≤ 501 from (om_e1d35f5faf z321)) (show 0 ≤ (v.1 0 326).toInt ∧ (v.1 0 326).toInt ≤ 420 from (om_839d7ed7dd z326)) (show 0 ≤ (v.1 0 373).toInt ∧ (v.1 0 373).toInt ≤ 4000 from (om_c74a68af25 z373)) (show 0 ≤ (v.1 0 381).toInt ∧ (v.1 0 381).toInt ≤ 3008 from (om_e78eec72e1 z381)) (show L1.length = 40 from hL1) (show L2.length = 60 from hL2) (show RP v from rp) (show pr ps = ad 908 from hps) (show (v.1 0 300) = ps from es300) (show (v.1 0 310) = ps from es310) (show l.stackTraces = false from hst) (show 40 ≤ (v.1 0 306).toInt + (n : Int) from (om_a9150ae9b6 zn))) tw_520 tw_609 (by decide +kernel) rfl rfl ⟨show (8 * n + 20) + 1 ≤ 8 * n + 40 from om_38ba114efc, show 8 + (5 + 11) + 28 * (8 * n + 20) ≤ 28 * (8 * n + 40) from om_237ccf37c6⟩ (List.range (cW ad pr N cI cR L1 L2 v).length) (rg_map _) (nd_range _) 2 rfl rfl rfl rfl hl.1 rfl (Nat.le_of_ble_eq_true rfl) dX5_stat_254 ⟨Nat.le_of_ble_eq_true rfl, Nat.le_of_ble_eq_true rfl⟩) hP hD hS hA (fun u9 ce9 q9 H locs hx9 hP hD hS hc9 hv9 hf9 => ?_) (fun u231 H locs hw230 hP hD hS hz8 => ?_)
                                          · exact vx_out (fun x h9 => (hnt x h9).elim) hlocks hc9 hv9 hf9 (fun t9 ht9 hv8 => ⟨u9, ⟨FC.tr (FC.rf _) hx9.1, hx9.2⟩, ⟨rfl, by rw [ht9]; exact hP, hD⟩, hS.F ht9⟩) hS.2.2 (Nat.le_refl _) (Nat.le_refl _)
                                          refine W.shrink (hz8.trans hz9) ?_
                                          obtain ⟨fr230, i306230, i321230, i326230, i381230, po230⟩ := hw230
                                          refine lv_aload_n hx hb dX5_stat_257 rfl (lv_at hl 0 rfl) ?_
                                          refine va_get (D := (dC, dI)) (ci := 8) (fs := oF_X5 ad pr u231) (v := .ref (ad 900)) (C := RX5) (T := TX5) (N := 7) hx hb ht itX5 hown hK hP 3 rfl rfl 1 (by decide) (ht _ tw_571) (fun _ h9 => h9) rfl dX5_stat_258 ?_
                                          refine lv_bipush (v := 36) hx hb dX5_stat_261 (by decide) ?_
                                          have q233 : (u231.1 0 304).toInt = (v.1 0 304).toInt := congrArg Int32.toInt ((fr230.2.1 304 (by decide)).trans (show v.1 0 304 = (v.1 0 304) by rfl))
                                          have q234 : (u231.1 0 373).toInt = (v.1 0 373).toInt := congrArg Int32.toInt ((fr230.2.1 373 (by decide)).trans (show v.1 0 373 = (v.1 0 373) by rfl))
                                          refine W.sz (fun hz9 => ?_)
                                          refine czx_v (rx_Vk (n := 1) (As := [.int 36]) (rest := []) hx hb hml hown ht hKK hFx hP hD hS hA (c_x_X9_expect l dC dI cI cB cZ cJ cR tb H.size ad pr N L1 L2 u231 (36 : Int32) ps (show 0 ≤ (u231.1 0 304).toInt ∧ (u231.1 0 304).toInt ≤ 1503 from (om_73002589c1 z304 q233)) (show 0 ≤ (u231.1 0 373).toInt ∧ (u231.1 0 373).toInt ≤ 4000 from (om_9084c127ed z373 q234)) (show pr ps = ad 908 from hps) (show (u231.1 0 300) = ps from (Eq.trans (fr230.2.1 300 (by decide)) es300)) (show l.stackTraces = false from hst)) tw_526 tw_580 (by decide +kernel) rfl rfl ⟨show 7 + 1 ≤ 8 * n + 40 from om_a597943b8d, show 8 + (2 + 11) + 104 ≤ 28 * (8 * n + 40) from om_10b26f883e⟩ (List.range (cW ad pr N cI cR L1 L2 u231).length) (rg_map _) (nd_range _) 0 rfl rfl rfl rfl hl.1 rfl (Nat.le_of_ble_eq_true rfl) dX5_stat_263 ⟨Nat.le_of_ble_eq_true rfl, Nat.le_of_ble_eq_true rfl⟩) hP hD hS hA (fun u9 ce9 q9 H locs hx9 hP hD hS hc9 hv9 hf9 => ?_) (fun u236 H locs hw235 hP hD hS hz8 => ?_)
                                          · exact vx_out (fun x h9 => (hnt x h9).elim) hlocks hc9 hv9 hf9 (fun t9 ht9 hv8 => ⟨u9, ⟨FC.tr (FC.tr (FC.rf _) (FC.up fr230 (by decide) (by decide))) hx9.1, hx9.2⟩, ⟨rfl, by rw [ht9]; exact hP, hD⟩, hS.F ht9⟩) hS.2.2 (Nat.le_refl _) (Nat.le_refl _)
                                          refine W.shrink (hz8.trans hz9) ?_
                                          have fr235 := hw235
                                          have q238 : (u236.1 0 306).toInt = (u231.1 0 306).toInt := congrArg Int32.toInt ((fr235.2.1 306 (by decide)).trans (show u231.1 0 306 = (u231.1 0 306) by rfl))
                                          have q239 : (u231.1 0 312).toInt = (v.1 0 312).toInt := congrArg Int32.toInt ((fr230.2.1 312 (by decide)).trans (show v.1 0 312 = (v.1 0 312) by rfl))
                                          have q240 : (u236.1 0 312).toInt = (u231.1 0 312).toInt := congrArg Int32.toInt ((fr235.2.1 312 (by decide)).trans (show u231.1 0 312 = (u231.1 0 312) by rfl))
                                          have q241 : (u236.1 0 321).toInt = (u231.1 0 321).toInt := congrArg Int32.toInt ((fr235.2.1 321 (by decide)).trans (show u231.1 0 321 = (u231.1 0 321) by rfl))
                                          have q242 : (u236.1 0 326).toInt = (u231.1 0 326).toInt := congrArg Int32.toInt ((fr235.2.1 326 (by decide)).trans (show u231.1 0 326 = (u231.1 0 326) by rfl))
                                          have q243 : (u236.1 0 381).toInt = (u231.1 0 381).toInt := congrArg Int32.toInt ((fr235.2.1 381 (by decide)).trans (show u231.1 0 381 = (u231.1 0 381) by rfl))
                                          refine W.sz (fun hz => ?_)
                                          refine vx_ret ?_
                                          refine W.widen (k := 1) (n := 6) (Nat.le_of_ble_eq_true rfl) (Nat.le_of_ble_eq_true rfl) ?_
                                          exact W.vret hx hb hr (fun t ht9 hW => ⟨⟨u236, rfl, ⟨(FC.tr (FC.tr (FC.rf _) (FC.up fr230 (by decide) (by decide))) (FC.up fr235 (by decide) (by decide))), (show 0 ≤ (u236.1 0 306).toInt ∧ (u236.1 0 306).toInt ≤ 40 from (om_99e115f631 i306230 q238)), (show 0 ≤ (u236.1 0 312).toInt ∧ (u236.1 0 312).toInt ≤ 500 from (om_8a5975ec21 z312 q239 q240)), (show 0 ≤ (u236.1 0 321).toInt ∧ (u236.1 0 321).toInt ≤ 501 from (om_ff27494c0e i321230 q241)), (show 0 ≤ (u236.1 0 326).toInt ∧ (u236.1 0 326).toInt ≤ 420 from (om_8ed0dedb19 i326230 q242)), (show 0 ≤ (u236.1 0 381).toInt ∧ (u236.1 0 381).toInt ≤ 3008 from (om_6e4eb11ad3 i381230 q243)), (show (u236.1 0 306).toInt = (v.1 0 306).toInt from (om_837b7bd001 po230 q238))⟩, ⟨by rw [ht9]; exact hP, hD⟩, by rw [ht9]; exact hz⟩, hS.F ht9⟩) hS.2.2 dX5_stat_266
                                        ·
                                          by_cases h244 : r3 = 30
                                          · refine lv_tableIn (off := 242) (tgt := 249) hx hb dX5_stat_7 (by rw [h244]; decide) (by rw [h244]; decide) (by rw [h244]; decide) (by decide) ?_
                                            refine lv_aload_n hx hb dX5_stat_249 rfl (lv_at hl 0 rfl) ?_
                                            refine va_get (D := (dC, dI)) (ci := 8) (fs := oF_X5 ad pr v) (v := .ref (ad 902)) (C := RX5) (T := TX5) (N := 7) hx hb ht itX5 hown hK hP 3 rfl rfl 3 (by decide) (ht _ tw_608) (fun _ h9 => h9) rfl dX5_stat_250 ?_
                                            refine lv_iconst (v := 1) hx hb dX5_stat_253 (by decide) ?_
                                            refine W.sz (fun hz9 => ?_)
                                            refine czx_v (rx_Vk (n := 1) (As := [.int 1]) (rest := []) hx hb hml hown ht hKK hFx hP hD hS hA ((cq_all l n).1 dC dI cI cB cZ cJ cR tb H.size ad pr N L1 L2 v (1 : Int32) ps (show 0 ≤ (v.1 0 304).toInt ∧ (v.1 0 304).toInt ≤ 1503 from (om_c99648273b z304)) (show 0 ≤ (v.1 0 306).toInt ∧ (v.1 0 306).toInt ≤ 40 from (om_7eaf33e007 z306)) (show 0 ≤ (v.1 0 312).toInt ∧ (v.1 0 312).toInt ≤ 500 from (om_9861e69da5 z312)) (show 0 ≤ (v.1 0 321).toInt ∧ (v.1 0 321).toInt ≤ 501 from (om_e1d35f5faf z321)) (show 0 ≤ (v.1 0 326).toInt ∧ (v.1 0 326).toInt ≤ 420 from (om_839d7ed7dd z326)) (show 0 ≤ (v.1 0 373).toInt ∧ (v.1 0 373).toInt ≤ 4000 from (om_c74a68af25 z373)) (show 0 ≤ (v.1 0 381).toInt ∧ (v.1 0 381).toInt ≤ 3008 from (om_e78eec72e1 z381)) (show L1.length = 40 from hL1) (show L2.length = 60 from hL2) (show RP v from rp) (show pr ps = ad 908 from hps) (show (v.1 0 300) = ps from es300) (show (v.1 0 310) = ps from es310) (show l.stackTraces = false from hst) (show 40 ≤ (v.1 0 306).toInt + (n : Int) from (om_a9150ae9b6 zn))) tw_520 tw_609 (by decide +kernel) rfl rfl ⟨show (8 * n + 20) + 1 ≤ 8 * n + 40 from om_38ba114efc, show 8 + (5 + 11) + 28 * (8 * n + 20) ≤ 28 * (8 * n + 40) from om_237ccf37c6⟩ (List.range (cW ad pr N cI cR L1 L2 v).length) (rg_map _) (nd_range _) 2 rfl rfl rfl rfl hl.1 rfl (Nat.le_of_ble_eq_true rfl) dX5_stat_254 ⟨Nat.le_of_ble_eq_true rfl, Nat.le_of_ble_eq_true rfl⟩) hP hD hS hA (fun u9 ce9 q9 H locs hx9 hP hD hS hc9 hv9 hf9 => ?_) (fun u246 H locs hw245 hP hD hS hz8 => ?_)
                                            · exact vx_out (fun x h9 => (hnt x h9).elim) hlocks hc9 hv9 hf9 (fun t9 ht9 hv8 => ⟨u9, ⟨FC.tr (FC.rf _) hx9.1, hx9.2⟩, ⟨rfl, by rw [ht9]; exact hP, hD⟩, hS.F ht9⟩) hS.2.2 (Nat.le_refl _) (Nat.le_refl _)
                                            refine W.shrink (hz8.trans hz9) ?_
                                            obtain ⟨fr245, i306245, i321245, i326245, i381245, po245⟩ := hw245
                                            refine lv_aload_n hx hb dX5_stat_257 rfl (lv_at hl 0 rfl) ?_
                                            refine va_get (D := (dC, dI)) (ci := 8) (fs := oF_X5 ad pr u246) (v := .ref (ad 900)) (C := RX5) (T := TX5) (N := 7) hx hb ht itX5 hown hK hP 3 rfl rfl 1 (by decide) (ht _ tw_571) (fun _ h9 => h9) rfl dX5_stat_258 ?_
                                            refine lv_bipush (v := 36) hx hb dX5_stat_261 (by decide) ?_
                                            have q248 : (u246.1 0 304).toInt = (v.1 0 304).toInt := congrArg Int32.toInt ((fr245.2.1 304 (by decide)).trans (show v.1 0 304 = (v.1 0 304) by rfl))
                                            have q249 : (u246.1 0 373).toInt = (v.1 0 373).toInt := congrArg Int32.toInt ((fr245.2.1 373 (by decide)).trans (show v.1 0 373 = (v.1 0 373) by rfl))
                                            refine W.sz (fun hz9 => ?_)
                                            refine czx_v (rx_Vk (n := 1) (As := [.int 36]) (rest := []) hx hb hml hown ht hKK hFx hP hD hS hA (c_x_X9_expect l dC dI cI cB cZ cJ cR tb H.size ad pr N L1 L2 u246 (36 : Int32) ps (show 0 ≤ (u246.1 0 304).toInt ∧ (u246.1 0 304).toInt ≤ 1503 from (om_73002589c1 z304 q248)) (show 0 ≤ (u246.1 0 373).toInt ∧ (u246.1 0 373).toInt ≤ 4000 from (om_9084c127ed z373 q249)) (show pr ps = ad 908 from hps) (show (u246.1 0 300) = ps from (Eq.trans (fr245.2.1 300 (by decide)) es300)) (show l.stackTraces = false from hst)) tw_526 tw_580 (by decide +kernel) rfl rfl ⟨show 7 + 1 ≤ 8 * n + 40 from om_a597943b8d, show 8 + (2 + 11) + 104 ≤ 28 * (8 * n + 40) from om_10b26f883e⟩ (List.range (cW ad pr N cI cR L1 L2 u246).length) (rg_map _) (nd_range _) 0 rfl rfl rfl rfl hl.1 rfl (Nat.le_of_ble_eq_true rfl) dX5_stat_263 ⟨Nat.le_of_ble_eq_true rfl, Nat.le_of_ble_eq_true rfl⟩) hP hD hS hA (fun u9 ce9 q9 H locs hx9 hP hD hS hc9 hv9 hf9 => ?_) (fun u251 H locs hw250 hP hD hS hz8 => ?_)
                                            · exact vx_out (fun x h9 => (hnt x h9).elim) hlocks hc9 hv9 hf9 (fun t9 ht9 hv8 => ⟨u9, ⟨FC.tr (FC.tr (FC.rf _) (FC.up fr245 (by decide) (by decide))) hx9.1, hx9.2⟩, ⟨rfl, by rw [ht9]; exact hP, hD⟩, hS.F ht9⟩) hS.2.2 (Nat.le_refl _) (Nat.le_refl _)
                                            refine W.shrink (hz8.trans hz9) ?_
                                            have fr250 := hw250
                                            have q253 : (u251.1 0 306).toInt = (u246.1 0 306).toInt := congrArg Int32.toInt ((fr250.2.1 306 (by decide)).trans (show u246.1 0 306 = (u246.1 0 306) by rfl))
                                            have q254 : (u246.1 0 312).toInt = (v.1 0 312).toInt := congrArg Int32.toInt ((fr245.2.1 312 (by decide)).trans (show v.1 0 312 = (v.1 0 312) by rfl))
                                            have q255 : (u251.1 0 312).toInt = (u246.1 0 312).toInt := congrArg Int32.toInt ((fr250.2.1 312 (by decide)).trans (show u246.1 0 312 = (u246.1 0 312) by rfl))
                                            have q256 : (u251.1 0 321).toInt = (u246.1 0 321).toInt := congrArg Int32.toInt ((fr250.2.1 321 (by decide)).trans (show u246.1 0 321 = (u246.1 0 321) by rfl))
                                            have q257 : (u251.1 0 326).toInt = (u246.1 0 326).toInt := congrArg Int32.toInt ((fr250.2.1 326 (by decide)).trans (show u246.1 0 326 = (u246.1 0 326) by rfl))
                                            have q258 : (u251.1 0 381).toInt = (u246.1 0 381).toInt := congrArg Int32.toInt ((fr250.2.1 381 (by decide)).trans (show u246.1 0 381 = (u246.1 0 381) by rfl))
                                            refine W.sz (fun hz => ?_)
                                            refine vx_ret ?_
                                            refine W.widen (k := 1) (n := 6) (Nat.le_of_ble_eq_true rfl) (Nat.le_of_ble_eq_true rfl) ?_
                                            exact W.vret hx hb hr (fun t ht9 hW => ⟨⟨u251, rfl, ⟨(FC.tr (FC.tr (FC.rf _) (FC.up fr245 (by decide) (by decide))) (FC.up fr250 (by decide) (by decide))), (show 0 ≤ (u251.1 0 306).toInt ∧ (u251.1 0 306).toInt ≤ 40 from (om_99e115f631 i306245 q253)), (show 0 ≤ (u251.1 0 312).toInt ∧ (u251.1 0 312).toInt ≤ 500 from (om_8a5975ec21 z312 q254 q255)), (show 0 ≤ (u251.1 0 321).toInt ∧ (u251.1 0 321).toInt ≤ 501 from (om_ff27494c0e i321245 q256)), (show 0 ≤ (u251.1 0 326).toInt ∧ (u251.1 0 326).toInt ≤ 420 from (om_8ed0dedb19 i326245 q257)), (show 0 ≤ (u251.1 0 381).toInt ∧ (u251.1 0 381).toInt ≤ 3008 from (om_6e4eb11ad3 i381245 q258)), (show (u251.1 0 306).toInt = (v.1 0 306).toInt from (om_837b7bd001 po245 q253))⟩, ⟨by rw [ht9]; exact hP, hD⟩, by rw [ht9]; exact hz⟩, hS.F ht9⟩) hS.2.2 dX5_stat_266
                                          ·
                                            by_cases h259 : r3 = 31
                                            · refine lv_tableIn (off := 242) (tgt := 249) hx hb dX5_stat_7 (by rw [h259]; decide) (by rw [h259]; decide) (by rw [h259]; decide) (by decide) ?_
                                              refine lv_aload_n hx hb dX5_stat_249 rfl (lv_at hl 0 rfl) ?_
                                              refine va_get (D := (dC, dI)) (ci := 8) (fs := oF_X5 ad pr v) (v := .ref (ad 902)) (C := RX5) (T := TX5) (N := 7) hx hb ht itX5 hown hK hP 3 rfl rfl 3 (by decide) (ht _ tw_608) (fun _ h9 => h9) rfl dX5_stat_250 ?_
                                              refine lv_iconst (v := 1) hx hb dX5_stat_253 (by decide) ?_
                                              refine W.sz (fun hz9 => ?_)
                                              refine czx_v (rx_Vk (n := 1) (As := [.int 1]) (rest := []) hx hb hml hown ht hKK hFx hP hD hS hA ((cq_all l n).1 dC dI cI cB cZ cJ cR tb H.size ad pr N L1 L2 v (1 : Int32) ps (show 0 ≤ (v.1 0 304).toInt ∧ (v.1 0 304).toInt ≤ 1503 from (om_c99648273b z304)) (show 0 ≤ (v.1 0 306).toInt ∧ (v.1 0 306).toInt ≤ 40 from (om_7eaf33e007 z306)) (show 0 ≤ (v.1 0 312).toInt ∧ (v.1 0 312).toInt ≤ 500 from (om_9861e69da5 z312)) (show 0 ≤ (v.1 0 321).toInt ∧ (v.1 0 321).toInt ≤ 501 from (om_e1d35f5faf z321)) (show 0 ≤ (v.1 0 326).toInt ∧ (v.1 0 326).toInt ≤ 420 from (om_839d7ed7dd z326)) (show 0 ≤ (v.1 0 373).toInt ∧ (v.1 0 373).toInt ≤ 4000 from (om_c74a68af25 z373)) (show 0 ≤ (v.1 0 381).toInt ∧ (v.1 0 381).toInt ≤ 3008 from (om_e78eec72e1 z381)) (show L1.length = 40 from hL1) (show L2.length = 60 from hL2) (show RP v from rp) (show pr ps = ad 908 from hps) (show (v.1 0 300) = ps from es300) (show (v.1 0 310) = ps from es310) (show l.stackTraces = false from hst) (show 40 ≤ (v.1 0 306).toInt + (n : Int) from (om_a9150ae9b6 zn))) tw_520 tw_609 (by decide +kernel) rfl rfl ⟨show (8 * n + 20) + 1 ≤ 8 * n + 40 from om_38ba114efc, show 8 + (5 + 11) + 28 * (8 * n + 20) ≤ 28 * (8 * n + 40) from om_237ccf37c6⟩ (List.range (cW ad pr N cI cR L1 L2 v).length) (rg_map _) (nd_range _) 2 rfl rfl rfl rfl hl.1 rfl (Nat.le_of_ble_eq_true rfl) dX5_stat_254 ⟨Nat.le_of_ble_eq_true rfl, Nat.le_of_ble_eq_true rfl⟩) hP hD hS hA (fun u9 ce9 q9 H locs hx9 hP hD hS hc9 hv9 hf9 => ?_) (fun u261 H locs hw260 hP hD hS hz8 => ?_)
                                              · exact vx_out (fun x h9 => (hnt x h9).elim) hlocks hc9 hv9 hf9 (fun t9 ht9 hv8 => ⟨u9, ⟨FC.tr (FC.rf _) hx9.1, hx9.2⟩, ⟨rfl, by rw [ht9]; exact hP, hD⟩, hS.F ht9⟩) hS.2.2 (Nat.le_refl _) (Nat.le_refl _)
                                              refine W.shrink (hz8.trans hz9) ?_
                                              obtain ⟨fr260, i306260, i321260, i326260, i381260, po260⟩ := hw260
                                              refine lv_aload_n hx hb dX5_stat_257 rfl (lv_at hl 0 rfl) ?_
                                              refine va_get (D := (dC, dI)) (ci := 8) (fs := oF_X5 ad pr u261) (v := .ref (ad 900)) (C := RX5) (T := TX5) (N := 7) hx hb ht itX5 hown hK hP 3 rfl rfl 1 (by decide) (ht _ tw_571) (fun _ h9 => h9) rfl dX5_stat_258 ?_
                                              refine lv_bipush (v := 36) hx hb dX5_stat_261 (by decide) ?_
                                              have q263 : (u261.1 0 304).toInt = (v.1 0 304).toInt := congrArg Int32.toInt ((fr260.2.1 304 (by decide)).trans (show v.1 0 304 = (v.1 0 304) by rfl))
                                              have q264 : (u261.1 0 373).toInt = (v.1 0 373).toInt := congrArg Int32.toInt ((fr260.2.1 373 (by decide)).trans (show v.1 0 373 = (v.1 0 373) by rfl))
                                              refine W.sz (fun hz9 => ?_)
                                              refine czx_v (rx_Vk (n := 1) (As := [.int 36]) (rest := []) hx hb hml hown ht hKK hFx hP hD hS hA (c_x_X9_expect l dC dI cI cB cZ cJ cR tb H.size ad pr N L1 L2 u261 (36 : Int32) ps (show 0 ≤ (u261.1 0 304).toInt ∧ (u261.1 0 304).toInt ≤ 1503 from (om_73002589c1 z304 q263)) (show 0 ≤ (u261.1 0 373).toInt ∧ (u261.1 0 373).toInt ≤ 4000 from (om_9084c127ed z373 q264)) (show pr ps = ad 908 from hps) (show (u261.1 0 300) = ps from (Eq.trans (fr260.2.1 300 (by decide)) es300)) (show l.stackTraces = false from hst)) tw_526 tw_580 (by decide +kernel) rfl rfl ⟨show 7 + 1 ≤ 8 * n + 40 from om_a597943b8d, show 8 + (2 + 11) + 104 ≤ 28 * (8 * n + 40) from om_10b26f883e⟩ (List.range (cW ad pr N cI cR L1 L2 u261).length) (rg_map _) (nd_range _) 0 rfl rfl rfl rfl hl.1 rfl (Nat.le_of_ble_eq_true rfl) dX5_stat_263 ⟨Nat.le_of_ble_eq_true rfl, Nat.le_of_ble_eq_true rfl⟩) hP hD hS hA (fun u9 ce9 q9 H locs hx9 hP hD hS hc9 hv9 hf9 => ?_) (fun u266 H locs hw265 hP hD hS hz8 => ?_)
                                              · exact vx_out (fun x h9 => (hnt x h9).elim) hlocks hc9 hv9 hf9 (fun t9 ht9 hv8 => ⟨u9, ⟨FC.tr (FC.tr (FC.rf _) (FC.up fr260 (by decide) (by decide))) hx9.1, hx9.2⟩, ⟨rfl, by rw [ht9]; exact hP, hD⟩, hS.F ht9⟩) hS.2.2 (Nat.le_refl _) (Nat.le_refl _)
                                              refine W.shrink (hz8.trans hz9) ?_
                                              have fr265 := hw265
                                              have q268 : (u266.1 0 306).toInt = (u261.1 0 306).toInt := congrArg Int32.toInt ((fr265.2.1 306 (by decide)).trans (show u261.1 0 306 = (u261.1 0 306) by rfl))
                                              have q269 : (u261.1 0 312).toInt = (v.1 0 312).toInt := congrArg Int32.toInt ((fr260.2.1 312 (by decide)).trans (show v.1 0 312 = (v.1 0 312) by rfl))
                                              have q270 : (u266.1 0 312).toInt = (u261.1 0 312).toInt := congrArg Int32.toInt ((fr265.2.1 312 (by decide)).trans (show u261.1 0 312 = (u261.1 0 312) by rfl))
                                              have q271 : (u266.1 0 321).toInt = (u261.1 0 321).toInt := congrArg Int32.toInt ((fr265.2.1 321 (by decide)).trans (show u261.1 0 321 = (u261.1 0 321) by rfl))
                                              have q272 : (u266.1 0 326).toInt = (u261.1 0 326).toInt := congrArg Int32.toInt ((fr265.2.1 326 (by decide)).trans (show u261.1 0 326 = (u261.1 0 326) by rfl))
                                              have q273 : (u266.1 0 381).toInt = (u261.1 0 381).toInt := congrArg Int32.toInt ((fr265.2.1 381 (by decide)).trans (show u261.1 0 381 = (u261.1 0 381) by rfl))
                                              refine W.sz (fun hz => ?_)
                                              refine vx_ret ?_
                                              refine W.widen (k := 1) (n := 6) (Nat.le_of_ble_eq_true rfl) (Nat.le_of_ble_eq_true rfl) ?_
                                              exact W.vret hx hb hr (fun t ht9 hW => ⟨⟨u266, rfl, ⟨(FC.tr (FC.tr (FC.rf _) (FC.up fr260 (by decide) (by decide))) (FC.up fr265 (by decide) (by decide))), (show 0 ≤ (u266.1 0 306).toInt ∧ (u266.1 0 306).toInt ≤ 40 from (om_99e115f631 i306260 q268)), (show 0 ≤ (u266.1 0 312).toInt ∧ (u266.1 0 312).toInt ≤ 500 from (om_8a5975ec21 z312 q269 q270)), (show 0 ≤ (u266.1 0 321).toInt ∧ (u266.1 0 321).toInt ≤ 501 from (om_ff27494c0e i321260 q271)), (show 0 ≤ (u266.1 0 326).toInt ∧ (u266.1 0 326).toInt ≤ 420 from (om_8ed0dedb19 i326260 q272)), (show 0 ≤ (u266.1 0 381).toInt ∧ (u266.1 0 381).toInt ≤ 3008 from (om_6e4eb11ad3 i381260 q273)), (show (u266.1 0 306).toInt = (v.1 0 306).toInt from (om_837b7bd001 po260 q268))⟩, ⟨by rw [ht9]; exact hP, hD⟩, by rw [ht9]; exact hz⟩, hS.F ht9⟩) hS.2.2 dX5_stat_266
                                            ·
                                              by_cases h274 : r3 = 32
                                              · refine lv_tableIn (off := 121) (tgt := 128) hx hb dX5_stat_7 (by rw [h274]; decide) (by rw [h274]; decide) (by rw [h274]; decide) (by decide) ?_
                                                refine lv_aload_n hx hb dX5_stat_128 rfl (lv_at hl 0 rfl) ?_
                                                refine W.sz (fun hz9 => ?_)
                                                refine czx_v (rx_Vk (n := 0) (As := []) (rest := []) hx hb hml hown ht hKK hFx hP hD hS hA (c_x_X5_block l n ihS dC dI cI cB cZ cJ cR tb H.size ad pr N L1 L2 v ps (show 0 ≤ (v.1 0 304).toInt ∧ (v.1 0 304).toInt ≤ 1503 from (om_c99648273b z304)) (show 0 ≤ (v.1 0 306).toInt ∧ (v.1 0 306).toInt ≤ 40 from (om_7eaf33e007 z306)) (show 0 ≤ (v.1 0 312).toInt ∧ (v.1 0 312).toInt ≤ 500 from (om_9861e69da5 z312)) (show 0 ≤ (v.1 0 321).toInt ∧ (v.1 0 321).toInt ≤ 501 from (om_e1d35f5faf z321)) (show 0 ≤ (v.1 0 326).toInt ∧ (v.1 0 326).toInt ≤ 420 from (om_839d7ed7dd z326)) (show 0 ≤ (v.1 0 373).toInt ∧ (v.1 0 373).toInt ≤ 4000 from (om_c74a68af25 z373)) (show 0 ≤ (v.1 0 381).toInt ∧ (v.1 0 381).toInt ≤ 3008 from (om_e78eec72e1 z381)) (show L1.length = 40 from hL1) (show L2.length = 60 from hL2) (show RP v from rp) (show pr ps = ad 908 from hps) (show (v.1 0 300) = ps from es300) (show (v.1 0 310) = ps from es310) (show l.stackTraces = false from hst) (show 40 ≤ (v.1 0 306).toInt + (n : Int) from (om_a9150ae9b6 zn))) tw_642 tw_643 (by decide +kernel) rfl rfl ⟨show (8 * n + 35) + 1 ≤ 8 * n + 40 from om_dd0431829d, show 8 + (3 + 11) + 28 * (8 * n + 35) ≤ 28 * (8 * n + 40) from om_cfe676da40⟩ (List.range (cW ad pr N cI cR L1 L2 v).length) (rg_map _) (nd_range _) 3 rfl rfl rfl rfl hl.1 rfl (Nat.le_of_ble_eq_true rfl) dX5_stat_129 ⟨Nat.le_of_ble_eq_true rfl, Nat.le_of_ble_eq_true rfl⟩) hP hD hS hA (fun u9 ce9 q9 H locs hx9 hP hD hS hc9 hv9 hf9 => ?_) (fun u276 H locs hw275 hP hD hS hz8 => ?_)
                                                · exact vx_out (fun x h9 => (hnt x h9).elim) hlocks hc9 hv9 hf9 (fun t9 ht9 hv8 => ⟨u9, ⟨FC.tr (FC.rf _) hx9.1, hx9.2⟩, ⟨rfl, by rw [ht9]; exact hP, hD⟩, hS.F ht9⟩) hS.2.2 (Nat.le_refl _) (Nat.le_refl _)
                                                refine W.shrink (hz8.trans hz9) ?_
                                                obtain ⟨fr275, i306275, i312275, i321275, i326275, i381275, po275⟩ := hw275
                                                refine lv_goto (tgt := 266) hx hb dX5_stat_132 (by decide) ?_
                                                refine W.sz (fun hz => ?_)
                                                refine vx_ret ?_
                                                refine W.widen (k := 1) (n := 6) (Nat.le_of_ble_eq_true rfl) (Nat.le_of_ble_eq_true rfl) ?_
                                                exact W.vret hx hb hr (fun t ht9 hW => ⟨⟨u276, rfl, ⟨(FC.tr (FC.rf _) (FC.up fr275 (by decide) (by decide))), (show 0 ≤ (u276.1 0 306).toInt ∧ (u276.1 0 306).toInt ≤ 40 from (om_7eaf33e007 i306275)), (show 0 ≤ (u276.1 0 312).toInt ∧ (u276.1 0 312).toInt ≤ 500 from (om_9861e69da5 i312275)), (show 0 ≤ (u276.1 0 321).toInt ∧ (u276.1 0 321).toInt ≤ 501 from (om_e1d35f5faf i321275)), (show 0 ≤ (u276.1 0 326).toInt ∧ (u276.1 0 326).toInt ≤ 420 from (om_839d7ed7dd i326275)), (show 0 ≤ (u276.1 0 381).toInt ∧ (u276.1 0 381).toInt ≤ 3008 from (om_e78eec72e1 i381275)), (show (u276.1 0 306).toInt = (v.1 0 306).toInt from (om_5049cbdce5 po275))⟩, ⟨by rw [ht9]; exact hP, hD⟩, by rw [ht9]; exact hz⟩, hS.F ht9⟩) hS.2.2 dX5_stat_266
                                              ·
                                                by_cases h278 : r3 = 33
                                                · refine lv_tableIn (off := 242) (tgt := 249) hx hb dX5_stat_7 (by rw [h278]; decide) (by rw [h278]; decide) (by rw [h278]; decide) (by decide) ?_
                                                  refine lv_aload_n hx hb dX5_stat_249 rfl (lv_at hl 0 rfl) ?_
                                                  refine va_get (D := (dC, dI)) (ci := 8) (fs := oF_X5 ad pr v) (v := .ref (ad 902)) (C := RX5) (T := TX5) (N := 7) hx hb ht itX5 hown hK hP 3 rfl rfl 3 (by decide) (ht _ tw_608) (fun _ h9 => h9) rfl dX5_stat_250 ?_
                                                  refine lv_iconst (v := 1) hx hb dX5_stat_253 (by decide) ?_
                                                  refine W.sz (fun hz9 => ?_)
                                                  refine czx_v (rx_Vk (n := 1) (As := [.int 1]) (rest := []) hx hb hml hown ht hKK hFx hP hD hS hA ((cq_all l n).1 dC dI cI cB cZ cJ cR tb H.size ad pr N L1 L2 v (1 : Int32) ps (show 0 ≤ (v.1 0 304).toInt ∧ (v.1 0 304).toInt ≤ 1503 from (om_c99648273b z304)) (show 0 ≤ (v.1 0 306).toInt ∧ (v.1 0 306).toInt ≤ 40 from (om_7eaf33e007 z306)) (show 0 ≤ (v.1 0 312).toInt ∧ (v.1 0 312).toInt ≤ 500 from (om_9861e69da5 z312)) (show 0 ≤ (v.1 0 321).toInt ∧ (v.1 0 321).toInt ≤ 501 from (om_e1d35f5faf z321)) (show 0 ≤ (v.1 0 326).toInt ∧ (v.1 0 326).toInt ≤ 420 from (om_839d7ed7dd z326)) (show 0 ≤ (v.1 0 373).toInt ∧ (v.1 0 373).toInt ≤ 4000 from (om_c74a68af25 z373)) (show 0 ≤ (v.1 0 381).toInt ∧ (v.1 0 381).toInt ≤ 3008 from (om_e78eec72e1 z381)) (show L1.length = 40 from hL1) (show L2.length = 60 from hL2) (show RP v from rp) (show pr ps = ad 908 from hps) (show (v.1 0 300) = ps from es300) (show (v.1 0 310) = ps from es310) (show l.stackTraces = false from hst) (show 40 ≤ (v.1 0 306).toInt + (n : Int) from (om_a9150ae9b6 zn))) tw_520 tw_609 (by decide +kernel) rfl rfl ⟨show (8 * n + 20) + 1 ≤ 8 * n + 40 from om_38ba114efc, show 8 + (5 + 11) + 28 * (8 * n + 20) ≤ 28 * (8 * n + 40) from om_237ccf37c6⟩ (List.range (cW ad pr N cI cR L1 L2 v).length) (rg_map _) (nd_range _) 2 rfl rfl rfl rfl hl.1 rfl (Nat.le_of_ble_eq_true rfl) dX5_stat_254 ⟨Nat.le_of_ble_eq_true rfl, Nat.le_of_ble_eq_true rfl⟩) hP hD hS hA (fun u9 ce9 q9 H locs hx9 hP hD hS hc9 hv9 hf9 => ?_) (fun u280 H locs hw279 hP hD hS hz8 => ?_)
                                                  · exact vx_out (fun x h9 => (hnt x h9).elim) hlocks hc9 hv9 hf9 (fun t9 ht9 hv8 => ⟨u9, ⟨FC.tr (FC.rf _) hx9.1, hx9.2⟩, ⟨rfl, by rw [ht9]; exact hP, hD⟩, hS.F ht9⟩) hS.2.2 (Nat.le_refl _) (Nat.le_refl _)
                                                  refine W.shrink (hz8.trans hz9) ?_
                                                  obtain ⟨fr279, i306279, i321279, i326279, i381279, po279⟩ := hw279
                                                  refine lv_aload_n hx hb dX5_stat_257 rfl (lv_at hl 0 rfl) ?_
                                                  refine va_get (D := (dC, dI)) (ci := 8) (fs := oF_X5 ad pr u280) (v := .ref (ad 900)) (C := RX5) (T := TX5) (N := 7) hx hb ht itX5 hown hK hP 3 rfl rfl 1 (by decide) (ht _ tw_571) (fun _ h9 => h9) rfl dX5_stat_258 ?_
                                                  refine lv_bipush (v := 36) hx hb dX5_stat_261 (by decide) ?_
                                                  have q282 : (u280.1 0 304).toInt = (v.1 0 304).toInt := congrArg Int32.toInt ((fr279.2.1 304 (by decide)).trans (show v.1 0 304 = (v.1 0 304) by rfl))
                                                  have q283 : (u280.1 0 373).toInt = (v.1 0 373).toInt := congrArg Int32.toInt ((fr279.2.1 373 (by decide)).trans (show v.1 0 373 = (v.1 0 373) by rfl))
                                                  refine W.sz (fun hz9 => ?_)
                                                  refine czx_v (rx_Vk (n := 1) (As := [.int 36]) (rest := []) hx hb hml hown ht hKK hFx hP hD hS hA (c_x_X9_expect l dC dI cI cB cZ cJ cR tb H.size ad pr N L1 L2 u280 (36 : Int32) ps (show 0 ≤ (u280.1 0 304).toInt ∧ (u280.1 0 304).toInt ≤ 1503 from (om_73002589c1 z304 q282)) (show 0 ≤ (u280.1 0 373).toInt ∧ (u280.1 0 373).toInt ≤ 4000 from (om_9084c127ed z373 q283)) (show pr ps = ad 908 from hps) (show (u280.1 0 300) = ps from (Eq.trans (fr279.2.1 300 (by decide)) es300)) (show l.stackTraces = false from hst)) tw_526 tw_580 (by decide +kernel) rfl rfl ⟨show 7 + 1 ≤ 8 * n + 40 from om_a597943b8d, show 8 + (2 + 11) + 104 ≤ 28 * (8 * n + 40) from om_10b26f883e⟩ (List.range (cW ad pr N cI cR L1 L2 u280).length) (rg_map _) (nd_range _) 0 rfl rfl rfl rfl hl.1 rfl (Nat.le_of_ble_eq_true rfl) dX5_stat_263 ⟨Nat.le_of_ble_eq_true rfl, Nat.le_of_ble_eq_true rfl⟩) hP hD hS hA (fun u9 ce9 q9 H locs hx9 hP hD hS hc9 hv9 hf9 => ?_) (fun u285 H locs hw284 hP hD hS hz8 => ?_)
                                                  · exact vx_out (fun x h9 => (hnt x h9).elim) hlocks hc9 hv9 hf9 (fun t9 ht9 hv8 => ⟨u9, ⟨FC.tr (FC.tr (FC.rf _) (FC.up fr279 (by decide) (by decide))) hx9.1, hx9.2⟩, ⟨rfl, by rw [ht9]; exact hP, hD⟩, hS.F ht9⟩) hS.2.2 (Nat.le_refl _) (Nat.le_refl _)
                                                  refine W.shrink (hz8.trans hz9) ?_
                                                  have fr284 := hw284
                                                  have q287 : (u285.1 0 306).toInt = (u280.1 0 306).toInt := congrArg Int32.toInt ((fr284.2.1 306 (by decide)).trans (show u280.1 0 306 = (u280.1 0 306) by rfl))
                                                  have q288 : (u280.1 0 312).toInt = (v.1 0 312).toInt := congrArg Int32.toInt ((fr279.2.1 312 (by decide)).trans (show v.1 0 312 = (v.1 0 312) by rfl))
                                                  have q289 : (u285.1 0 312).toInt = (u280.1 0 312).toInt := congrArg Int32.toInt ((fr284.2.1 312 (by decide)).trans (show u280.1 0 312 = (u280.1 0 312) by rfl))
                                                  have q290 : (u285.1 0 321).toInt = (u280.1 0 321).toInt := congrArg Int32.toInt ((fr284.2.1 321 (by decide)).trans (show u280.1 0 321 = (u280.1 0 321) by rfl))
                                                  have q291 : (u285.1 0 326).toInt = (u280.1 0 326).toInt := congrArg Int32.toInt ((fr284.2.1 326 (by decide)).trans (show u280.1 0 326 = (u280.1 0 326) by rfl))
                                                  have q292 : (u285.1 0 381).toInt = (u280.1 0 381).toInt := congrArg Int32.toInt ((fr284.2.1 381 (by decide)).trans (show u280.1 0 381 = (u280.1 0 381) by rfl))
                                                  refine W.sz (fun hz => ?_)
                                                  refine vx_ret ?_
                                                  refine W.widen (k := 1) (n := 6) (Nat.le_of_ble_eq_true rfl) (Nat.le_of_ble_eq_true rfl) ?_
                                                  exact W.vret hx hb hr (fun t ht9 hW => ⟨⟨u285, rfl, ⟨(FC.tr (FC.tr (FC.rf _) (FC.up fr279 (by decide) (by decide))) (FC.up fr284 (by decide) (by decide))), (show 0 ≤ (u285.1 0 306).toInt ∧ (u285.1 0 306).toInt ≤ 40 from (om_99e115f631 i306279 q287)), (show 0 ≤ (u285.1 0 312).toInt ∧ (u285.1 0 312).toInt ≤ 500 from (om_8a5975ec21 z312 q288 q289)), (show 0 ≤ (u285.1 0 321).toInt ∧ (u285.1 0 321).toInt ≤ 501 from (om_ff27494c0e i321279 q290)), (show 0 ≤ (u285.1 0 326).toInt ∧ (u285.1 0 326).toInt ≤ 420 from (om_8ed0dedb19 i326279 q291)), (show 0 ≤ (u285.1 0 381).toInt ∧ (u285.1 0 381).toInt ≤ 3008 from (om_6e4eb11ad3 i381279 q292)), (show (u285.1 0 306).toInt = (v.1 0 306).toInt from (om_837b7bd001 po279 q287))⟩, ⟨by rw [ht9]; exact hP, hD⟩, by rw [ht9]; exact hz⟩, hS.F ht9⟩) hS.2.2 dX5_stat_266
                                                ·
                                                  by_cases h293 : r3 = 34
                                                  · refine lv_tableIn (off := 242) (tgt := 249) hx hb dX5_stat_7 (by rw [h293]; decide) (by rw [h293]; decide) (by rw [h293]; decide) (by decide) ?_
                                                    refine lv_aload_n hx hb dX5_stat_249 rfl (lv_at hl 0 rfl) ?_
                                                    refine va_get (D := (dC, dI)) (ci := 8) (fs := oF_X5 ad pr v) (v := .ref (ad 902)) (C := RX5) (T := TX5) (N := 7) hx hb ht itX5 hown hK hP 3 rfl rfl 3 (by decide) (ht _ tw_608) (fun _ h9 => h9) rfl dX5_stat_250 ?_
                                                    refine lv_iconst (v := 1) hx hb dX5_stat_253 (by decide) ?_
                                                    refine W.sz (fun hz9 => ?_)
                                                    refine czx_v (rx_Vk (n := 1) (As := [.int 1]) (rest := []) hx hb hml hown ht hKK hFx hP hD hS hA ((cq_all l n).1 dC dI cI cB cZ cJ cR tb H.size ad pr N L1 L2 v (1 : Int32) ps (show 0 ≤ (v.1 0 304).toInt ∧ (v.1 0 304).toInt ≤ 1503 from (om_c99648273b z304)) (show 0 ≤ (v.1 0 306).toInt ∧ (v.1 0 306).toInt ≤ 40 from (om_7eaf33e007 z306)) (show 0 ≤ (v.1 0 312).toInt ∧ (v.1 0 312).toInt ≤ 500 from (om_9861e69da5 z312)) (show 0 ≤ (v.1 0 321).toInt ∧ (v.1 0 321).toInt ≤ 501 from (om_e1d35f5faf z321)) (show 0 ≤ (v.1 0 326).toInt ∧ (v.1 0 326).toInt ≤ 420 from (om_839d7ed7dd z326)) (show 0 ≤ (v.1 0 373).toInt ∧ (v.1 0 373).toInt ≤ 4000 from (om_c74a68af25 z373)) (show 0 ≤ (v.1 0 381).toInt ∧ (v.1 0 381).toInt ≤ 3008 from (om_e78eec72e1 z381)) (show L1.length = 40 from hL1) (show L2.length = 60 from hL2) (show RP v from rp) (show pr ps = ad 908 from hps) (show (v.1 0 300) = ps from es300) (show (v.1 0 310) = ps from es310) (show l.stackTraces = false from hst) (show 40 ≤ (v.1 0 306).toInt + (n : Int) from (om_a9150ae9b6 zn))) tw_520 tw_609 (by decide +kernel) rfl rfl ⟨show (8 * n + 20) + 1 ≤ 8 * n + 40 from om_38ba114efc, show 8 + (5 + 11) + 28 * (8 * n + 20) ≤ 28 * (8 * n + 40) from om_237ccf37c6⟩ (List.range (cW ad pr N cI cR L1 L2 v).length) (rg_map _) (nd_range _) 2 rfl rfl rfl rfl hl.1 rfl (Nat.le_of_ble_eq_true rfl) dX5_stat_254 ⟨Nat.le_of_ble_eq_true rfl, Nat.le_of_ble_eq_true rfl⟩) hP hD hS hA (fun u9 ce9 q9 H locs hx9 hP hD hS hc9 hv9 hf9 => ?_) (fun u295 H locs hw294 hP hD hS hz8 => ?_)
                                                    · exact vx_out (fun x h9 => (hnt x h9).elim) hlocks hc9 hv9 hf9 (fun t9 ht9 hv8 => ⟨u9, ⟨FC.tr (FC.rf _) hx9.1, hx9.2⟩, ⟨rfl, by rw [ht9]; exact hP, hD⟩, hS.F ht9⟩) hS.2.2 (Nat.le_refl _) (Nat.le_refl _)
                                                    refine W.shrink (hz8.trans hz9) ?_
                                                    obtain ⟨fr294, i306294, i321294, i326294, i381294, po294⟩ := hw294
                                                    refine lv_aload_n hx hb dX5_stat_257 rfl (lv_at hl 0 rfl) ?_
                                                    refine va_get (D := (dC, dI)) (ci := 8) (fs := oF_X5 ad pr u295) (v := .ref (ad 900)) (C := RX5) (T := TX5) (N := 7) hx hb ht itX5 hown hK hP 3 rfl rfl 1 (by decide) (ht _ tw_571) (fun _ h9 => h9) rfl dX5_stat_258 ?_
                                                    refine lv_bipush (v := 36) hx hb dX5_stat_261 (by decide) ?_
                                                    have q297 : (u295.1 0 304).toInt = (v.1 0 304).toInt := congrArg Int32.toInt ((fr294.2.1 304 (by decide)).trans (show v.1 0 304 = (v.1 0 304) by rfl))
                                                    have q298 : (u295.1 0 373).toInt = (v.1 0 373).toInt := congrArg Int32.toInt ((fr294.2.1 373 (by decide)).trans (show v.1 0 373 = (v.1 0 373) by rfl))
                                                    refine W.sz (fun hz9 => ?_)
                                                    refine czx_v (rx_Vk (n := 1) (As := [.int 36]) (rest := []) hx hb hml hown ht hKK hFx hP hD hS hA (c_x_X9_expect l dC dI cI cB cZ cJ cR tb H.size ad pr N L1 L2 u295 (36 : Int32) ps (show 0 ≤ (u295.1 0 304).toInt ∧ (u295.1 0 304).toInt ≤ 1503 from (om_73002589c1 z304 q297)) (show 0 ≤ (u295.1 0 373).toInt ∧ (u295.1 0 373).toInt ≤ 4000 from (om_9084c127ed z373 q298)) (show pr ps = ad 908 from hps) (show (u295.1 0 300) = ps from (Eq.trans (fr294.2.1 300 (by decide)) es300)) (show l.stackTraces = false from hst)) tw_526 tw_580 (by decide +kernel) rfl rfl ⟨show 7 + 1 ≤ 8 * n + 40 from om_a597943b8d, show 8 + (2 + 11) + 104 ≤ 28 * (8 * n + 40) from om_10b26f883e⟩ (List.range (cW ad pr N cI cR L1 L2 u295).length) (rg_map _) (nd_range _) 0 rfl rfl rfl rfl hl.1 rfl (Nat.le_of_ble_eq_true rfl) dX5_stat_263 ⟨Nat.le_of_ble_eq_true rfl, Nat.le_of_ble_eq_true rfl⟩) hP hD hS hA (fun u9 ce9 q9 H locs hx9 hP hD hS hc9 hv9 hf9 => ?_) (fun u300 H locs hw299 hP hD hS hz8 => ?_)
                                                    · exact vx_out (fun x h9 => (hnt x h9).elim) hlocks hc9 hv9 hf9 (fun t9 ht9 hv8 => ⟨u9, ⟨FC.tr (FC.tr (FC.rf _) (FC.up fr294 (by decide) (by decide))) hx9.1, hx9.2⟩, ⟨rfl, by rw [ht9]; exact hP, hD⟩, hS.F ht9⟩) hS.2.2 (Nat.le_refl _) (Nat.le_refl _)
                                                    refine W.shrink (hz8.trans hz9) ?_
                                                    have fr299 := hw299
                                                    have q302 : (u300.1 0 306).toInt = (u295.1 0 306).toInt := congrArg Int32.toInt ((fr299.2.1 306 (by decide)).trans (show u295.1 0 306 = (u295.1 0 306) by rfl))
                                                    have q303 : (u295.1 0 312).toInt = (v.1 0 312).toInt := congrArg Int32.toInt ((fr294.2.1 312 (by decide)).trans (show v.1 0 312 = (v.1 0 312) by rfl))
                                                    have q304 : (u300.1 0 312).toInt = (u295.1 0 312).toInt := congrArg Int32.toInt ((fr299.2.1 312 (by decide)).trans (show u295.1 0 312 = (u295.1 0 312) by rfl))
                                                    have q305 : (u300.1 0 321).toInt = (u295.1 0 321).toInt := congrArg Int32.toInt ((fr299.2.1 321 (by decide)).trans (show u295.1 0 321 = (u295.1 0 321) by rfl))
                                                    have q306 : (u300.1 0 326).toInt = (u295.1 0 326).toInt := congrArg Int32.toInt ((fr299.2.1 326 (by decide)).trans (show u295.1 0 326 = (u295.1 0 326) by rfl))
                                                    have q307 : (u300.1 0 381).toInt = (u295.1 0 381).toInt := congrArg Int32.toInt ((fr299.2.1 381 (by decide)).trans (show u295.1 0 381 = (u295.1 0 381) by rfl))
                                                    refine W.sz (fun hz => ?_)
                                                    refine vx_ret ?_
                                                    refine W.widen (k := 1) (n := 6) (Nat.le_of_ble_eq_true rfl) (Nat.le_of_ble_eq_true rfl) ?_
                                                    exact W.vret hx hb hr (fun t ht9 hW => ⟨⟨u300, rfl, ⟨(FC.tr (FC.tr (FC.rf _) (FC.up fr294 (by decide) (by decide))) (FC.up fr299 (by decide) (by decide))), (show 0 ≤ (u300.1 0 306).toInt ∧ (u300.1 0 306).toInt ≤ 40 from (om_99e115f631 i306294 q302)), (show 0 ≤ (u300.1 0 312).toInt ∧ (u300.1 0 312).toInt ≤ 500 from (om_8a5975ec21 z312 q303 q304)), (show 0 ≤ (u300.1 0 321).toInt ∧ (u300.1 0 321).toInt ≤ 501 from (om_ff27494c0e i321294 q305)), (show 0 ≤ (u300.1 0 326).toInt ∧ (u300.1 0 326).toInt ≤ 420 from (om_8ed0dedb19 i326294 q306)), (show 0 ≤ (u300.1 0 381).toInt ∧ (u300.1 0 381).toInt ≤ 3008 from (om_6e4eb11ad3 i381294 q307)), (show (u300.1 0 306).toInt = (v.1 0 306).toInt from (om_837b7bd001 po294 q302))⟩, ⟨by rw [ht9]; exact hP, hD⟩, by rw [ht9]; exact hz⟩, hS.F ht9⟩) hS.2.2 dX5_stat_266
                                                  ·
                                                    by_cases h308 : r3 = 35
                                                    · refine lv_tableIn (off := 242) (tgt := 249) hx hb dX5_stat_7 (by rw [h308]; decide) (by rw [h308]; decide) (by rw [h308]; decide) (by decide) ?_
                                                      refine lv_aload_n hx hb dX5_stat_249 rfl (lv_at hl 0 rfl) ?_
                                                      refine va_get (D := (dC, dI)) (ci := 8) (fs := oF_X5 ad pr v) (v := .ref (ad 902)) (C := RX5) (T := TX5) (N := 7) hx hb ht itX5 hown hK hP 3 rfl rfl 3 (by decide) (ht _ tw_608) (fun _ h9 => h9) rfl dX5_stat_250 ?_
                                                      refine lv_iconst (v := 1) hx hb dX5_stat_253 (by decide) ?_
                                                      refine W.sz (fun hz9 => ?_)
                                                      refine czx_v (rx_Vk (n := 1) (As := [.int 1]) (rest := []) hx hb hml hown ht hKK hFx hP hD hS hA ((cq_all l n).1 dC dI cI cB cZ cJ cR tb H.size ad pr N L1 L2 v (1 : Int32) ps (show 0 ≤ (v.1 0 304).toInt ∧ (v.1 0 304).toInt ≤ 1503 from (om_c99648273b z304)) (show 0 ≤ (v.1 0 306).toInt ∧ (v.1 0 306).toInt ≤ 40 from (om_7eaf33e007 z306)) (show 0 ≤ (v.1 0 312).toInt ∧ (v.1 0 312).toInt ≤ 500 from (om_9861e69da5 z312)) (show 0 ≤ (v.1 0 321).toInt ∧ (v.1 0 321).toInt ≤ 501 from (om_e1d35f5faf z321)) (show 0 ≤ (v.1 0 326).toInt ∧ (v.1 0 326).toInt ≤ 420 from (om_839d7ed7dd z326)) (show 0 ≤ (v.1 0 373).toInt ∧ (v.1 0 373).toInt ≤ 4000 from (om_c74a68af25 z373)) (show 0 ≤ (v.1 0 381).toInt ∧ (v.1 0 381).toInt ≤ 3008 from (om_e78eec72e1 z381)) (show L1.length = 40 from hL1) (show L2.length = 60 from hL2) (show RP v from rp) (show pr ps = ad 908 from hps) (show (v.1 0 300) = ps from es300) (show (v.1 0 310) = ps from es310) (show l.stackTraces = false from hst) (show 40 ≤ (v.1 0 306).toInt + (n : Int) from (om_a9150ae9b6 zn))) tw_520 tw_609 (by decide +kernel) rfl rfl ⟨show (8 * n + 20) + 1 ≤ 8 * n + 40 from om_38ba114efc, show 8 + (5 + 11) + 28 * (8 * n + 20) ≤ 28 * (8 * n + 40) from om_237ccf37c6⟩ (List.range (cW ad pr N cI cR L1 L2 v).length) (rg_map _) (nd_range _) 2 rfl rfl rfl rfl hl.1 rfl (Nat.le_of_ble_eq_true rfl) dX5_stat_254 ⟨Nat.le_of_ble_eq_true rfl, Nat.le_of_ble_eq_true rfl⟩) hP hD hS hA (fun u9 ce9 q9 H locs hx9 hP hD hS hc9 hv9 hf9 => ?_) (fun u310 H locs hw309 hP hD hS hz8 => ?_)
                                                      · exact vx_out (fun x h9 => (hnt x h9).elim) hlocks hc9 hv9 hf9 (fun t9 ht9 hv8 => ⟨u9, ⟨FC.tr (FC.rf _) hx9.1, hx9.2⟩, ⟨rfl, by rw [ht9]; exact hP, hD⟩, hS.F ht9⟩) hS.2.2 (Nat.le_refl _) (Nat.le_refl _)
                                                      refine W.shrink (hz8.trans hz9) ?_
                                                      obtain ⟨fr309, i306309, i321309, i326309, i381309, po309⟩ := hw309
                                                      refine lv_aload_n hx hb dX5_stat_257 rfl (lv_at hl 0 rfl) ?_
                                                      refine va_get (D := (dC, dI)) (ci := 8) (fs := oF_X5 ad pr u310) (v := .ref (ad 900)) (C := RX5) (T := TX5) (N := 7) hx hb ht itX5 hown hK hP 3 rfl rfl 1 (by decide) (ht _ tw_571) (fun _ h9 => h9) rfl dX5_stat_258 ?_
                                                      refine lv_bipush (v := 36) hx hb dX5_stat_261 (by decide) ?_
                                                      have q312 : (u310.1 0 304).toInt = (v.1 0 304).toInt := congrArg Int32.toInt ((fr309.2.1 304 (by decide)).trans (show v.1 0 304 = (v.1 0 304) by rfl))
                                                      have q313 : (u310.1 0 373).toInt = (v.1 0 373).toInt := congrArg Int32.toInt ((fr309.2.1 373 (by decide)).trans (show v.1 0 373 = (v.1 0 373) by rfl))
                                                      refine W.sz (fun hz9 => ?_)
                                                      refine czx_v (rx_Vk (n := 1) (As := [.int 36]) (rest := []) hx hb hml hown ht hKK hFx hP hD hS hA (c_x_X9_expect l dC dI cI cB cZ cJ cR tb H.size ad pr N L1 L2 u310 (36 : Int32) ps (show 0 ≤ (u310.1 0 304).toInt ∧ (u310.1 0 304).toInt ≤ 1503 from (om_73002589c1 z304 q312)) (show 0 ≤ (u310.1 0 373).toInt ∧ (u310.1 0 373).toInt ≤ 4000 from (om_9084c127ed z373 q313)) (show pr ps = ad 908 from hps) (show (u310.1 0 300) = ps from (Eq.trans (fr309.2.1 300 (by decide)) es300)) (show l.stackTraces = false from hst)) tw_526 tw_580 (by decide +kernel) rfl rfl ⟨show 7 + 1 ≤ 8 * n + 40 from om_a597943b8d, show 8 + (2 + 11) + 104 ≤ 28 * (8 * n + 40) from om_10b26f883e⟩ (List.range (cW ad pr N cI cR L1 L2 u310).length) (rg_map _) (nd_range _) 0 rfl rfl rfl rfl hl.1 rfl (Nat.le_of_ble_eq_true rfl) dX5_stat_263 ⟨Nat.le_of_ble_eq_true rfl, Nat.le_of_ble_eq_true rfl⟩) hP hD hS hA (fun u9 ce9 q9 H locs hx9 hP hD hS hc9 hv9 hf9 => ?_) (fun u315 H locs hw314 hP hD hS hz8 => ?_)
                                                      · exact vx_out (fun x h9 => (hnt x h9).elim) hlocks hc9 hv9 hf9 (fun t9 ht9 hv8 => ⟨u9, ⟨FC.tr (FC.tr (FC.rf _) (FC.up fr309 (by decide) (by decide))) hx9.1, hx9.2⟩, ⟨rfl, by rw [ht9]; exact hP, hD⟩, hS.F ht9⟩) hS.2.2 (Nat.le_refl _) (Nat.le_refl _)
                                                      refine W.shrink (hz8.trans hz9) ?_
                                                      have fr314 := hw314
                                                      have q317 : (u315.1 0 306).toInt = (u310.1 0 306).toInt := congrArg Int32.toInt ((fr314.2.1 306 (by decide)).trans (show u310.1 0 306 = (u310.1 0 306) by rfl))
                                                      have q318 : (u310.1 0 312).toInt = (v.1 0 312).toInt := congrArg Int32.toInt ((fr309.2.1 312 (by decide)).trans (show v.1 0 312 = (v.1 0 312) by rfl))
                                                      have q319 : (u315.1 0 312).toInt = (u310.1 0 312).toInt := congrArg Int32.toInt ((fr314.2.1 312 (by decide)).trans (show u310.1 0 312 = (u310.1 0 312) by rfl))
                                                      have q320 : (u315.1 0 321).toInt = (u310.1 0 321).toInt := congrArg Int32.toInt ((fr314.2.1 321 (by decide)).trans (show u310.1 0 321 = (u310.1 0 321) by rfl))
                                                      have q321 : (u315.1 0 326).toInt = (u310.1 0 326).toInt := congrArg Int32.toInt ((fr314.2.1 326 (by decide)).trans (show u310.1 0 326 = (u310.1 0 326) by rfl))
                                                      have q322 : (u315.1 0 381).toInt = (u310.1 0 381).toInt := congrArg Int32.toInt ((fr314.2.1 381 (by decide)).trans (show u310.1 0 381 = (u310.1 0 381) by rfl))
                                                      refine W.sz (fun hz => ?_)
                                                      refine vx_ret ?_
                                                      refine W.widen (k := 1) (n := 6) (Nat.le_of_ble_eq_true rfl) (Nat.le_of_ble_eq_true rfl) ?_
                                                      exact W.vret hx hb hr (fun t ht9 hW => ⟨⟨u315, rfl, ⟨(FC.tr (FC.tr (FC.rf _) (FC.up fr309 (by decide) (by decide))) (FC.up fr314 (by decide) (by decide))), (show 0 ≤ (u315.1 0 306).toInt ∧ (u315.1 0 306).toInt ≤ 40 from (om_99e115f631 i306309 q317)), (show 0 ≤ (u315.1 0 312).toInt ∧ (u315.1 0 312).toInt ≤ 500 from (om_8a5975ec21 z312 q318 q319)), (show 0 ≤ (u315.1 0 321).toInt ∧ (u315.1 0 321).toInt ≤ 501 from (om_ff27494c0e i321309 q320)), (show 0 ≤ (u315.1 0 326).toInt ∧ (u315.1 0 326).toInt ≤ 420 from (om_8ed0dedb19 i326309 q321)), (show 0 ≤ (u315.1 0 381).toInt ∧ (u315.1 0 381).toInt ≤ 3008 from (om_6e4eb11ad3 i381309 q322)), (show (u315.1 0 306).toInt = (v.1 0 306).toInt from (om_837b7bd001 po309 q317))⟩, ⟨by rw [ht9]; exact hP, hD⟩, by rw [ht9]; exact hz⟩, hS.F ht9⟩) hS.2.2 dX5_stat_266
                                                    ·
                                                      by_cases h323 : r3 = 36
                                                      · refine lv_tableIn (off := 232) (tgt := 239) hx hb dX5_stat_7 (by rw [h323]; decide) (by rw [h323]; decide) (by rw [h323]; decide) (by decide) ?_
                                                        refine lv_aload_n hx hb dX5_stat_239 rfl (lv_at hl 0 rfl) ?_
                                                        refine va_get (D := (dC, dI)) (ci := 8) (fs := oF_X5 ad pr v) (v := .ref (ad 900)) (C := RX5) (T := TX5) (N := 7) hx hb ht itX5 hown hK hP 3 rfl rfl 1 (by decide) (ht _ tw_571) (fun _ h9 => h9) rfl dX5_stat_240 ?_
                                                        refine W.sz (fun hz9 => ?_)
                                                        refine czx_v (rx_Vk (n := 0) (As := []) (rest := []) hx hb hml hown ht hKK hFx hP hD hS hA (c_x_X9_take l dC dI cI cB cZ cJ cR tb H.size ad pr N L1 L2 v ps (show 0 ≤ (v.1 0 304).toInt ∧ (v.1 0 304).toInt ≤ 1503 from (om_c99648273b z304)) (show 0 ≤ (v.1 0 373).toInt ∧ (v.1 0 373).toInt ≤ 4000 from (om_c74a68af25 z373)) (show pr ps = ad 908 from hps) (show (v.1 0 300) = ps from es300) (show l.stackTraces = false from hst)) tw_539 tw_585 (by decide +kernel) rfl rfl ⟨show 7 + 1 ≤ 8 * n + 40 from om_a597943b8d, show 8 + (1 + 11) + 104 ≤ 28 * (8 * n + 40) from om_89c91d5fe4⟩ (List.range (cW ad pr N cI cR L1 L2 v).length) (rg_map _) (nd_range _) 0 rfl rfl rfl rfl hl.1 rfl (Nat.le_of_ble_eq_true rfl) dX5_stat_243 ⟨Nat.le_of_ble_eq_true rfl, Nat.le_of_ble_eq_true rfl⟩) hP hD hS hA (fun u9 ce9 q9 H locs hx9 hP hD hS hc9 hv9 hf9 => ?_) (fun u325 H locs hw324 hP hD hS hz8 => ?_)
                                                        · exact vx_out (fun x h9 => (hnt x h9).elim) hlocks hc9 hv9 hf9 (fun t9 ht9 hv8 => ⟨u9, ⟨FC.tr (FC.rf _) hx9.1, hx9.2⟩, ⟨rfl, by rw [ht9]; exact hP, hD⟩, hS.F ht9⟩) hS.2.2 (Nat.le_refl _) (Nat.le_refl _)
                                                        refine W.shrink (hz8.trans hz9) ?_
                                                        have fr324 := hw324
                                                        refine lv_goto (tgt := 266) hx hb dX5_stat_246 (by decide) ?_
                                                        have q327 : (u325.1 0 306).toInt = (v.1 0 306).toInt := congrArg Int32.toInt ((fr324.2.1 306 (by decide)).trans (show v.1 0 306 = (v.1 0 306) by rfl))
                                                        have q328 : (u325.1 0 312).toInt = (v.1 0 312).toInt := congrArg Int32.toInt ((fr324.2.1 312 (by decide)).trans (show v.1 0 312 = (v.1 0 312) by rfl))
                                                        have q329 : (u325.1 0 321).toInt = (v.1 0 321).toInt := congrArg Int32.toInt ((fr324.2.1 321 (by decide)).trans (show v.1 0 321 = (v.1 0 321) by rfl))
                                                        have q330 : (u325.1 0 326).toInt = (v.1 0 326).toInt := congrArg Int32.toInt ((fr324.2.1 326 (by decide)).trans (show v.1 0 326 = (v.1 0 326) by rfl))
                                                        have q331 : (u325.1 0 381).toInt = (v.1 0 381).toInt := congrArg Int32.toInt ((fr324.2.1 381 (by decide)).trans (show v.1 0 381 = (v.1 0 381) by rfl))
                                                        refine W.sz (fun hz => ?_)
                                                        refine vx_ret ?_
                                                        refine W.widen (k := 1) (n := 6) (Nat.le_of_ble_eq_true rfl) (Nat.le_of_ble_eq_true rfl) ?_
                                                        exact W.vret hx hb hr (fun t ht9 hW => ⟨⟨u325, rfl, ⟨(FC.tr (FC.rf _) (FC.up fr324 (by decide) (by decide))), (show 0 ≤ (u325.1 0 306).toInt ∧ (u325.1 0 306).toInt ≤ 40 from (om_99e115f631 z306 q327)), (show 0 ≤ (u325.1 0 312).toInt ∧ (u325.1 0 312).toInt ≤ 500 from (om_f8376ff89c z312 q328)), (show 0 ≤ (u325.1 0 321).toInt ∧ (u325.1 0 321).toInt ≤ 501 from (om_ff27494c0e z321 q329)), (show 0 ≤ (u325.1 0 326).toInt ∧ (u325.1 0 326).toInt ≤ 420 from (om_8ed0dedb19 z326 q330)), (show 0 ≤ (u325.1 0 381).toInt ∧ (u325.1 0 381).toInt ≤ 3008 from (om_6e4eb11ad3 z381 q331)), (show (u325.1 0 306).toInt = (v.1 0 306).toInt from (om_5049cbdce5 q327))⟩, ⟨by rw [ht9]; exact hP, hD⟩, by rw [ht9]; exact hz⟩, hS.F ht9⟩) hS.2.2 dX5_stat_266
                                                      ·
                                                        refine lv_tableOut (tgt := 249) hx hb dX5_stat_7 (by have := lv_neT h4 (a := 10) (by decide); have := lv_neT h8 (a := 11) (by decide); have := lv_neT h12 (a := 12) (by decide); have := lv_neT h27 (a := 13) (by decide); have := lv_neT h31 (a := 14) (by decide); have := lv_neT h35 (a := 15) (by decide); have := lv_neT h39 (a := 16) (by decide); have := lv_neT h47 (a := 17) (by decide); have := lv_neT h55 (a := 18) (by decide); have := lv_neT h60 (a := 19) (by decide); have := lv_neT h94 (a := 20) (by decide); have := lv_neT h109 (a := 21) (by decide); have := lv_neT h124 (a := 22) (by decide); have := lv_neT h139 (a := 23) (by decide); have := lv_neT h154 (a := 24) (by decide); have := lv_neT h169 (a := 25) (by decide); have := lv_neT h184 (a := 26) (by decide); have := lv_neT h199 (a := 27) (by decide); have := lv_neT h214 (a := 28) (by decide); have := lv_neT h229 (a := 29) (by decide); have := lv_neT h244 (a := 30) (by decide); have := lv_neT h259 (a := 31) (by decide); have := lv_neT h274 (a := 32) (by decide); have := lv_neT h278 (a := 33) (by decide); have := lv_neT h293 (a := 34) (by decide); have := lv_neT h308 (a := 35) (by decide); have := lv_neT h323 (a := 36) (by decide); omega) (by decide) ?_
                                                        refine lv_aload_n hx hb dX5_stat_249 rfl (lv_at hl 0 rfl) ?_
                                                        refine va_get (D := (dC, dI)) (ci := 8) (fs := oF_X5 ad pr v) (v := .ref (ad 902)) (C := RX5) (T := TX5) (N := 7) hx hb ht itX5 hown hK hP 3 rfl rfl 3 (by decide) (ht _ tw_608) (fun _ h9 => h9) rfl dX5_stat_250 ?_
                                                        refine lv_iconst (v := 1) hx hb dX5_stat_253 (by decide) ?_
                                                        refine W.sz (fun hz9 => ?_)
                                                        refine czx_v (rx_Vk (n := 1) (As := [.int 1]) (rest := []) hx hb hml hown ht hKK hFx hP hD hS hA ((cq_all l n).1 dC dI cI cB cZ cJ cR tb H.size ad pr N L1 L2 v (1 : Int32) ps (show 0 ≤ (v.1 0 304).toInt ∧ (v.1 0 304).toInt ≤ 1503 from (om_c99648273b z304)) (show 0 ≤ (v.1 0 306).toInt ∧ (v.1 0 306).toInt ≤ 40 from (om_7eaf33e007 z306)) (show 0 ≤ (v.1 0 312).toInt ∧ (v.1 0 312).toInt ≤ 500 from (om_9861e69da5 z312)) (show 0 ≤ (v.1 0 321).toInt ∧ (v.1 0 321).toInt ≤ 501 from (om_e1d35f5faf z321)) (show 0 ≤ (v.1 0 326).toInt ∧ (v.1 0 326).toInt ≤ 420 from (om_839d7ed7dd z326)) (show 0 ≤ (v.1 0 373).toInt ∧ (v.1 0 373).toInt ≤ 4000 from (om_c74a68af25 z373)) (show 0 ≤ (v.1 0 381).toInt ∧ (v.1 0 381).toInt ≤ 3008 from (om_e78eec72e1 z381)) (show L1.length = 40 from hL1) (show L2.length = 60 from hL2) (show RP v from rp) (show pr ps = ad 908 from hps) (show (v.1 0 300) = ps from es300) (show (v.1 0 310) = ps from es310) (show l.stackTraces = false from hst) (show 40 ≤ (v.1 0 306).toInt + (n : Int) from (om_a9150ae9b6 zn))) tw_520 tw_609 (by decide +kernel) rfl rfl ⟨show (8 * n + 20) + 1 ≤ 8 * n + 40 from om_38ba114efc, show 8 + (5 + 11) + 28 * (8 * n + 20) ≤ 28 * (8 * n + 40) from om_237ccf37c6⟩ (List.range (cW ad pr N cI cR L1 L2 v).length) (rg_map _) (nd_range _) 2 rfl rfl rfl rfl hl.1 rfl (Nat.le_of_ble_eq_true rfl) dX5_stat_254 ⟨Nat.le_of_ble_eq_true rfl, Nat.le_of_ble_eq_true rfl⟩) hP hD hS hA (fun u9 ce9 q9 H locs hx9 hP hD hS hc9 hv9 hf9 => ?_) (fun u333 H locs hw332 hP hD hS hz8 => ?_)
                                                        · exact vx_out (fun x h9 => (hnt x h9).elim) hlocks hc9 hv9 hf9 (fun t9 ht9 hv8 => ⟨u9, ⟨FC.tr (FC.rf _) hx9.1, hx9.2⟩, ⟨rfl, by rw [ht9]; exact hP, hD⟩, hS.F ht9⟩) hS.2.2 (Nat.le_refl _) (Nat.le_refl _)
                                                        refine W.shrink (hz8.trans hz9) ?_
                                                        obtain ⟨fr332, i306332, i321332, i326332, i381332, po332⟩ := hw332
                                                        refine lv_aload_n hx hb dX5_stat_257 rfl (lv_at hl 0 rfl) ?_
                                                        refine va_get (D := (dC, dI)) (ci := 8) (fs := oF_X5 ad pr u333) (v := .ref (ad 900)) (C := RX5) (T := TX5) (N := 7) hx hb ht itX5 hown hK hP 3 rfl rfl 1 (by decide) (ht _ tw_571) (fun _ h9 => h9) rfl dX5_stat_258 ?_
                                                        refine lv_bipush (v := 36) hx hb dX5_stat_261 (by decide) ?_
                                                        have q335 : (u333.1 0 304).toInt = (v.1 0 304).toInt := congrArg Int32.toInt ((fr332.2.1 304 (by decide)).trans (show v.1 0 304 = (v.1 0 304) by rfl))
                                                        have q336 : (u333.1 0 373).toInt = (v.1 0 373).toInt := congrArg Int32.toInt ((fr332.2.1 373 (by decide)).trans (show v.1 0 373 = (v.1 0 373) by rfl))
                                                        refine W.sz (fun hz9 => ?_)
                                                        refine czx_v (rx_Vk (n := 1) (As := [.int 36]) (rest := []) hx hb hml hown ht hKK hFx hP hD hS hA (c_x_X9_expect l dC dI cI cB cZ cJ cR tb H.size ad pr N L1 L2 u333 (36 : Int32) ps (show 0 ≤ (u333.1 0 304).toInt ∧ (u333.1 0 304).toInt ≤ 1503 from (om_73002589c1 z304 q335)) (show 0 ≤ (u333.1 0 373).toInt ∧ (u333.1 0 373).toInt ≤ 4000 from (om_9084c127ed z373 q336)) (show pr ps = ad 908 from hps) (show (u333.1 0 300) = ps from (Eq.trans (fr332.2.1 300 (by decide)) es300)) (show l.stackTraces = false from hst)) tw_526 tw_580 (by decide +kernel) rfl rfl ⟨show 7 + 1 ≤ 8 * n + 40 from om_a597943b8d, show 8 + (2 + 11) + 104 ≤ 28 * (8 * n + 40) from om_10b26f883e⟩ (List.range (cW ad pr N cI cR L1 L2 u333).length) (rg_map _) (nd_range _) 0 rfl rfl rfl rfl hl.1 rfl (Nat.le_of_ble_eq_true rfl) dX5_stat_263 ⟨Nat.le_of_ble_eq_true rfl, Nat.le_of_ble_eq_true rfl⟩) hP hD hS hA (fun u9 ce9 q9 H locs hx9 hP hD hS hc9 hv9 hf9 => ?_) (fun u338 H locs hw337 hP hD hS hz8 => ?_)
                                                        · exact vx_out (fun x h9 => (hnt x h9).elim) hlocks hc9 hv9 hf9 (fun t9 ht9 hv8 => ⟨u9, ⟨FC.tr (FC.tr (FC.rf _) (FC.up fr332 (by decide) (by decide))) hx9.1, hx9.2⟩, ⟨rfl, by rw [ht9]; exact hP, hD⟩, hS.F ht9⟩) hS.2.2 (Nat.le_refl _) (Nat.le_refl _)
                                                        refine W.shrink (hz8.trans hz9) ?_
                                                        have fr337 := hw337
                                                        have q340 : (u338.1 0 306).toInt = (u333.1 0 306).toInt := congrArg Int32.toInt ((fr337.2.1 306 (by decide)).trans (show u333.1 0 306 = (u333.1 0 306) by rfl))
                                                        have q341 : (u333.1 0 312).toInt = (v.1 0 312).toInt := congrArg Int32.toInt ((fr332.2.1 312 (by decide)).trans (show v.1 0 312 = (v.1 0 312) by rfl))
                                                        have q342 : (u338.1 0 312).toInt = (u333.1 0 312).toInt := congrArg Int32.toInt ((fr337.2.1 312 (by decide)).trans (show u333.1 0 312 = (u333.1 0 312) by rfl))
                                                        have q343 : (u338.1 0 321).toInt = (u333.1 0 321).toInt := congrArg Int32.toInt ((fr337.2.1 321 (by decide)).trans (show u333.1 0 321 = (u333.1 0 321) by rfl))
                                                        have q344 : (u338.1 0 326).toInt = (u333.1 0 326).toInt := congrArg Int32.toInt ((fr337.2.1 326 (by decide)).trans (show u333.1 0 326 = (u333.1 0 326) by rfl))
                                                        have q345 : (u338.1 0 381).toInt = (u333.1 0 381).toInt := congrArg Int32.toInt ((fr337.2.1 381 (by decide)).trans (show u333.1 0 381 = (u333.1 0 381) by rfl))
                                                        refine W.sz (fun hz => ?_)
                                                        refine vx_ret ?_
                                                        refine W.widen (k := 1) (n := 6) (Nat.le_of_ble_eq_true rfl) (Nat.le_of_ble_eq_true rfl) ?_
                                                        exact W.vret hx hb hr (fun t ht9 hW => ⟨⟨u338, rfl, ⟨(FC.tr (FC.tr (FC.rf _) (FC.up fr332 (by decide) (by decide))) (FC.up fr337 (by decide) (by decide))), (show 0 ≤ (u338.1 0 306).toInt ∧ (u338.1 0 306).toInt ≤ 40 from (om_99e115f631 i306332 q340)), (show 0 ≤ (u338.1 0 312).toInt ∧ (u338.1 0 312).toInt ≤ 500 from (om_8a5975ec21 z312 q341 q342)), (show 0 ≤ (u338.1 0 321).toInt ∧ (u338.1 0 321).toInt ≤ 501 from (om_ff27494c0e i321332 q343)), (show 0 ≤ (u338.1 0 326).toInt ∧ (u338.1 0 326).toInt ≤ 420 from (om_8ed0dedb19 i326332 q344)), (show 0 ≤ (u338.1 0 381).toInt ∧ (u338.1 0 381).toInt ≤ 3008 from (om_6e4eb11ad3 i381332 q345)), (show (u338.1 0 306).toInt = (v.1 0 306).toInt from (om_837b7bd001 po332 q340))⟩, ⟨by rw [ht9]; exact hP, hD⟩, by rw [ht9]; exact hz⟩, hS.F ht9⟩) hS.2.2 dX5_stat_266
theorem cqs_all (l : Launch) : ∀ n, Cq_stat l n := by
  intro n
  induction n with
  | zero => exact c_x_X5_stat l 0 (fun m h => by omega)
  | succ n ih => exact c_x_X5_stat l (n + 1) (fun m h => (show n = m by omega) ▸ ih)
theorem om_6cd7f5accb {n0 : Nat} : 0 + 1 ≤ 8 * n0 + 60 := by omega
theorem om_a4148e048f {n0 : Nat} : 8 + (1 + 11) + 0 ≤ 28 * (8 * n0 + 60) := by omega
theorem om_7771dcfd65 {n0 : Nat} : 8 + (4 + 11) + 0 ≤ 28 * (8 * n0 + 60) := by omega
theorem om_c0e34ba2b2 {n0 : Nat} : 7 + 1 ≤ 8 * n0 + 60 := by omega
theorem om_2c6cab6610 {n0 : Nat} : 8 + (1 + 11) + 104 ≤ 28 * (8 * n0 + 60) := by omega
theorem om_3cee117268 {n0 : Nat} : 10 + 1 ≤ 8 * n0 + 60 := by omega
theorem om_7b51625fa4 {n0 : Nat} : 8 + (2 + 11) + 166 ≤ 28 * (8 * n0 + 60) := by omega
theorem om_8200c5c61c {x0 : Int} (h0 : 0 ≤ x0 ∧ x0 ≤ 500) : (0 : Int) ≠ 0 ∨ x0 ≤ 1000 := by omega
theorem om_01e2bf3580 {x0 : Int} : (5 : Int) ≠ 0 ∨ x0 ≤ 1000 := by omega
theorem om_30a6a77d0a {x0 x1 x2 x3 x4 x5 x6 x7 : Int} (h0 : 0 ≤ x0 ∧ x0 ≤ 3008) (h1 : x1 = x0) (h2 : x2 = x1) (h3 : x3 = x2) (h4 : x4 = x3) (h5 : x5 = x4) (h6 : x6 = x5) (h7 : x7 = x6) : 0 ≤ x7 ∧ x7 ≤ 3008 := by omega
theorem om_ae5bfc4266 {n0 : Nat} : 8 + (5 + 11) + 0 ≤ 28 * (8 * n0 + 60) := by omega
theorem om_5df1cb641d {n0 : Nat} : 8 + (2 + 11) + 104 ≤ 28 * (8 * n0 + 60) := by omega
theorem om_5326c54b3d {x0 x2 x3 x4 x5 x6 x7 x8 x9 x10 x11 x12 : Int} {n1 : Nat} (h0 : 40 ≤ x0 + (n1 : Int)) (h1 : x2 = x0) (h2 : x3 = x2) (h3 : x4 = x3) (h4 : x5 = x4) (h5 : x6 = x5) (h6 : x7 = x6) (h7 : x8 = x7) (h8 : x9 = x8) (h9 : x10 = x9) (h10 : x11 = x10) (h11 : 0 ≤ x12 ∧ x12 ≤ 40) (h12 : x12 = x11 + 1) : 1 ≤ (n1 : Int) := by omega
theorem om_cfcb3ddc4a {x0 x1 x2 x3 x4 x5 x6 x7 x8 x9 x10 x11 : Int} (h0 : 0 ≤ x0 ∧ x0 ≤ 1503) (h1 : x1 = x0) (h2 : x2 = x1) (h3 : x3 = x2) (h4 : x4 = x3) (h5 : x5 = x4) (h6 : x6 = x5) (h7 : x7 = x6) (h8 : x8 = x7) (h9 : x9 = x8) (h10 : x10 = x9) (h11 : x11 = x10) : 0 ≤ x11 ∧ x11 ≤ 1503 := by omega
theorem om_71b86c5b34 {x0 x1 x2 x3 x4 x5 x6 : Int} (h0 : 0 ≤ x0 ∧ x0 ≤ 500) (h1 : x1 = x0) (h2 : x2 = x1) (h3 : x3 = x2) (h4 : x4 = x3) (h5 : x5 = x4) (h6 : x6 = x5) : 0 ≤ x6 ∧ x6 ≤ 500 := by omega
theorem om_c0d1cf1fc7 {x0 x1 x2 x3 x4 x5 x6 x7 x8 x9 x10 x11 : Int} (h0 : 0 ≤ x0 ∧ x0 ≤ 501) (h1 : x1 = x0) (h2 : x2 = x1) (h3 : x3 = x2) (h4 : x4 = x3) (h5 : x5 = x4) (h6 : x6 = x5) (h7 : x7 = x6) (h8 : x8 = x7) (h9 : x9 = x8) (h10 : x10 = x9) (h11 : x11 = x10) : 0 ≤ x11 ∧ x11 ≤ 501 := by omega
theorem om_bf31517223 {x0 x1 x2 x3 x4 x5 x6 x7 x8 x9 x10 x11 : Int} (h0 : 0 ≤ x0 ∧ x0 ≤ 420) (h1 : x1 = x0) (h2 : x2 = x1) (h3 : x3 = x2) (h4 : x4 = x3) (h5 : x5 = x4) (h6 : x6 = x5) (h7 : x7 = x6) (h8 : x8 = x7) (h9 : x9 = x8) (h10 : x10 = x9) (h11 : x11 = x10) : 0 ≤ x11 ∧ x11 ≤ 420 := by omega
theorem om_403ac2d24e {x0 x1 x2 x3 x4 x5 x6 x7 x8 x9 x10 x11 : Int} (h0 : 0 ≤ x0 ∧ x0 ≤ 4000) (h1 : x1 = x0) (h2 : x2 = x1) (h3 : x3 = x2) (h4 : x4 = x3) (h5 : x5 = x4) (h6 : x6 = x5) (h7 : x7 = x6) (h8 : x8 = x7) (h9 : x9 = x8) (h10 : x10 = x9) (h11 : x11 = x10) : 0 ≤ x11 ∧ x11 ≤ 4000 := by omega
theorem om_eab95c883a {x0 x2 x3 x4 x5 x6 x7 x8 x9 x10 x11 x12 : Int} {n1 n13 : Nat} (h0 : 40 ≤ x0 + (n1 : Int)) (h1 : x2 = x0) (h2 : x3 = x2) (h3 : x4 = x3) (h4 : x5 = x4) (h5 : x6 = x5) (h6 : x7 = x6) (h7 : x8 = x7) (h8 : x9 = x8) (h9 : x10 = x9) (h10 : x11 = x10) (h11 : x12 = x11 + 1) (h12 : n1 = n13 + 1) : 40 ≤ x12 + (n13 : Int) := by omega
theorem om_f5abf45c2d {n0 n1 : Nat} (h0 : n0 = n1 + 1) : (8 * n1 + 41) + 1 ≤ 8 * n0 + 60 := by omega
theorem om_398940af72 {n0 n1 : Nat} (h0 : n0 = n1 + 1) : 8 + (2 + 11) + 28 * (8 * n1 + 41) ≤ 28 * (8 * n0 + 60) := by omega
theorem om_ed0bafe18e {x0 x1 x2 x3 x4 x5 x6 x7 x8 : Int} (h0 : 0 ≤ x0 ∧ x0 ≤ 40) (h1 : x1 = x0) (h2 : x2 = x1) (h3 : x3 = x2) (h4 : x4 = x3) (h5 : x5 = x4) (h6 : x6 = x5 + 1) (h7 : x7 = x6) (h8 : x8 = x7) : 1 ≤ x8 := by omega
theorem om_0f546b0117 {n0 : Nat} : 8 + (2 + 11) + 0 ≤ 28 * (8 * n0 + 60) := by omega
theorem om_4031599863 {x0 : Int} : (2 : Int) ≠ 0 ∨ x0 ≤ 1000 := by omega
theorem om_5a515d92a7 {x0 x1 x2 x3 x4 x5 x6 : Int} (h0 : 0 ≤ x0 ∧ x0 ≤ 40) (h1 : x1 = x0) (h2 : 0 ≤ x2 ∧ x2 ≤ 40) (h3 : x2 = x1 - 1) (h4 : x3 = x2) (h5 : x4 = x3) (h6 : x5 = x4) (h7 : x6 = x5) : 0 ≤ x6 ∧ x6 ≤ 40 := by omega
theorem om_321f4e7075 {x0 x1 x2 x3 x4 x5 x6 x7 x8 x9 x10 x11 x12 x13 x14 x15 x16 x17 x18 : Int} (h0 : x0 = x1) (h1 : x2 = x0) (h2 : x3 = x2) (h3 : x4 = x3) (h4 : x5 = x4) (h5 : x6 = x5) (h6 : x7 = x6) (h7 : x8 = x7) (h8 : x9 = x8) (h9 : x10 = x9) (h10 : x11 = x10 + 1) (h11 : x12 = x11) (h12 : x13 = x12) (h13 : x14 = x13 - 1) (h14 : x15 = x14) (h15 : x16 = x15) (h16 : x17 = x16) (h17 : x18 = x17) : x18 = x1 := by omega
theorem om_9c1f652f1f {n0 : Nat} : 6 + 1 ≤ 8 * n0 + 60 := by omega
theorem om_f5eaba8d50 {n0 : Nat} : 8 + (3 + 11) + 82 ≤ 28 * (8 * n0 + 60) := by omega
set_option maxHeartbeats 16000000 in
set_option maxRecDepth 100000 in
theorem c_x_X5_functionItem (l : Launch) (n : Nat) (dC : Nat → ClassId) (dI : Nat → Nat → Nat) (cI cB cZ cJ cR : ClassId) (tb : Nat → Nat) (sz : Nat) (ad : Nat → Nat) (pr : Int32 → Nat) (N : Nat) (L1 L2 : List Nat) (v : MS) (ps : Int32) (z304 : 0 ≤ (v.1 0 304).toInt ∧ (v.1 0 304).toInt ≤ 1503) (z306 : 0 ≤ (v.1 0 306).toInt ∧ (v.1 0 306).toInt ≤ 40) (z321 : 0 ≤ (v.1 0 321).toInt ∧ (v.1 0 321).toInt ≤ 501) (z326 : 0 ≤ (v.1 0 326).toInt ∧ (v.1 0 326).toInt ≤ 420) (z373 : 0 ≤ (v.1 0 373).toInt ∧ (v.1 0 373).toInt ≤ 4000) (z381 : 0 ≤ (v.1 0 381).toInt ∧ (v.1 0 381).toInt ≤ 3008) (hL1 : L1.length = 40) (hL2 : L2.length = 60) (rp : RP v) (hps : pr ps = ad 908) (es300 : (v.1 0 300) = ps) (es310 : (v.1 0 310) = ps) (es327 : (v.1 0 327) = ps) (hst : l.stackTraces = false) (zn : 40 ≤ (v.1 0 306).toInt + (n : Int)) : vx_Met l yX5_functionItem (Cond.code yX5_functionItem cX5_functionItem 2 none :: tw_W) ({ frames := 8 * n + 60, cells := 1, slots := 6, locals := 28 * (8 * n + 60) }) (pc_ (dC, dI) (tyS cI cB cZ cJ cR) tb (cW ad pr N cI cR L1 L2 v) sz [.ref (ad 903)]) (qvz_ (dC, dI) (cW ad pr N cI cR L1 L2 v) sz (fun (u : MS) => FC [305, 306, 307, 312, 313, 314, 315, 317, 321, 326, 331, 332, 333, 375, 381] [0, 311, 316, 318, 319, 320, 324, 325, 378, 379, 380] v u ∧ (0 ≤ (u.1 0 306).toInt ∧ (u.1 0 306).toInt ≤ 40) ∧ (0 ≤ (u.1 0 312).toInt ∧ (u.1 0 312).toInt ≤ 500) ∧ (0 ≤ (u.1 0 321).toInt ∧ (u.1 0 321).toInt ≤ 501) ∧ (0 ≤ (u.1 0 326).toInt ∧ (u.1 0 326).toInt ≤ 420) ∧ (0 ≤ (u.1 0 381).toInt ∧ (u.1 0 381).toInt ≤ 3008) ∧ ((u.1 0 306).toInt = (v.1 0 306).toInt)) (fun (u : MS) => (cW ad pr N cI cR L1 L2 u))) (qxc (dC, dI) (cW ad pr N cI cR L1 L2 v) sz (fun (u : MS) => (cW ad pr N cI cR L1 L2 u)) (fun (u : MS) => FC xfl xal v u ∧ (u.1 0 308).toInt ≠ 0)) 1 6 (va_A (cW ad pr N cI cR L1 L2 v) sz) := by
  refine vx_ofW (cc := cX5_functionItem) (maxL := 2) (ret := none) (by decide) rfl ?_
  intro p e s m args below meth c s₁ B hml hnt hv
  obtain ⟨rfl, hsz, hP, hKK, hD0, hFx⟩ := hv
  have hK := hKK.1
  have hx := B.exec
  have hb := B.bytes
  have hr := B.returns
  have ht : ∀ w ∈ tw_W, w.before _ s = true := fun w h => atoms_spec (ws := Cond.code yX5_functionItem cX5_functionItem 2 none :: tw_W) B.pre w (List.mem_cons_of_mem _ h)
  have hown : s.vm.findClass RX5 = some m.cls := findClass_of_methodNamed B.named
  have hlocks := B.notSynchronized
  subst hsz
  unfold qvz_ qxc
  have hD := hD0.self (sz := s.heap.size)
  generalize hAe : va_A (cW ad pr N cI cR L1 L2 v) s.heap.size = A at hD hFx ⊢
  have hA : ∀ q : Nat, s.heap.size ≤ q → A q := fun q h => by rw [← hAe]; exact Or.inr h
  have hS : va_S A s.heap s.heap [] := va_S.rf
  have hl := lv_entry ([.ref (ad 903)]) (n := 2) (Nat.le_of_ble_eq_true rfl)
  rw [lg_entry_eq]
  generalize (lg_sl ([.ref (ad 903)]) ++ List.replicate (2 - (lg_sl ([.ref (ad 903)])).length) Slot.unset).toArray = ls at hl ⊢
  have hl : lv_has ls 2 [(0, .ref (ad 903))] := hl
  refine lv_aload_n hx hb dX5_functionItem_0 rfl (lv_at hl 0 rfl) ?_
  refine va_get (D := (dC, dI)) (ci := 8) (fs := oF_X5 ad pr v) (v := .ref (pr (v.1 0 327))) (C := RX5) (T := TX5) (N := 7) hx hb ht itX5 hown hK hP 3 rfl rfl 0 (by decide) (ht _ tw_588) (fun _ h9 => h9) rfl dX5_functionItem_1 ?_
  refine W.eq (g2 := F0 m 4 ls [.ref (ad 908)]) (by rw [show pr (v.1 0 327) = (ad 908) from (by rw [show (v.1 0 327) = ps from es327]; exact hps)]) ?_
  refine va_get (D := (dC, dI)) (ci := 10) (fs := oF_X7 ad pr v) (v := .int (v.1 0 375)) (C := RX7) (T := TX7) (N := 13) hx hb ht itX7 hown hK hP 8 rfl rfl 3 (by decide) (ht _ tw_644) (fun _ h9 => h9) rfl dX5_functionItem_4 ?_
  refine lv_istore_n (lv' := [(1, .int (v.1 0 375)), (0, .ref (ad 903))]) hx hb dX5_functionItem_7 rfl hl (by decide) rfl (fun ls hl => ?_)
  refine lv_iload_n hx hb dX5_functionItem_8 rfl (lv_at hl 0 rfl) ?_
  refine lv_bipush (v := 40) hx hb dX5_functionItem_9 (by decide) ?_
  refine lv_icmp_lt (tgt := 29) hx hb dX5_functionItem_11 (by decide) (fun h1 => ?_) (fun h1 => ?_)
  · have z2 : (v.1 0 375).toInt < (40 : Int) := lt_z rfl (show (40 : Int32).toInt = (40 : Int) by decide) h1
    refine lv_aload_n hx hb dX5_functionItem_29 rfl (lv_at hl 1 rfl) ?_
    refine va_get (D := (dC, dI)) (ci := 8) (fs := oF_X5 ad pr v) (v := .ref (pr (v.1 0 327))) (C := RX5) (T := TX5) (N := 7) hx hb ht itX5 hown hK hP 3 rfl rfl 0 (by decide) (ht _ tw_588) (fun _ h9 => h9) rfl dX5_functionItem_30 ?_
    refine lv_iload_n hx hb dX5_functionItem_33 rfl (lv_at hl 0 rfl) ?_
    refine lv_iconst (v := 1) hx hb dX5_functionItem_34 (by decide) ?_
    refine lv_iadd hx hb dX5_functionItem_35 ?_
    refine W.eq (g2 := F0 m 36 ls [.int ((v.1 0 375) + (1 : Int32)), .ref (ad 908)]) (by rw [show pr (v.1 0 327) = (ad 908) from (by rw [show (v.1 0 327) = ps from es327]; exact hps)]) ?_
    refine va_put (D := (dC, dI)) (ci := 10) (fs := oF_X7 ad pr v) (v := .int ((v.1 0 375) + (1 : Int32))) (ty := .int) (C := RX7) (T := TX7) (N := 13) hx hb ht itX7 tyX7 tyX7_ok nmX7 hown hK hP hD hS 8 rfl rfl 3 (by decide) (ht _ tw_644) (fun _ h9 => h9) rfl (by decide +kernel) rfl rfl (Nat.le_of_ble_eq_true rfl) dX5_functionItem_36 (fun H locs hP hD hS => ?_)
    have hP := cP_ (cw_375 ad pr N cI cR L1 L2 v ((v.1 0 375) + (1 : Int32))) hP
    have hD := cD_ (cw_375 ad pr N cI cR L1 L2 v ((v.1 0 375) + (1 : Int32))) hD
    refine lv_aload_n hx hb dX5_functionItem_39 rfl (lv_at hl 1 rfl) ?_
    refine va_get (D := (dC, dI)) (ci := 8) (fs := oF_X5 ad pr (wA v 0 375 ((v.1 0 375) + (1 : Int32)))) (v := .ref (pr (v.1 0 327))) (C := RX5) (T := TX5) (N := 7) hx hb ht itX5 hown hK hP 3 rfl rfl 0 (by decide) (ht _ tw_588) (fun _ h9 => h9) rfl dX5_functionItem_40 ?_
    refine lv_iload_n hx hb dX5_functionItem_43 rfl (lv_at hl 0 rfl) ?_
    refine lv_iconst (v := 4) hx hb dX5_functionItem_44 (by decide) ?_
    refine lv_aload_n hx hb dX5_functionItem_45 rfl (lv_at hl 1 rfl) ?_
    refine va_get (D := (dC, dI)) (ci := 8) (fs := oF_X5 ad pr (wA v 0 375 ((v.1 0 375) + (1 : Int32)))) (v := .ref (ad 900)) (C := RX5) (T := TX5) (N := 7) hx hb ht itX5 hown hK hP 3 rfl rfl 1 (by decide) (ht _ tw_571) (fun _ h9 => h9) rfl dX5_functionItem_46 ?_
    refine cu_i (rn_Vk (n := 0) (As := []) (rest := [.int 4, .int (v.1 0 375), .ref (pr (v.1 0 327))]) hx hb hml hown ht hKK hFx hP hD hS hA (c_x_X9_value l dC dI cI cB cZ cJ cR tb H.size ad pr N L1 L2 (wA v 0 375 ((v.1 0 375) + (1 : Int32)))  (show 0 ≤ (v.1 0 304).toInt ∧ (v.1 0 304).toInt ≤ 1503 from (om_c99648273b z304))) tw_535 tw_574 (by decide +kernel) rfl rfl ⟨show 0 + 1 ≤ 8 * n + 60 from om_6cd7f5accb, show 8 + (1 + 11) + 0 ≤ 28 * (8 * n + 60) from om_a4148e048f⟩ (List.range (cW ad pr N cI cR L1 L2 (wA v 0 375 ((v.1 0 375) + (1 : Int32)))).length) (rg_map _) (nd_range _) 0 rfl rfl rfl rfl hl.1 rfl (Nat.le_of_ble_eq_true rfl) dX5_functionItem_49 ⟨Nat.le_of_ble_eq_true rfl, Nat.le_of_ble_eq_true rfl⟩) hP hD hS hA (fun r5 u4 H locs hw3 hP hD hS => ?_)
    obtain rfl := hw3
    refine W.widen (k := 0) (n := 0) (Nat.le_refl _) (Nat.le_refl _) ?_
    refine W.eq (g2 := F0 m 52 ls [.int r5, .int 4, .int (v.1 0 375), .ref (ad 908)]) (by rw [show pr (v.1 0 327) = (ad 908) from (by rw [show (v.1 0 327) = ps from es327]; exact hps)]) ?_
    refine cu_v (rn_Vk (n := 3) (As := [.int (v.1 0 375), .int 4, .int r5]) (rest := []) hx hb hml hown ht hKK hFx hP hD hS hA (c_x_X7_changeFunction l dC dI cI cB cZ cJ cR tb H.size ad pr N L1 L2 (wA v 0 375 ((v.1 0 375) + (1 : Int32))) (v.1 0 375) (4 : Int32) r5 (show L1.length = 40 from hL1) (show L2.length = 60 from hL2) (show RP (wA v 0 375 ((v.1 0 375) + (1 : Int32))) from ((show FC [305, 306, 307, 312, 313, 314, 315, 317, 321, 326, 331, 332, 333, 375, 381] [0, 311, 316, 318, 319, 320, 324, 325, 378, 379, 380] v (wA v 0 375 ((v.1 0 375) + (1 : Int32))) from (FC.f (FC.rf _) ((v.1 0 375) + (1 : Int32)) (by decide))).1 rp)) (show (4 : Int) ≠ 0 ∨ r5.toInt ≤ 1000 from om_24e1f2eced)) tw_645 tw_646 (by decide +kernel) rfl rfl ⟨show 0 + 1 ≤ 8 * n + 60 from om_6cd7f5accb, show 8 + (4 + 11) + 0 ≤ 28 * (8 * n + 60) from om_7771dcfd65⟩ (List.range (cW ad pr N cI cR L1 L2 (wA v 0 375 ((v.1 0 375) + (1 : Int32)))).length) (rg_map _) (nd_range _) 8 rfl rfl rfl rfl hl.1 rfl (Nat.le_of_ble_eq_true rfl) dX5_functionItem_52 ⟨Nat.le_of_ble_eq_true rfl, Nat.le_of_ble_eq_true rfl⟩) hP hD hS hA (fun u7 H locs hw6 hP hD hS => ?_)
    have fr6 := hw6
    refine W.widen (k := 0) (n := 0) (Nat.le_refl _) (Nat.le_refl _) ?_
    refine lv_aload_n hx hb dX5_functionItem_55 rfl (lv_at hl 1 rfl) ?_
    refine va_get (D := (dC, dI)) (ci := 8) (fs := oF_X5 ad pr u7) (v := .ref (pr (u7.1 0 327))) (C := RX5) (T := TX5) (N := 7) hx hb ht itX5 hown hK hP 3 rfl rfl 0 (by decide) (ht _ tw_588) (fun _ h9 => h9) rfl dX5_functionItem_56 ?_
    refine lv_iload_n hx hb dX5_functionItem_59 rfl (lv_at hl 0 rfl) ?_
    refine lv_iconst (v := 3) hx hb dX5_functionItem_60 (by decide) ?_
    refine lv_aload_n hx hb dX5_functionItem_61 rfl (lv_at hl 1 rfl) ?_
    refine va_get (D := (dC, dI)) (ci := 8) (fs := oF_X5 ad pr u7) (v := .ref (ad 900)) (C := RX5) (T := TX5) (N := 7) hx hb ht itX5 hown hK hP 3 rfl rfl 1 (by decide) (ht _ tw_571) (fun _ h9 => h9) rfl dX5_functionItem_62 ?_
    have q9 : (u7.1 0 304).toInt = (v.1 0 304).toInt := congrArg Int32.toInt ((fr6.2.1 304 (by decide)).trans (show (wA v 0 375 ((v.1 0 375) + (1 : Int32))).1 0 304 = (v.1 0 304) by rfl))
    have q10 : (u7.1 0 373).toInt = (v.1 0 373).toInt := congrArg Int32.toInt ((fr6.2.1 373 (by decide)).trans (show (wA v 0 375 ((v.1 0 375) + (1 : Int32))).1 0 373 = (v.1 0 373) by rfl))
    refine cu_i (rn_Vk (n := 0) (As := []) (rest := [.int 3, .int (v.1 0 375), .ref (pr (u7.1 0 327))]) hx hb hml hown ht hKK hFx hP hD hS hA (c_x_X9_place l dC dI cI cB cZ cJ cR tb H.size ad pr N L1 L2 u7 ps (show 0 ≤ (u7.1 0 304).toInt ∧ (u7.1 0 304).toInt ≤ 1503 from (om_73002589c1 z304 q9)) (show 0 ≤ (u7.1 0 373).toInt ∧ (u7.1 0 373).toInt ≤ 4000 from (om_9084c127ed z373 q10)) (show pr ps = ad 908 from hps) (show (u7.1 0 300) = ps from (Eq.trans (fr6.2.1 300 (by decide)) es300))) tw_457 tw_577 (by decide +kernel) rfl rfl ⟨show 0 + 1 ≤ 8 * n + 60 from om_6cd7f5accb, show 8 + (1 + 11) + 0 ≤ 28 * (8 * n + 60) from om_a4148e048f⟩ (List.range (cW ad pr N cI cR L1 L2 u7).length) (rg_map _) (nd_range _) 0 rfl rfl rfl rfl hl.1 rfl (Nat.le_of_ble_eq_true rfl) dX5_functionItem_65 ⟨Nat.le_of_ble_eq_true rfl, Nat.le_of_ble_eq_true rfl⟩) hP hD hS hA (fun r13 u12 H locs hw11 hP hD hS => ?_)
    obtain rfl := hw11
    refine W.widen (k := 0) (n := 0) (Nat.le_refl _) (Nat.le_refl _) ?_
    refine W.eq (g2 := F0 m 68 ls [.int r13, .int 3, .int (v.1 0 375), .ref (ad 908)]) (by rw [show pr (u7.1 0 327) = (ad 908) from (by rw [show (u7.1 0 327) = ps from (Eq.trans (fr6.2.1 327 (by decide)) es327)]; exact hps)]) ?_
    refine cu_v (rn_Vk (n := 3) (As := [.int (v.1 0 375), .int 3, .int r13]) (rest := []) hx hb hml hown ht hKK hFx hP hD hS hA (c_x_X7_changeFunction l dC dI cI cB cZ cJ cR tb H.size ad pr N L1 L2 u7 (v.1 0 375) (3 : Int32) r13 (show L1.length = 40 from hL1) (show L2.length = 60 from hL2) (show RP u7 from ((show FC [305, 306, 307, 312, 313, 314, 315, 317, 321, 326, 331, 332, 333, 375, 381] [0, 311, 316, 318, 319, 320, 324, 325, 378, 379, 380] v u7 from (FC.tr (FC.f (FC.rf _) ((v.1 0 375) + (1 : Int32)) (by decide)) (FC.up fr6 (by decide) (by decide)))).1 rp)) (show (3 : Int) ≠ 0 ∨ r13.toInt ≤ 1000 from om_4550d86e9b)) tw_645 tw_646 (by decide +kernel) rfl rfl ⟨show 0 + 1 ≤ 8 * n + 60 from om_6cd7f5accb, show 8 + (4 + 11) + 0 ≤ 28 * (8 * n + 60) from om_7771dcfd65⟩ (List.range (cW ad pr N cI cR L1 L2 u7).length) (rg_map _) (nd_range _) 8 rfl rfl rfl rfl hl.1 rfl (Nat.le_of_ble_eq_true rfl) dX5_functionItem_68 ⟨Nat.le_of_ble_eq_true rfl, Nat.le_of_ble_eq_true rfl⟩) hP hD hS hA (fun u15 H locs hw14 hP hD hS => ?_)
    have fr14 := hw14
    refine W.widen (k := 0) (n := 0) (Nat.le_refl _) (Nat.le_refl _) ?_
    refine lv_aload_n hx hb dX5_functionItem_71 rfl (lv_at hl 1 rfl) ?_
    refine va_get (D := (dC, dI)) (ci := 8) (fs := oF_X5 ad pr u15) (v := .ref (ad 901)) (C := RX5) (T := TX5) (N := 7) hx hb ht itX5 hown hK hP 3 rfl rfl 2 (by decide) (ht _ tw_573) (fun _ h9 => h9) rfl dX5_functionItem_72 ?_
    refine cu_v (rn_Vk (n := 0) (As := []) (rest := []) hx hb hml hown ht hKK hFx hP hD hS hA (c_x_X1_beginFunction l dC dI cI cB cZ cJ cR tb H.size ad pr N L1 L2 u15  ) tw_647 tw_648 (by decide +kernel) rfl rfl ⟨show 0 + 1 ≤ 8 * n + 60 from om_6cd7f5accb, show 8 + (1 + 11) + 0 ≤ 28 * (8 * n + 60) from om_a4148e048f⟩ (List.range (cW ad pr N cI cR L1 L2 u15).length) (rg_map _) (nd_range _) 1 rfl rfl rfl rfl hl.1 rfl (Nat.le_of_ble_eq_true rfl) dX5_functionItem_75 ⟨Nat.le_of_ble_eq_true rfl, Nat.le_of_ble_eq_true rfl⟩) hP hD hS hA (fun u18 H locs hw17 hP hD hS => ?_)
    obtain ⟨fr17, i31217⟩ := hw17
    have i31217 : 0 ≤ (u18.1 0 312).toInt ∧ (u18.1 0 312).toInt ≤ 500 := i31217
    refine W.widen (k := 0) (n := 0) (Nat.le_refl _) (Nat.le_refl _) ?_
    refine lv_aload_n hx hb dX5_functionItem_78 rfl (lv_at hl 1 rfl) ?_
    refine va_get (D := (dC, dI)) (ci := 8) (fs := oF_X5 ad pr u18) (v := .ref (ad 900)) (C := RX5) (T := TX5) (N := 7) hx hb ht itX5 hown hK hP 3 rfl rfl 1 (by decide) (ht _ tw_571) (fun _ h9 => h9) rfl dX5_functionItem_79 ?_
    have q20 : (u15.1 0 304).toInt = (u7.1 0 304).toInt := congrArg Int32.toInt ((fr14.2.1 304 (by decide)).trans (show u7.1 0 304 = (u7.1 0 304) by rfl))
    have q21 : (u18.1 0 304).toInt = (u15.1 0 304).toInt := congrArg Int32.toInt ((fr17.2.1 304 (by decide)).trans (show u15.1 0 304 = (u15.1 0 304) by rfl))
    have q22 : (u15.1 0 373).toInt = (u7.1 0 373).toInt := congrArg Int32.toInt ((fr14.2.1 373 (by decide)).trans (show u7.1 0 373 = (u7.1 0 373) by rfl))
    have q23 : (u18.1 0 373).toInt = (u15.1 0 373).toInt := congrArg Int32.toInt ((fr17.2.1 373 (by decide)).trans (show u15.1 0 373 = (u15.1 0 373) by rfl))
    refine W.sz (fun hz9 => ?_)
    refine czx_v (rx_Vk (n := 0) (As := []) (rest := []) hx hb hml hown ht hKK hFx hP hD hS hA (c_x_X9_take l dC dI cI cB cZ cJ cR tb H.size ad pr N L1 L2 u18 ps (show 0 ≤ (u18.1 0 304).toInt ∧ (u18.1 0 304).toInt ≤ 1503 from (om_57e3d9ffbd z304 q9 q20 q21)) (show 0 ≤ (u18.1 0 373).toInt ∧ (u18.1 0 373).toInt ≤ 4000 from (om_282c7f458f z373 q10 q22 q23)) (show pr ps = ad 908 from hps) (show (u18.1 0 300) = ps from (Eq.trans (fr17.2.1 300 (by decide)) (Eq.trans (fr14.2.1 300 (by decide)) (Eq.trans (fr6.2.1 300 (by decide)) es300)))) (show l.stackTraces = false from hst)) tw_539 tw_585 (by decide +kernel) rfl rfl ⟨show 7 + 1 ≤ 8 * n + 60 from om_c0e34ba2b2, show 8 + (1 + 11) + 104 ≤ 28 * (8 * n + 60) from om_2c6cab6610⟩ (List.range (cW ad pr N cI cR L1 L2 u18).length) (rg_map _) (nd_range _) 0 rfl rfl rfl rfl hl.1 rfl (Nat.le_of_ble_eq_true rfl) dX5_functionItem_82 ⟨Nat.le_of_ble_eq_true rfl, Nat.le_of_ble_eq_true rfl⟩) hP hD hS hA (fun u9 ce9 q9 H locs hx9 hP hD hS hc9 hv9 hf9 => ?_) (fun u25 H locs hw24 hP hD hS hz8 => ?_)
    · exact vx_out (fun x h9 => (hnt x h9).elim) hlocks hc9 hv9 hf9 (fun t9 ht9 hv8 => ⟨u9, ⟨FC.tr (FC.tr (FC.tr (FC.tr (FC.f (FC.rf _) ((v.1 0 375) + (1 : Int32)) (by decide)) (FC.up fr6 (by decide) (by decide))) (FC.up fr14 (by decide) (by decide))) (FC.up fr17 (by decide) (by decide))) hx9.1, hx9.2⟩, ⟨rfl, by rw [ht9]; exact hP, hD⟩, hS.F ht9⟩) hS.2.2 (Nat.le_refl _) (Nat.le_refl _)
    refine W.shrink (hz8.trans hz9) ?_
    have fr24 := hw24
    refine lv_aload_n hx hb dX5_functionItem_85 rfl (lv_at hl 1 rfl) ?_
    have q27 : (u25.1 0 304).toInt = (u18.1 0 304).toInt := congrArg Int32.toInt ((fr24.2.1 304 (by decide)).trans (show u18.1 0 304 = (u18.1 0 304) by rfl))
    have q28 : (u7.1 0 306).toInt = (v.1 0 306).toInt := congrArg Int32.toInt ((fr6.2.1 306 (by decide)).trans (show (wA v 0 375 ((v.1 0 375) + (1 : Int32))).1 0 306 = (v.1 0 306) by rfl))
    have q29 : (u15.1 0 306).toInt = (u7.1 0 306).toInt := congrArg Int32.toInt ((fr14.2.1 306 (by decide)).trans (show u7.1 0 306 = (u7.1 0 306) by rfl))
    have q30 : (u18.1 0 306).toInt = (u15.1 0 306).toInt := congrArg Int32.toInt ((fr17.2.1 306 (by decide)).trans (show u15.1 0 306 = (u15.1 0 306) by rfl))
    have q31 : (u25.1 0 306).toInt = (u18.1 0 306).toInt := congrArg Int32.toInt ((fr24.2.1 306 (by decide)).trans (show u18.1 0 306 = (u18.1 0 306) by rfl))
    have q32 : (u25.1 0 312).toInt = (u18.1 0 312).toInt := congrArg Int32.toInt ((fr24.2.1 312 (by decide)).trans (show u18.1 0 312 = (u18.1 0 312) by rfl))
    have q33 : (u25.1 0 373).toInt = (u18.1 0 373).toInt := congrArg Int32.toInt ((fr24.2.1 373 (by decide)).trans (show u18.1 0 373 = (u18.1 0 373) by rfl))
    refine W.sz (fun hz9 => ?_)
    refine czx_v (rx_Vk (n := 0) (As := []) (rest := []) hx hb hml hown ht hKK hFx hP hD hS hA (c_x_X5_parameters l dC dI cI cB cZ cJ cR tb H.size ad pr N L1 L2 u25 ps (show 0 ≤ (u25.1 0 304).toInt ∧ (u25.1 0 304).toInt ≤ 1503 from (om_8044691ca6 z304 q9 q20 q21 q27)) (show 0 ≤ (u25.1 0 306).toInt ∧ (u25.1 0 306).toInt ≤ 40 from (om_ca678151ea z306 q28 q29 q30 q31)) (show 0 ≤ (u25.1 0 312).toInt ∧ (u25.1 0 312).toInt ≤ 500 from (om_f8376ff89c i31217 q32)) (show 0 ≤ (u25.1 0 373).toInt ∧ (u25.1 0 373).toInt ≤ 4000 from (om_fdcbb58227 z373 q10 q22 q23 q33)) (show pr ps = ad 908 from hps) (show (u25.1 0 300) = ps from (Eq.trans (fr24.2.1 300 (by decide)) (Eq.trans (fr17.2.1 300 (by decide)) (Eq.trans (fr14.2.1 300 (by decide)) (Eq.trans (fr6.2.1 300 (by decide)) es300))))) (show l.stackTraces = false from hst)) tw_649 tw_650 (by decide +kernel) rfl rfl ⟨show 10 + 1 ≤ 8 * n + 60 from om_3cee117268, show 8 + (2 + 11) + 166 ≤ 28 * (8 * n + 60) from om_7b51625fa4⟩ (List.range (cW ad pr N cI cR L1 L2 u25).length) (rg_map _) (nd_range _) 3 rfl rfl rfl rfl hl.1 rfl (Nat.le_of_ble_eq_true rfl) dX5_functionItem_86 ⟨Nat.le_of_ble_eq_true rfl, Nat.le_of_ble_eq_true rfl⟩) hP hD hS hA (fun u9 ce9 q9 H locs hx9 hP hD hS hc9 hv9 hf9 => ?_) (fun u35 H locs hw34 hP hD hS hz8 => ?_)
    · exact vx_out (fun x h9 => (hnt x h9).elim) hlocks hc9 hv9 hf9 (fun t9 ht9 hv8 => ⟨u9, ⟨FC.tr (FC.tr (FC.tr (FC.tr (FC.tr (FC.f (FC.rf _) ((v.1 0 375) + (1 : Int32)) (by decide)) (FC.up fr6 (by decide) (by decide))) (FC.up fr14 (by decide) (by decide))) (FC.up fr17 (by decide) (by decide))) (FC.up fr24 (by decide) (by decide))) hx9.1, hx9.2⟩, ⟨rfl, by rw [ht9]; exact hP, hD⟩, hS.F ht9⟩) hS.2.2 (Nat.le_refl _) (Nat.le_refl _)
    refine W.shrink (hz8.trans hz9) ?_
    obtain ⟨fr34, i30634, i31234, po34⟩ := hw34
    have i30634 : 0 ≤ (u35.1 0 306).toInt ∧ (u35.1 0 306).toInt ≤ 40 := i30634
    have i31234 : 0 ≤ (u35.1 0 312).toInt ∧ (u35.1 0 312).toInt ≤ 500 := i31234
    have po34 : (u35.1 0 306).toInt = (u25.1 0 306).toInt := po34
    refine lv_aload_n hx hb dX5_functionItem_89 rfl (lv_at hl 1 rfl) ?_
    refine va_get (D := (dC, dI)) (ci := 8) (fs := oF_X5 ad pr u35) (v := .ref (pr (u35.1 0 327))) (C := RX5) (T := TX5) (N := 7) hx hb ht itX5 hown hK hP 3 rfl rfl 0 (by decide) (ht _ tw_588) (fun _ h9 => h9) rfl dX5_functionItem_90 ?_
    refine lv_iload_n hx hb dX5_functionItem_93 rfl (lv_at hl 0 rfl) ?_
    refine lv_iconst (v := 0) hx hb dX5_functionItem_94 (by decide) ?_
    refine lv_aload_n hx hb dX5_functionItem_95 rfl (lv_at hl 1 rfl) ?_
    refine va_get (D := (dC, dI)) (ci := 8) (fs := oF_X5 ad pr u35) (v := .ref (ad 901)) (C := RX5) (T := TX5) (N := 7) hx hb ht itX5 hown hK hP 3 rfl rfl 2 (by decide) (ht _ tw_573) (fun _ h9 => h9) rfl dX5_functionItem_96 ?_
    refine va_getN (D := (dC, dI)) (ci := 5) (fs := oF_X1 ad pr u35) (v := .int (u35.1 0 312)) (C := RX1) (T := TX1) (N := 12) hx hb ht itX1 hown hK hP 1 rfl rfl 2 (by decide) (hKK.fl2 4 rfl) (fun _ h9 => h9) rfl dX5_functionItem_99 ?_
    refine W.eq (g2 := F0 m 102 ls [.int (u35.1 0 312), .int 0, .int (v.1 0 375), .ref (ad 908)]) (by rw [show pr (u35.1 0 327) = (ad 908) from (by rw [show (u35.1 0 327) = ps from (Eq.trans (fr34.2.1 327 (by decide)) (Eq.trans (fr24.2.1 327 (by decide)) (Eq.trans (fr17.2.1 327 (by decide)) (Eq.trans (fr14.2.1 327 (by decide)) (Eq.trans (fr6.2.1 327 (by decide)) es327)))))]; exact hps)]) ?_
    refine cu_v (rn_Vk (n := 3) (As := [.int (v.1 0 375), .int 0, .int (u35.1 0 312)]) (rest := []) hx hb hml hown ht hKK hFx hP hD hS hA (c_x_X7_changeFunction l dC dI cI cB cZ cJ cR tb H.size ad pr N L1 L2 u35 (v.1 0 375) (0 : Int32) (u35.1 0 312) (show L1.length = 40 from hL1) (show L2.length = 60 from hL2) (show RP u35 from ((show FC [305, 306, 307, 312, 313, 314, 315, 317, 321, 326, 331, 332, 333, 375, 381] [0, 311, 316, 318, 319, 320, 324, 325, 378, 379, 380] v u35 from (FC.tr (FC.tr (FC.tr (FC.tr (FC.tr (FC.f (FC.rf _) ((v.1 0 375) + (1 : Int32)) (by decide)) (FC.up fr6 (by decide) (by decide))) (FC.up fr14 (by decide) (by decide))) (FC.up fr17 (by decide) (by decide))) (FC.up fr24 (by decide) (by decide))) (FC.up fr34 (by decide) (by decide)))).1 rp)) (show (0 : Int) ≠ 0 ∨ (u35.1 0 312).toInt ≤ 1000 from (om_8200c5c61c i31234))) tw_645 tw_646 (by decide +kernel) rfl rfl ⟨show 0 + 1 ≤ 8 * n + 60 from om_6cd7f5accb, show 8 + (4 + 11) + 0 ≤ 28 * (8 * n + 60) from om_7771dcfd65⟩ (List.range (cW ad pr N cI cR L1 L2 u35).length) (rg_map _) (nd_range _) 8 rfl rfl rfl rfl hl.1 rfl (Nat.le_of_ble_eq_true rfl) dX5_functionItem_102 ⟨Nat.le_of_ble_eq_true rfl, Nat.le_of_ble_eq_true rfl⟩) hP hD hS hA (fun u38 H locs hw37 hP hD hS => ?_)
    have fr37 := hw37
    refine W.widen (k := 0) (n := 0) (Nat.le_refl _) (Nat.le_refl _) ?_
    refine lv_aload_n hx hb dX5_functionItem_105 rfl (lv_at hl 1 rfl) ?_
    refine va_get (D := (dC, dI)) (ci := 8) (fs := oF_X5 ad pr u38) (v := .ref (pr (u38.1 0 327))) (C := RX5) (T := TX5) (N := 7) hx hb ht itX5 hown hK hP 3 rfl rfl 0 (by decide) (ht _ tw_588) (fun _ h9 => h9) rfl dX5_functionItem_106 ?_
    refine lv_iload_n hx hb dX5_functionItem_109 rfl (lv_at hl 0 rfl) ?_
    refine lv_iconst (v := 5) hx hb dX5_functionItem_110 (by decide) ?_
    refine lv_aload_n hx hb dX5_functionItem_111 rfl (lv_at hl 1 rfl) ?_
    refine va_get (D := (dC, dI)) (ci := 8) (fs := oF_X5 ad pr u38) (v := .ref (pr (u38.1 0 327))) (C := RX5) (T := TX5) (N := 7) hx hb ht itX5 hown hK hP 3 rfl rfl 0 (by decide) (ht _ tw_588) (fun _ h9 => h9) rfl dX5_functionItem_112 ?_
    refine W.eq (g2 := F0 m 115 ls [.ref (ad 908), .int 5, .int (v.1 0 375), .ref (pr (u38.1 0 327))]) (by rw [show pr (u38.1 0 327) = (ad 908) from (by rw [show (u38.1 0 327) = ps from (Eq.trans (fr37.2.1 327 (by decide)) (Eq.trans (fr34.2.1 327 (by decide)) (Eq.trans (fr24.2.1 327 (by decide)) (Eq.trans (fr17.2.1 327 (by decide)) (Eq.trans (fr14.2.1 327 (by decide)) (Eq.trans (fr6.2.1 327 (by decide)) es327))))))]; exact hps)]) ?_
    refine va_get (D := (dC, dI)) (ci := 10) (fs := oF_X7 ad pr u38) (v := .int (u38.1 0 381)) (C := RX7) (T := TX7) (N := 13) hx hb ht itX7 hown hK hP 8 rfl rfl 9 (by decide) (ht _ tw_651) (fun _ h9 => h9) rfl dX5_functionItem_115 ?_
    refine W.eq (g2 := F0 m 118 ls [.int (u38.1 0 381), .int 5, .int (v.1 0 375), .ref (ad 908)]) (by rw [show pr (u38.1 0 327) = (ad 908) from (by rw [show (u38.1 0 327) = ps from (Eq.trans (fr37.2.1 327 (by decide)) (Eq.trans (fr34.2.1 327 (by decide)) (Eq.trans (fr24.2.1 327 (by decide)) (Eq.trans (fr17.2.1 327 (by decide)) (Eq.trans (fr14.2.1 327 (by decide)) (Eq.trans (fr6.2.1 327 (by decide)) es327))))))]; exact hps)]) ?_
    refine cu_v (rn_Vk (n := 3) (As := [.int (v.1 0 375), .int 5, .int (u38.1 0 381)]) (rest := []) hx hb hml hown ht hKK hFx hP hD hS hA (c_x_X7_changeFunction l dC dI cI cB cZ cJ cR tb H.size ad pr N L1 L2 u38 (v.1 0 375) (5 : Int32) (u38.1 0 381) (show L1.length = 40 from hL1) (show L2.length = 60 from hL2) (show RP u38 from ((show FC [305, 306, 307, 312, 313, 314, 315, 317, 321, 326, 331, 332, 333, 375, 381] [0, 311, 316, 318, 319, 320, 324, 325, 378, 379, 380] v u38 from (FC.tr (FC.tr (FC.tr (FC.tr (FC.tr (FC.tr (FC.f (FC.rf _) ((v.1 0 375) + (1 : Int32)) (by decide)) (FC.up fr6 (by decide) (by decide))) (FC.up fr14 (by decide) (by decide))) (FC.up fr17 (by decide) (by decide))) (FC.up fr24 (by decide) (by decide))) (FC.up fr34 (by decide) (by decide))) (FC.up fr37 (by decide) (by decide)))).1 rp)) (show (5 : Int) ≠ 0 ∨ (u38.1 0 381).toInt ≤ 1000 from om_01e2bf3580)) tw_645 tw_646 (by decide +kernel) rfl rfl ⟨show 0 + 1 ≤ 8 * n + 60 from om_6cd7f5accb, show 8 + (4 + 11) + 0 ≤ 28 * (8 * n + 60) from om_7771dcfd65⟩ (List.range (cW ad pr N cI cR L1 L2 u38).length) (rg_map _) (nd_range _) 8 rfl rfl rfl rfl hl.1 rfl (Nat.le_of_ble_eq_true rfl) dX5_functionItem_118 ⟨Nat.le_of_ble_eq_true rfl, Nat.le_of_ble_eq_true rfl⟩) hP hD hS hA (fun u41 H locs hw40 hP hD hS => ?_)
    have fr40 := hw40
    refine W.widen (k := 0) (n := 0) (Nat.le_refl _) (Nat.le_refl _) ?_
    refine lv_aload_n hx hb dX5_functionItem_121 rfl (lv_at hl 1 rfl) ?_
    refine va_get (D := (dC, dI)) (ci := 8) (fs := oF_X5 ad pr u41) (v := .ref (ad 901)) (C := RX5) (T := TX5) (N := 7) hx hb ht itX5 hown hK hP 3 rfl rfl 2 (by decide) (ht _ tw_573) (fun _ h9 => h9) rfl dX5_functionItem_122 ?_
    refine lv_iconst (v := 0) hx hb dX5_functionItem_125 (by decide) ?_
    refine lv_iload_n hx hb dX5_functionItem_126 rfl (lv_at hl 0 rfl) ?_
    refine lv_iconst (v := 0) hx hb dX5_functionItem_127 (by decide) ?_
    have q43 : (u7.1 0 381).toInt = (v.1 0 381).toInt := congrArg Int32.toInt ((fr6.2.1 381 (by decide)).trans (show (wA v 0 375 ((v.1 0 375) + (1 : Int32))).1 0 381 = (v.1 0 381) by rfl))
    have q44 : (u15.1 0 381).toInt = (u7.1 0 381).toInt := congrArg Int32.toInt ((fr14.2.1 381 (by decide)).trans (show u7.1 0 381 = (u7.1 0 381) by rfl))
    have q45 : (u18.1 0 381).toInt = (u15.1 0 381).toInt := congrArg Int32.toInt ((fr17.2.1 381 (by decide)).trans (show u15.1 0 381 = (u15.1 0 381) by rfl))
    have q46 : (u25.1 0 381).toInt = (u18.1 0 381).toInt := congrArg Int32.toInt ((fr24.2.1 381 (by decide)).trans (show u18.1 0 381 = (u18.1 0 381) by rfl))
    have q47 : (u35.1 0 381).toInt = (u25.1 0 381).toInt := congrArg Int32.toInt ((fr34.2.1 381 (by decide)).trans (show u25.1 0 381 = (u25.1 0 381) by rfl))
    have q48 : (u38.1 0 381).toInt = (u35.1 0 381).toInt := congrArg Int32.toInt ((fr37.2.1 381 (by decide)).trans (show u35.1 0 381 = (u35.1 0 381) by rfl))
    have q49 : (u41.1 0 381).toInt = (u38.1 0 381).toInt := congrArg Int32.toInt ((fr40.2.1 381 (by decide)).trans (show u38.1 0 381 = (u38.1 0 381) by rfl))
    refine cu_v (rn_Vk (n := 3) (As := [.int 0, .int (v.1 0 375), .int 0]) (rest := []) hx hb hml hown ht hKK hFx hP hD hS hA (c_x_X1_add l dC dI cI cB cZ cJ cR tb H.size ad pr N L1 L2 u41 (0 : Int32) (v.1 0 375) (0 : Int32) ps (show 0 ≤ (u41.1 0 381).toInt ∧ (u41.1 0 381).toInt ≤ 3008 from (om_30a6a77d0a z381 q43 q44 q45 q46 q47 q48 q49)) (show pr ps = ad 908 from hps) (show (u41.1 0 310) = ps from (Eq.trans (fr40.2.1 310 (by decide)) (Eq.trans (fr37.2.1 310 (by decide)) (Eq.trans (fr34.2.1 310 (by decide)) (Eq.trans (fr24.2.1 310 (by decide)) (Eq.trans (fr17.2.1 310 (by decide)) (Eq.trans (fr14.2.1 310 (by decide)) (Eq.trans (fr6.2.1 310 (by decide)) es310))))))))) tw_499 tw_592 (by decide +kernel) rfl rfl ⟨show 0 + 1 ≤ 8 * n + 60 from om_6cd7f5accb, show 8 + (5 + 11) + 0 ≤ 28 * (8 * n + 60) from om_ae5bfc4266⟩ (List.range (cW ad pr N cI cR L1 L2 u41).length) (rg_map _) (nd_range _) 1 rfl rfl rfl rfl hl.1 rfl (Nat.le_of_ble_eq_true rfl) dX5_functionItem_128 ⟨Nat.le_of_ble_eq_true rfl, Nat.le_of_ble_eq_true rfl⟩) hP hD hS hA (fun u51 H locs hw50 hP hD hS => ?_)
    obtain ⟨fr50, i38150⟩ := hw50
    have i38150 : 0 ≤ (u51.1 0 381).toInt ∧ (u51.1 0 381).toInt ≤ 3008 := i38150
    refine W.widen (k := 0) (n := 0) (Nat.le_refl _) (Nat.le_refl _) ?_
    refine lv_aload_n hx hb dX5_functionItem_131 rfl (lv_at hl 1 rfl) ?_
    refine lv_iconst (v := -1) hx hb dX5_functionItem_132 (by decide) ?_
    refine va_put (D := (dC, dI)) (ci := 8) (fs := oF_X5 ad pr u51) (v := .int (-1)) (ty := .int) (C := RX5) (T := TX5) (N := 7) hx hb ht itX5 tyX5 tyX5_ok nmX5 hown hK hP hD hS 3 rfl rfl 4 (by decide) (ht _ tw_618) (fun _ h9 => h9) rfl (by decide +kernel) rfl rfl (Nat.le_of_ble_eq_true rfl) dX5_functionItem_133 (fun H locs hP hD hS => ?_)
    have hP := cP_ (cw_331 ad pr N cI cR L1 L2 u51 (-1)) hP
    have hD := cD_ (cw_331 ad pr N cI cR L1 L2 u51 (-1)) hD
    refine lv_aload_n hx hb dX5_functionItem_136 rfl (lv_at hl 1 rfl) ?_
    refine lv_iconst (v := -1) hx hb dX5_functionItem_137 (by decide) ?_
    refine va_put (D := (dC, dI)) (ci := 8) (fs := oF_X5 ad pr (wA u51 0 331 (-1))) (v := .int (-1)) (ty := .int) (C := RX5) (T := TX5) (N := 7) hx hb ht itX5 tyX5 tyX5_ok nmX5 hown hK hP hD hS 3 rfl rfl 5 (by decide) (ht _ tw_614) (fun _ h9 => h9) rfl (by decide +kernel) rfl rfl (Nat.le_of_ble_eq_true rfl) dX5_functionItem_138 (fun H locs hP hD hS => ?_)
    have hP := cP_ (cw_332 ad pr N cI cR L1 L2 (wA u51 0 331 (-1)) (-1)) hP
    have hD := cD_ (cw_332 ad pr N cI cR L1 L2 (wA u51 0 331 (-1)) (-1)) hD
    refine lv_aload_n hx hb dX5_functionItem_141 rfl (lv_at hl 1 rfl) ?_
    refine lv_aload_n hx hb dX5_functionItem_142 rfl (lv_at hl 1 rfl) ?_
    refine va_get (D := (dC, dI)) (ci := 8) (fs := oF_X5 ad pr (wA (wA u51 0 331 (-1)) 0 332 (-1))) (v := .ref (ad 901)) (C := RX5) (T := TX5) (N := 7) hx hb ht itX5 hown hK hP 3 rfl rfl 2 (by decide) (ht _ tw_573) (fun _ h9 => h9) rfl dX5_functionItem_143 ?_
    refine cu_i (rn_Vk (n := 0) (As := []) (rest := [.ref (ad 903)]) hx hb hml hown ht hKK hFx hP hD hS hA (c_x_X1_newLabel l dC dI cI cB cZ cJ cR tb H.size ad pr N L1 L2 (wA (wA u51 0 331 (-1)) 0 332 (-1))  ) tw_501 tw_621 (by decide +kernel) rfl rfl ⟨show 0 + 1 ≤ 8 * n + 60 from om_6cd7f5accb, show 8 + (1 + 11) + 0 ≤ 28 * (8 * n + 60) from om_a4148e048f⟩ (List.range (cW ad pr N cI cR L1 L2 (wA (wA u51 0 331 (-1)) 0 332 (-1))).length) (rg_map _) (nd_range _) 1 rfl rfl rfl rfl hl.1 rfl (Nat.le_of_ble_eq_true rfl) dX5_functionItem_146 ⟨Nat.le_of_ble_eq_true rfl, Nat.le_of_ble_eq_true rfl⟩) hP hD hS hA (fun r55 u54 H locs hw53 hP hD hS => ?_)
    have fr53 := hw53
    refine W.widen (k := 0) (n := 0) (Nat.le_refl _) (Nat.le_refl _) ?_
    refine va_put (D := (dC, dI)) (ci := 8) (fs := oF_X5 ad pr u54) (v := .int r55) (ty := .int) (C := RX5) (T := TX5) (N := 7) hx hb ht itX5 tyX5 tyX5_ok nmX5 hown hK hP hD hS 3 rfl rfl 6 (by decide) (ht _ tw_610) (fun _ h9 => h9) rfl (by decide +kernel) rfl rfl (Nat.le_of_ble_eq_true rfl) dX5_functionItem_149 (fun H locs hP hD hS => ?_)
    have hP := cP_ (cw_333 ad pr N cI cR L1 L2 u54 r55) hP
    have hD := cD_ (cw_333 ad pr N cI cR L1 L2 u54 r55) hD
    refine lv_aload_n hx hb dX5_functionItem_152 rfl (lv_at hl 1 rfl) ?_
    refine va_get (D := (dC, dI)) (ci := 8) (fs := oF_X5 ad pr (wA u54 0 333 r55)) (v := .ref (ad 900)) (C := RX5) (T := TX5) (N := 7) hx hb ht itX5 hown hK hP 3 rfl rfl 1 (by decide) (ht _ tw_571) (fun _ h9 => h9) rfl dX5_functionItem_153 ?_
    refine lv_bipush (v := 32) hx hb dX5_functionItem_156 (by decide) ?_
    have q56 : (u35.1 0 304).toInt = (u25.1 0 304).toInt := congrArg Int32.toInt ((fr34.2.1 304 (by decide)).trans (show u25.1 0 304 = (u25.1 0 304) by rfl))
    have q57 : (u38.1 0 304).toInt = (u35.1 0 304).toInt := congrArg Int32.toInt ((fr37.2.1 304 (by decide)).trans (show u35.1 0 304 = (u35.1 0 304) by rfl))
    have q58 : (u41.1 0 304).toInt = (u38.1 0 304).toInt := congrArg Int32.toInt ((fr40.2.1 304 (by decide)).trans (show u38.1 0 304 = (u38.1 0 304) by rfl))
    have q59 : (u51.1 0 304).toInt = (u41.1 0 304).toInt := congrArg Int32.toInt ((fr50.2.1 304 (by decide)).trans (show u41.1 0 304 = (u41.1 0 304) by rfl))
    have q60 : (u54.1 0 304).toInt = (u51.1 0 304).toInt := congrArg Int32.toInt ((fr53.2.1 304 (by decide)).trans (show (wA (wA u51 0 331 (-1)) 0 332 (-1)).1 0 304 = (u51.1 0 304) by rfl))
    have q61 : (u35.1 0 373).toInt = (u25.1 0 373).toInt := congrArg Int32.toInt ((fr34.2.1 373 (by decide)).trans (show u25.1 0 373 = (u25.1 0 373) by rfl))
    have q62 : (u38.1 0 373).toInt = (u35.1 0 373).toInt := congrArg Int32.toInt ((fr37.2.1 373 (by decide)).trans (show u35.1 0 373 = (u35.1 0 373) by rfl))
    have q63 : (u41.1 0 373).toInt = (u38.1 0 373).toInt := congrArg Int32.toInt ((fr40.2.1 373 (by decide)).trans (show u38.1 0 373 = (u38.1 0 373) by rfl))
    have q64 : (u51.1 0 373).toInt = (u41.1 0 373).toInt := congrArg Int32.toInt ((fr50.2.1 373 (by decide)).trans (show u41.1 0 373 = (u41.1 0 373) by rfl))
    have q65 : (u54.1 0 373).toInt = (u51.1 0 373).toInt := congrArg Int32.toInt ((fr53.2.1 373 (by decide)).trans (show (wA (wA u51 0 331 (-1)) 0 332 (-1)).1 0 373 = (u51.1 0 373) by rfl))
    refine W.sz (fun hz9 => ?_)
    refine czx_v (rx_Vk (n := 1) (As := [.int 32]) (rest := []) hx hb hml hown ht hKK hFx hP hD hS hA (c_x_X9_need l dC dI cI cB cZ cJ cR tb H.size ad pr N L1 L2 (wA u54 0 333 r55) (32 : Int32) ps (show 0 ≤ (u54.1 0 304).toInt ∧ (u54.1 0 304).toInt ≤ 1503 from (om_295132b1a0 z304 q9 q20 q21 q27 q56 q57 q58 q59 q60)) (show 0 ≤ (u54.1 0 373).toInt ∧ (u54.1 0 373).toInt ≤ 4000 from (om_df10c0c0da z373 q10 q22 q23 q33 q61 q62 q63 q64 q65)) (show pr ps = ad 908 from hps) (show (u54.1 0 300) = ps from (Eq.trans (fr53.2.1 300 (by decide)) (Eq.trans (fr50.2.1 300 (by decide)) (Eq.trans (fr40.2.1 300 (by decide)) (Eq.trans (fr37.2.1 300 (by decide)) (Eq.trans (fr34.2.1 300 (by decide)) (Eq.trans (fr24.2.1 300 (by decide)) (Eq.trans (fr17.2.1 300 (by decide)) (Eq.trans (fr14.2.1 300 (by decide)) (Eq.trans (fr6.2.1 300 (by decide)) es300)))))))))) (show l.stackTraces = false from hst)) tw_559 tw_572 (by decide +kernel) rfl rfl ⟨show 7 + 1 ≤ 8 * n + 60 from om_c0e34ba2b2, show 8 + (2 + 11) + 104 ≤ 28 * (8 * n + 60) from om_5df1cb641d⟩ (List.range (cW ad pr N cI cR L1 L2 (wA u54 0 333 r55)).length) (rg_map _) (nd_range _) 0 rfl rfl rfl rfl hl.1 rfl (Nat.le_of_ble_eq_true rfl) dX5_functionItem_158 ⟨Nat.le_of_ble_eq_true rfl, Nat.le_of_ble_eq_true rfl⟩) hP hD hS hA (fun u9 ce9 q9 H locs hx9 hP hD hS hc9 hv9 hf9 => ?_) (fun u67 H locs hw66 hP hD hS hz8 => ?_)
    · exact vx_out (fun x h9 => (hnt x h9).elim) hlocks hc9 hv9 hf9 (fun t9 ht9 hv8 => ⟨u9, ⟨FC.tr (FC.f (FC.tr (FC.f (FC.f (FC.tr (FC.tr (FC.tr (FC.tr (FC.tr (FC.tr (FC.tr (FC.tr (FC.f (FC.rf _) ((v.1 0 375) + (1 : Int32)) (by decide)) (FC.up fr6 (by decide) (by decide))) (FC.up fr14 (by decide) (by decide))) (FC.up fr17 (by decide) (by decide))) (FC.up fr24 (by decide) (by decide))) (FC.up fr34 (by decide) (by decide))) (FC.up fr37 (by decide) (by decide))) (FC.up fr40 (by decide) (by decide))) (FC.up fr50 (by decide) (by decide))) (-1) (by decide)) (-1) (by decide)) (FC.up fr53 (by decide) (by decide))) r55 (by decide)) hx9.1, hx9.2⟩, ⟨rfl, by rw [ht9]; exact hP, hD⟩, hS.F ht9⟩) hS.2.2 (Nat.le_refl _) (Nat.le_refl _)
    refine W.shrink (hz8.trans hz9) ?_
    have fr66 := hw66
    refine lv_aload_n hx hb dX5_functionItem_161 rfl (lv_at hl 1 rfl) ?_
    refine va_get (D := (dC, dI)) (ci := 8) (fs := oF_X5 ad pr u67) (v := .ref (ad 900)) (C := RX5) (T := TX5) (N := 7) hx hb ht itX5 hown hK hP 3 rfl rfl 1 (by decide) (ht _ tw_571) (fun _ h9 => h9) rfl dX5_functionItem_162 ?_
    have q69 : (u67.1 0 304).toInt = (u54.1 0 304).toInt := congrArg Int32.toInt ((fr66.2.1 304 (by decide)).trans (show (wA u54 0 333 r55).1 0 304 = (u54.1 0 304) by rfl))
    have q70 : (u38.1 0 306).toInt = (u35.1 0 306).toInt := congrArg Int32.toInt ((fr37.2.1 306 (by decide)).trans (show u35.1 0 306 = (u35.1 0 306) by rfl))
    have q71 : (u41.1 0 306).toInt = (u38.1 0 306).toInt := congrArg Int32.toInt ((fr40.2.1 306 (by decide)).trans (show u38.1 0 306 = (u38.1 0 306) by rfl))
    have q72 : (u51.1 0 306).toInt = (u41.1 0 306).toInt := congrArg Int32.toInt ((fr50.2.1 306 (by decide)).trans (show u41.1 0 306 = (u41.1 0 306) by rfl))
    have q73 : (u54.1 0 306).toInt = (u51.1 0 306).toInt := congrArg Int32.toInt ((fr53.2.1 306 (by decide)).trans (show (wA (wA u51 0 331 (-1)) 0 332 (-1)).1 0 306 = (u51.1 0 306) by rfl))
    have q74 : (u67.1 0 306).toInt = (u54.1 0 306).toInt := congrArg Int32.toInt ((fr66.2.1 306 (by decide)).trans (show (wA u54 0 333 r55).1 0 306 = (u54.1 0 306) by rfl))
    have q75 : (u67.1 0 373).toInt = (u54.1 0 373).toInt := congrArg Int32.toInt ((fr66.2.1 373 (by decide)).trans (show (wA u54 0 333 r55).1 0 373 = (u54.1 0 373) by rfl))
    refine W.sz (fun hz9 => ?_)
    refine czx_v (rx_Vk (n := 0) (As := []) (rest := []) hx hb hml hown ht hKK hFx hP hD hS hA (c_x_X9_open l dC dI cI cB cZ cJ cR tb H.size ad pr N L1 L2 u67 ps (show 0 ≤ (u67.1 0 304).toInt ∧ (u67.1 0 304).toInt ≤ 1503 from (om_da3662a68c z304 q9 q20 q21 q27 q56 q57 q58 q59 q60 q69)) (show 0 ≤ (u67.1 0 306).toInt ∧ (u67.1 0 306).toInt ≤ 40 from (om_b98087ba73 i30634 q70 q71 q72 q73 q74)) (show 0 ≤ (u67.1 0 373).toInt ∧ (u67.1 0 373).toInt ≤ 4000 from (om_463e4f842d z373 q10 q22 q23 q33 q61 q62 q63 q64 q65 q75)) (show pr ps = ad 908 from hps) (show (u67.1 0 300) = ps from (Eq.trans (fr66.2.1 300 (by decide)) (Eq.trans (fr53.2.1 300 (by decide)) (Eq.trans (fr50.2.1 300 (by decide)) (Eq.trans (fr40.2.1 300 (by decide)) (Eq.trans (fr37.2.1 300 (by decide)) (Eq.trans (fr34.2.1 300 (by decide)) (Eq.trans (fr24.2.1 300 (by decide)) (Eq.trans (fr17.2.1 300 (by decide)) (Eq.trans (fr14.2.1 300 (by decide)) (Eq.trans (fr6.2.1 300 (by decide)) es300))))))))))) (show l.stackTraces = false from hst)) tw_524 tw_593 (by decide +kernel) rfl rfl ⟨show 7 + 1 ≤ 8 * n + 60 from om_c0e34ba2b2, show 8 + (1 + 11) + 104 ≤ 28 * (8 * n + 60) from om_2c6cab6610⟩ (List.range (cW ad pr N cI cR L1 L2 u67).length) (rg_map _) (nd_range _) 0 rfl rfl rfl rfl hl.1 rfl (Nat.le_of_ble_eq_true rfl) dX5_functionItem_165 ⟨Nat.le_of_ble_eq_true rfl, Nat.le_of_ble_eq_true rfl⟩) hP hD hS hA (fun u9 ce9 q9 H locs hx9 hP hD hS hc9 hv9 hf9 => ?_) (fun u77 H locs hw76 hP hD hS hz8 => ?_)
    · exact vx_out (fun x h9 => (hnt x h9).elim) hlocks hc9 hv9 hf9 (fun t9 ht9 hv8 => ⟨u9, ⟨FC.tr (FC.tr (FC.f (FC.tr (FC.f (FC.f (FC.tr (FC.tr (FC.tr (FC.tr (FC.tr (FC.tr (FC.tr (FC.tr (FC.f (FC.rf _) ((v.1 0 375) + (1 : Int32)) (by decide)) (FC.up fr6 (by decide) (by decide))) (FC.up fr14 (by decide) (by decide))) (FC.up fr17 (by decide) (by decide))) (FC.up fr24 (by decide) (by decide))) (FC.up fr34 (by decide) (by decide))) (FC.up fr37 (by decide) (by decide))) (FC.up fr40 (by decide) (by decide))) (FC.up fr50 (by decide) (by decide))) (-1) (by decide)) (-1) (by decide)) (FC.up fr53 (by decide) (by decide))) r55 (by decide)) (FC.up fr66 (by decide) (by decide))) hx9.1, hx9.2⟩, ⟨rfl, by rw [ht9]; exact hP, hD⟩, hS.F ht9⟩) hS.2.2 (Nat.le_refl _) (Nat.le_refl _)
    refine W.shrink (hz8.trans hz9) ?_
    obtain ⟨fr76, i30676, pj76⟩ := hw76
    have i30676 : 0 ≤ (u77.1 0 306).toInt ∧ (u77.1 0 306).toInt ≤ 40 := i30676
    have pj76 : (u77.1 0 306).toInt = (u67.1 0 306).toInt + 1 := pj76
    refine lv_aload_n hx hb dX5_functionItem_168 rfl (lv_at hl 1 rfl) ?_
    obtain ⟨n79, hn80⟩ : ∃ m, n = m + 1 := ex_z (om_5326c54b3d zn q28 q29 q30 q31 po34 q70 q71 q72 q73 q74 i30676 pj76)
    have q81 : (u77.1 0 304).toInt = (u67.1 0 304).toInt := congrArg Int32.toInt ((fr76.2.1 304 (by decide)).trans (show u67.1 0 304 = (u67.1 0 304) by rfl))
    have q82 : (u38.1 0 312).toInt = (u35.1 0 312).toInt := congrArg Int32.toInt ((fr37.2.1 312 (by decide)).trans (show u35.1 0 312 = (u35.1 0 312) by rfl))
    have q83 : (u41.1 0 312).toInt = (u38.1 0 312).toInt := congrArg Int32.toInt ((fr40.2.1 312 (by decide)).trans (show u38.1 0 312 = (u38.1 0 312) by rfl))
    have q84 : (u51.1 0 312).toInt = (u41.1 0 312).toInt := congrArg Int32.toInt ((fr50.2.1 312 (by decide)).trans (show u41.1 0 312 = (u41.1 0 312) by rfl))
    have q85 : (u54.1 0 312).toInt = (u51.1 0 312).toInt := congrArg Int32.toInt ((fr53.2.1 312 (by decide)).trans (show (wA (wA u51 0 331 (-1)) 0 332 (-1)).1 0 312 = (u51.1 0 312) by rfl))
    have q86 : (u67.1 0 312).toInt = (u54.1 0 312).toInt := congrArg Int32.toInt ((fr66.2.1 312 (by decide)).trans (show (wA u54 0 333 r55).1 0 312 = (u54.1 0 312) by rfl))
    have q87 : (u77.1 0 312).toInt = (u67.1 0 312).toInt := congrArg Int32.toInt ((fr76.2.1 312 (by decide)).trans (show u67.1 0 312 = (u67.1 0 312) by rfl))
    have q88 : (u7.1 0 321).toInt = (v.1 0 321).toInt := congrArg Int32.toInt ((fr6.2.1 321 (by decide)).trans (show (wA v 0 375 ((v.1 0 375) + (1 : Int32))).1 0 321 = (v.1 0 321) by rfl))
    have q89 : (u15.1 0 321).toInt = (u7.1 0 321).toInt := congrArg Int32.toInt ((fr14.2.1 321 (by decide)).trans (show u7.1 0 321 = (u7.1 0 321) by rfl))
    have q90 : (u18.1 0 321).toInt = (u15.1 0 321).toInt := congrArg Int32.toInt ((fr17.2.1 321 (by decide)).trans (show u15.1 0 321 = (u15.1 0 321) by rfl))
    have q91 : (u25.1 0 321).toInt = (u18.1 0 321).toInt := congrArg Int32.toInt ((fr24.2.1 321 (by decide)).trans (show u18.1 0 321 = (u18.1 0 321) by rfl))
    have q92 : (u35.1 0 321).toInt = (u25.1 0 321).toInt := congrArg Int32.toInt ((fr34.2.1 321 (by decide)).trans (show u25.1 0 321 = (u25.1 0 321) by rfl))
    have q93 : (u38.1 0 321).toInt = (u35.1 0 321).toInt := congrArg Int32.toInt ((fr37.2.1 321 (by decide)).trans (show u35.1 0 321 = (u35.1 0 321) by rfl))
    have q94 : (u41.1 0 321).toInt = (u38.1 0 321).toInt := congrArg Int32.toInt ((fr40.2.1 321 (by decide)).trans (show u38.1 0 321 = (u38.1 0 321) by rfl))
    have q95 : (u51.1 0 321).toInt = (u41.1 0 321).toInt := congrArg Int32.toInt ((fr50.2.1 321 (by decide)).trans (show u41.1 0 321 = (u41.1 0 321) by rfl))
    have q96 : (u54.1 0 321).toInt = (u51.1 0 321).toInt := congrArg Int32.toInt ((fr53.2.1 321 (by decide)).trans (show (wA (wA u51 0 331 (-1)) 0 332 (-1)).1 0 321 = (u51.1 0 321) by rfl))
    have q97 : (u67.1 0 321).toInt = (u54.1 0 321).toInt := congrArg Int32.toInt ((fr66.2.1 321 (by decide)).trans (show (wA u54 0 333 r55).1 0 321 = (u54.1 0 321) by rfl))
    have q98 : (u77.1 0 321).toInt = (u67.1 0 321).toInt := congrArg Int32.toInt ((fr76.2.1 321 (by decide)).trans (show u67.1 0 321 = (u67.1 0 321) by rfl))
    have q99 : (u7.1 0 326).toInt = (v.1 0 326).toInt := congrArg Int32.toInt ((fr6.2.1 326 (by decide)).trans (show (wA v 0 375 ((v.1 0 375) + (1 : Int32))).1 0 326 = (v.1 0 326) by rfl))
    have q100 : (u15.1 0 326).toInt = (u7.1 0 326).toInt := congrArg Int32.toInt ((fr14.2.1 326 (by decide)).trans (show u7.1 0 326 = (u7.1 0 326) by rfl))
    have q101 : (u18.1 0 326).toInt = (u15.1 0 326).toInt := congrArg Int32.toInt ((fr17.2.1 326 (by decide)).trans (show u15.1 0 326 = (u15.1 0 326) by rfl))
    have q102 : (u25.1 0 326).toInt = (u18.1 0 326).toInt := congrArg Int32.toInt ((fr24.2.1 326 (by decide)).trans (show u18.1 0 326 = (u18.1 0 326) by rfl))
    have q103 : (u35.1 0 326).toInt = (u25.1 0 326).toInt := congrArg Int32.toInt ((fr34.2.1 326 (by decide)).trans (show u25.1 0 326 = (u25.1 0 326) by rfl))
    have q104 : (u38.1 0 326).toInt = (u35.1 0 326).toInt := congrArg Int32.toInt ((fr37.2.1 326 (by decide)).trans (show u35.1 0 326 = (u35.1 0 326) by rfl))
    have q105 : (u41.1 0 326).toInt = (u38.1 0 326).toInt := congrArg Int32.toInt ((fr40.2.1 326 (by decide)).trans (show u38.1 0 326 = (u38.1 0 326) by rfl))
    have q106 : (u51.1 0 326).toInt = (u41.1 0 326).toInt := congrArg Int32.toInt ((fr50.2.1 326 (by decide)).trans (show u41.1 0 326 = (u41.1 0 326) by rfl))
    have q107 : (u54.1 0 326).toInt = (u51.1 0 326).toInt := congrArg Int32.toInt ((fr53.2.1 326 (by decide)).trans (show (wA (wA u51 0 331 (-1)) 0 332 (-1)).1 0 326 = (u51.1 0 326) by rfl))
    have q108 : (u67.1 0 326).toInt = (u54.1 0 326).toInt := congrArg Int32.toInt ((fr66.2.1 326 (by decide)).trans (show (wA u54 0 333 r55).1 0 326 = (u54.1 0 326) by rfl))
    have q109 : (u77.1 0 326).toInt = (u67.1 0 326).toInt := congrArg Int32.toInt ((fr76.2.1 326 (by decide)).trans (show u67.1 0 326 = (u67.1 0 326) by rfl))
    have q110 : (u77.1 0 373).toInt = (u67.1 0 373).toInt := congrArg Int32.toInt ((fr76.2.1 373 (by decide)).trans (show u67.1 0 373 = (u67.1 0 373) by rfl))
    have q111 : (u54.1 0 381).toInt = (u51.1 0 381).toInt := congrArg Int32.toInt ((fr53.2.1 381 (by decide)).trans (show (wA (wA u51 0 331 (-1)) 0 332 (-1)).1 0 381 = (u51.1 0 381) by rfl))
    have q112 : (u67.1 0 381).toInt = (u54.1 0 381).toInt := congrArg Int32.toInt ((fr66.2.1 381 (by decide)).trans (show (wA u54 0 333 r55).1 0 381 = (u54.1 0 381) by rfl))
    have q113 : (u77.1 0 381).toInt = (u67.1 0 381).toInt := congrArg Int32.toInt ((fr76.2.1 381 (by decide)).trans (show u67.1 0 381 = (u67.1 0 381) by rfl))
    refine W.sz (fun hz9 => ?_)
    refine czx_v (rx_Vk (n := 0) (As := []) (rest := []) hx hb hml hown ht hKK hFx hP hD hS hA (c_x_X5_stats l n79 (cqs_all l n79) dC dI cI cB cZ cJ cR tb H.size ad pr N L1 L2 u77 ps (show 0 ≤ (u77.1 0 304).toInt ∧ (u77.1 0 304).toInt ≤ 1503 from (om_cfcb3ddc4a z304 q9 q20 q21 q27 q56 q57 q58 q59 q60 q69 q81)) (show 0 ≤ (u77.1 0 306).toInt ∧ (u77.1 0 306).toInt ≤ 40 from (om_7eaf33e007 i30676)) (show 0 ≤ (u77.1 0 312).toInt ∧ (u77.1 0 312).toInt ≤ 500 from (om_71b86c5b34 i31234 q82 q83 q84 q85 q86 q87)) (show 0 ≤ (u77.1 0 321).toInt ∧ (u77.1 0 321).toInt ≤ 501 from (om_c0d1cf1fc7 z321 q88 q89 q90 q91 q92 q93 q94 q95 q96 q97 q98)) (show 0 ≤ (u77.1 0 326).toInt ∧ (u77.1 0 326).toInt ≤ 420 from (om_bf31517223 z326 q99 q100 q101 q102 q103 q104 q105 q106 q107 q108 q109)) (show 0 ≤ (u77.1 0 373).toInt ∧ (u77.1 0 373).toInt ≤ 4000 from (om_403ac2d24e z373 q10 q22 q23 q33 q61 q62 q63 q64 q65 q75 q110)) (show 0 ≤ (u77.1 0 381).toInt ∧ (u77.1 0 381).toInt ≤ 3008 from (om_f27686c115 i38150 q111 q112 q113)) (show L1.length = 40 from hL1) (show L2.length = 60 from hL2) (show RP u77 from ((show FC [305, 306, 307, 312, 313, 314, 315, 317, 321, 326, 331, 332, 333, 375, 381] [0, 311, 316, 318, 319, 320, 324, 325, 378, 379, 380] v u77 from (FC.tr (FC.tr (FC.f (FC.tr (FC.f (FC.f (FC.tr (FC.tr (FC.tr (FC.tr (FC.tr (FC.tr (FC.tr (FC.tr (FC.f (FC.rf _) ((v.1 0 375) + (1 : Int32)) (by decide)) (FC.up fr6 (by decide) (by decide))) (FC.up fr14 (by decide) (by decide))) (FC.up fr17 (by decide) (by decide))) (FC.up fr24 (by decide) (by decide))) (FC.up fr34 (by decide) (by decide))) (FC.up fr37 (by decide) (by decide))) (FC.up fr40 (by decide) (by decide))) (FC.up fr50 (by decide) (by decide))) (-1) (by decide)) (-1) (by decide)) (FC.up fr53 (by decide) (by decide))) r55 (by decide)) (FC.up fr66 (by decide) (by decide))) (FC.up fr76 (by decide) (by decide)))).1 rp)) (show pr ps = ad 908 from hps) (show (u77.1 0 300) = ps from (Eq.trans (fr76.2.1 300 (by decide)) (Eq.trans (fr66.2.1 300 (by decide)) (Eq.trans (fr53.2.1 300 (by decide)) (Eq.trans (fr50.2.1 300 (by decide)) (Eq.trans (fr40.2.1 300 (by decide)) (Eq.trans (fr37.2.1 300 (by decide)) (Eq.trans (fr34.2.1 300 (by decide)) (Eq.trans (fr24.2.1 300 (by decide)) (Eq.trans (fr17.2.1 300 (by decide)) (Eq.trans (fr14.2.1 300 (by decide)) (Eq.trans (fr6.2.1 300 (by decide)) es300)))))))))))) (show (u77.1 0 310) = ps from (Eq.trans (fr76.2.1 310 (by decide)) (Eq.trans (fr66.2.1 310 (by decide)) (Eq.trans (fr53.2.1 310 (by decide)) (Eq.trans (fr50.2.1 310 (by decide)) (Eq.trans (fr40.2.1 310 (by decide)) (Eq.trans (fr37.2.1 310 (by decide)) (Eq.trans (fr34.2.1 310 (by decide)) (Eq.trans (fr24.2.1 310 (by decide)) (Eq.trans (fr17.2.1 310 (by decide)) (Eq.trans (fr14.2.1 310 (by decide)) (Eq.trans (fr6.2.1 310 (by decide)) es310)))))))))))) (show l.stackTraces = false from hst) (show 40 ≤ (u77.1 0 306).toInt + (n79 : Int) from (om_eab95c883a zn q28 q29 q30 q31 po34 q70 q71 q72 q73 q74 pj76 hn80))) tw_624 tw_625 (by decide +kernel) rfl rfl ⟨show (8 * n79 + 41) + 1 ≤ 8 * n + 60 from (om_f5abf45c2d hn80), show 8 + (2 + 11) + 28 * (8 * n79 + 41) ≤ 28 * (8 * n + 60) from (om_398940af72 hn80)⟩ (List.range (cW ad pr N cI cR L1 L2 u77).length) (rg_map _) (nd_range _) 3 rfl rfl rfl rfl hl.1 rfl (Nat.le_of_ble_eq_true rfl) dX5_functionItem_169 ⟨Nat.le_of_ble_eq_true rfl, Nat.le_of_ble_eq_true rfl⟩) hP hD hS hA (fun u9 ce9 q9 H locs hx9 hP hD hS hc9 hv9 hf9 => ?_) (fun u115 H locs hw114 hP hD hS hz8 => ?_)
    · exact vx_out (fun x h9 => (hnt x h9).elim) hlocks hc9 hv9 hf9 (fun t9 ht9 hv8 => ⟨u9, ⟨FC.tr (FC.tr (FC.tr (FC.f (FC.tr (FC.f (FC.f (FC.tr (FC.tr (FC.tr (FC.tr (FC.tr (FC.tr (FC.tr (FC.tr (FC.f (FC.rf _) ((v.1 0 375) + (1 : Int32)) (by decide)) (FC.up fr6 (by decide) (by decide))) (FC.up fr14 (by decide) (by decide))) (FC.up fr17 (by decide) (by decide))) (FC.up fr24 (by decide) (by decide))) (FC.up fr34 (by decide) (by decide))) (FC.up fr37 (by decide) (by decide))) (FC.up fr40 (by decide) (by decide))) (FC.up fr50 (by decide) (by decide))) (-1) (by decide)) (-1) (by decide)) (FC.up fr53 (by decide) (by decide))) r55 (by decide)) (FC.up fr66 (by decide) (by decide))) (FC.up fr76 (by decide) (by decide))) hx9.1, hx9.2⟩, ⟨rfl, by rw [ht9]; exact hP, hD⟩, hS.F ht9⟩) hS.2.2 (Nat.le_refl _) (Nat.le_refl _)
    refine W.shrink (hz8.trans hz9) ?_
    obtain ⟨fr114, i306114, i312114, i321114, i326114, i381114, po114⟩ := hw114
    have i306114 : 0 ≤ (u115.1 0 306).toInt ∧ (u115.1 0 306).toInt ≤ 40 := i306114
    have i312114 : 0 ≤ (u115.1 0 312).toInt ∧ (u115.1 0 312).toInt ≤ 500 := i312114
    have i321114 : 0 ≤ (u115.1 0 321).toInt ∧ (u115.1 0 321).toInt ≤ 501 := i321114
    have i326114 : 0 ≤ (u115.1 0 326).toInt ∧ (u115.1 0 326).toInt ≤ 420 := i326114
    have i381114 : 0 ≤ (u115.1 0 381).toInt ∧ (u115.1 0 381).toInt ≤ 3008 := i381114
    have po114 : (u115.1 0 306).toInt = (u77.1 0 306).toInt := po114
    refine lv_aload_n hx hb dX5_functionItem_172 rfl (lv_at hl 1 rfl) ?_
    refine va_get (D := (dC, dI)) (ci := 8) (fs := oF_X5 ad pr u115) (v := .ref (ad 900)) (C := RX5) (T := TX5) (N := 7) hx hb ht itX5 hown hK hP 3 rfl rfl 1 (by decide) (ht _ tw_571) (fun _ h9 => h9) rfl dX5_functionItem_173 ?_
    refine lv_bipush (v := 33) hx hb dX5_functionItem_176 (by decide) ?_
    have q117 : (u115.1 0 304).toInt = (u77.1 0 304).toInt := congrArg Int32.toInt ((fr114.2.1 304 (by decide)).trans (show u77.1 0 304 = (u77.1 0 304) by rfl))
    have q118 : (u115.1 0 373).toInt = (u77.1 0 373).toInt := congrArg Int32.toInt ((fr114.2.1 373 (by decide)).trans (show u77.1 0 373 = (u77.1 0 373) by rfl))
    refine W.sz (fun hz9 => ?_)
    refine czx_v (rx_Vk (n := 1) (As := [.int 33]) (rest := []) hx hb hml hown ht hKK hFx hP hD hS hA (c_x_X9_expect l dC dI cI cB cZ cJ cR tb H.size ad pr N L1 L2 u115 (33 : Int32) ps (show 0 ≤ (u115.1 0 304).toInt ∧ (u115.1 0 304).toInt ≤ 1503 from (om_012594a37a z304 q9 q20 q21 q27 q56 q57 q58 q59 q60 q69 q81 q117)) (show 0 ≤ (u115.1 0 373).toInt ∧ (u115.1 0 373).toInt ≤ 4000 from (om_5e2648c024 z373 q10 q22 q23 q33 q61 q62 q63 q64 q65 q75 q110 q118)) (show pr ps = ad 908 from hps) (show (u115.1 0 300) = ps from (Eq.trans (fr114.2.1 300 (by decide)) (Eq.trans (fr76.2.1 300 (by decide)) (Eq.trans (fr66.2.1 300 (by decide)) (Eq.trans (fr53.2.1 300 (by decide)) (Eq.trans (fr50.2.1 300 (by decide)) (Eq.trans (fr40.2.1 300 (by decide)) (Eq.trans (fr37.2.1 300 (by decide)) (Eq.trans (fr34.2.1 300 (by decide)) (Eq.trans (fr24.2.1 300 (by decide)) (Eq.trans (fr17.2.1 300 (by decide)) (Eq.trans (fr14.2.1 300 (by decide)) (Eq.trans (fr6.2.1 300 (by decide)) es300))))))))))))) (show l.stackTraces = false from hst)) tw_526 tw_580 (by decide +kernel) rfl rfl ⟨show 7 + 1 ≤ 8 * n + 60 from om_c0e34ba2b2, show 8 + (2 + 11) + 104 ≤ 28 * (8 * n + 60) from om_5df1cb641d⟩ (List.range (cW ad pr N cI cR L1 L2 u115).length) (rg_map _) (nd_range _) 0 rfl rfl rfl rfl hl.1 rfl (Nat.le_of_ble_eq_true rfl) dX5_functionItem_178 ⟨Nat.le_of_ble_eq_true rfl, Nat.le_of_ble_eq_true rfl⟩) hP hD hS hA (fun u9 ce9 q9 H locs hx9 hP hD hS hc9 hv9 hf9 => ?_) (fun u120 H locs hw119 hP hD hS hz8 => ?_)
    · exact vx_out (fun x h9 => (hnt x h9).elim) hlocks hc9 hv9 hf9 (fun t9 ht9 hv8 => ⟨u9, ⟨FC.tr (FC.tr (FC.tr (FC.tr (FC.f (FC.tr (FC.f (FC.f (FC.tr (FC.tr (FC.tr (FC.tr (FC.tr (FC.tr (FC.tr (FC.tr (FC.f (FC.rf _) ((v.1 0 375) + (1 : Int32)) (by decide)) (FC.up fr6 (by decide) (by decide))) (FC.up fr14 (by decide) (by decide))) (FC.up fr17 (by decide) (by decide))) (FC.up fr24 (by decide) (by decide))) (FC.up fr34 (by decide) (by decide))) (FC.up fr37 (by decide) (by decide))) (FC.up fr40 (by decide) (by decide))) (FC.up fr50 (by decide) (by decide))) (-1) (by decide)) (-1) (by decide)) (FC.up fr53 (by decide) (by decide))) r55 (by decide)) (FC.up fr66 (by decide) (by decide))) (FC.up fr76 (by decide) (by decide))) (FC.up fr114 (by decide) (by decide))) hx9.1, hx9.2⟩, ⟨rfl, by rw [ht9]; exact hP, hD⟩, hS.F ht9⟩) hS.2.2 (Nat.le_refl _) (Nat.le_refl _)
    refine W.shrink (hz8.trans hz9) ?_
    have fr119 := hw119
    refine lv_aload_n hx hb dX5_functionItem_181 rfl (lv_at hl 1 rfl) ?_
    refine va_get (D := (dC, dI)) (ci := 8) (fs := oF_X5 ad pr u120) (v := .ref (ad 900)) (C := RX5) (T := TX5) (N := 7) hx hb ht itX5 hown hK hP 3 rfl rfl 1 (by decide) (ht _ tw_571) (fun _ h9 => h9) rfl dX5_functionItem_182 ?_
    have q122 : (u120.1 0 306).toInt = (u115.1 0 306).toInt := congrArg Int32.toInt ((fr119.2.1 306 (by decide)).trans (show u115.1 0 306 = (u115.1 0 306) by rfl))
    refine cu_v (rn_Vk (n := 0) (As := []) (rest := []) hx hb hml hown ht hKK hFx hP hD hS hA (c_x_X9_close l dC dI cI cB cZ cJ cR tb H.size ad pr N L1 L2 u120  (show 0 ≤ (u120.1 0 306).toInt ∧ (u120.1 0 306).toInt ≤ 40 from (om_99e115f631 i306114 q122)) (show 1 ≤ (u120.1 0 306).toInt from (om_ed0bafe18e i30634 q70 q71 q72 q73 q74 pj76 po114 q122))) tw_528 tw_595 (by decide +kernel) rfl rfl ⟨show 0 + 1 ≤ 8 * n + 60 from om_6cd7f5accb, show 8 + (1 + 11) + 0 ≤ 28 * (8 * n + 60) from om_a4148e048f⟩ (List.range (cW ad pr N cI cR L1 L2 u120).length) (rg_map _) (nd_range _) 0 rfl rfl rfl rfl hl.1 rfl (Nat.le_of_ble_eq_true rfl) dX5_functionItem_185 ⟨Nat.le_of_ble_eq_true rfl, Nat.le_of_ble_eq_true rfl⟩) hP hD hS hA (fun u124 H locs hw123 hP hD hS => ?_)
    obtain ⟨fr123, i306123, pj123⟩ := hw123
    have i306123 : 0 ≤ (u124.1 0 306).toInt ∧ (u124.1 0 306).toInt ≤ 40 := i306123
    have pj123 : (u124.1 0 306).toInt = (u120.1 0 306).toInt - 1 := pj123
    refine W.widen (k := 0) (n := 0) (Nat.le_refl _) (Nat.le_refl _) ?_
    refine lv_aload_n hx hb dX5_functionItem_188 rfl (lv_at hl 1 rfl) ?_
    refine va_get (D := (dC, dI)) (ci := 8) (fs := oF_X5 ad pr u124) (v := .ref (ad 901)) (C := RX5) (T := TX5) (N := 7) hx hb ht itX5 hown hK hP 3 rfl rfl 2 (by decide) (ht _ tw_573) (fun _ h9 => h9) rfl dX5_functionItem_189 ?_
    refine lv_iconst (v := 2) hx hb dX5_functionItem_192 (by decide) ?_
    refine lv_iconst (v := 0) hx hb dX5_functionItem_193 (by decide) ?_
    refine lv_iconst (v := 0) hx hb dX5_functionItem_194 (by decide) ?_
    have q126 : (u120.1 0 381).toInt = (u115.1 0 381).toInt := congrArg Int32.toInt ((fr119.2.1 381 (by decide)).trans (show u115.1 0 381 = (u115.1 0 381) by rfl))
    have q127 : (u124.1 0 381).toInt = (u120.1 0 381).toInt := congrArg Int32.toInt ((fr123.2.1 381 (by decide)).trans (show u120.1 0 381 = (u120.1 0 381) by rfl))
    refine cu_v (rn_Vk (n := 3) (As := [.int 2, .int 0, .int 0]) (rest := []) hx hb hml hown ht hKK hFx hP hD hS hA (c_x_X1_add l dC dI cI cB cZ cJ cR tb H.size ad pr N L1 L2 u124 (2 : Int32) (0 : Int32) (0 : Int32) ps (show 0 ≤ (u124.1 0 381).toInt ∧ (u124.1 0 381).toInt ≤ 3008 from (om_769192f2a4 i381114 q126 q127)) (show pr ps = ad 908 from hps) (show (u124.1 0 310) = ps from (Eq.trans (fr123.2.1 310 (by decide)) (Eq.trans (fr119.2.1 310 (by decide)) (Eq.trans (fr114.2.1 310 (by decide)) (Eq.trans (fr76.2.1 310 (by decide)) (Eq.trans (fr66.2.1 310 (by decide)) (Eq.trans (fr53.2.1 310 (by decide)) (Eq.trans (fr50.2.1 310 (by decide)) (Eq.trans (fr40.2.1 310 (by decide)) (Eq.trans (fr37.2.1 310 (by decide)) (Eq.trans (fr34.2.1 310 (by decide)) (Eq.trans (fr24.2.1 310 (by decide)) (Eq.trans (fr17.2.1 310 (by decide)) (Eq.trans (fr14.2.1 310 (by decide)) (Eq.trans (fr6.2.1 310 (by decide)) es310)))))))))))))))) tw_499 tw_592 (by decide +kernel) rfl rfl ⟨show 0 + 1 ≤ 8 * n + 60 from om_6cd7f5accb, show 8 + (5 + 11) + 0 ≤ 28 * (8 * n + 60) from om_ae5bfc4266⟩ (List.range (cW ad pr N cI cR L1 L2 u124).length) (rg_map _) (nd_range _) 1 rfl rfl rfl rfl hl.1 rfl (Nat.le_of_ble_eq_true rfl) dX5_functionItem_195 ⟨Nat.le_of_ble_eq_true rfl, Nat.le_of_ble_eq_true rfl⟩) hP hD hS hA (fun u129 H locs hw128 hP hD hS => ?_)
    obtain ⟨fr128, i381128⟩ := hw128
    have i381128 : 0 ≤ (u129.1 0 381).toInt ∧ (u129.1 0 381).toInt ≤ 3008 := i381128
    refine W.widen (k := 0) (n := 0) (Nat.le_refl _) (Nat.le_refl _) ?_
    refine lv_aload_n hx hb dX5_functionItem_198 rfl (lv_at hl 1 rfl) ?_
    refine va_get (D := (dC, dI)) (ci := 8) (fs := oF_X5 ad pr u129) (v := .ref (ad 901)) (C := RX5) (T := TX5) (N := 7) hx hb ht itX5 hown hK hP 3 rfl rfl 2 (by decide) (ht _ tw_573) (fun _ h9 => h9) rfl dX5_functionItem_199 ?_
    refine lv_aload_n hx hb dX5_functionItem_202 rfl (lv_at hl 1 rfl) ?_
    refine va_get (D := (dC, dI)) (ci := 8) (fs := oF_X5 ad pr u129) (v := .int (u129.1 0 333)) (C := RX5) (T := TX5) (N := 7) hx hb ht itX5 hown hK hP 3 rfl rfl 6 (by decide) (ht _ tw_610) (fun _ h9 => h9) rfl dX5_functionItem_203 ?_
    refine cu_v (rn_Vk (n := 1) (As := [.int (u129.1 0 333)]) (rest := []) hx hb hml hown ht hKK hFx hP hD hS hA (c_x_X1_setLabel l dC dI cI cB cZ cJ cR tb H.size ad pr N L1 L2 u129 (u129.1 0 333) ps (show 0 ≤ (u129.1 0 381).toInt ∧ (u129.1 0 381).toInt ≤ 3008 from (om_e78eec72e1 i381128)) (show pr ps = ad 908 from hps) (show (u129.1 0 310) = ps from (Eq.trans (fr128.2.1 310 (by decide)) (Eq.trans (fr123.2.1 310 (by decide)) (Eq.trans (fr119.2.1 310 (by decide)) (Eq.trans (fr114.2.1 310 (by decide)) (Eq.trans (fr76.2.1 310 (by decide)) (Eq.trans (fr66.2.1 310 (by decide)) (Eq.trans (fr53.2.1 310 (by decide)) (Eq.trans (fr50.2.1 310 (by decide)) (Eq.trans (fr40.2.1 310 (by decide)) (Eq.trans (fr37.2.1 310 (by decide)) (Eq.trans (fr34.2.1 310 (by decide)) (Eq.trans (fr24.2.1 310 (by decide)) (Eq.trans (fr17.2.1 310 (by decide)) (Eq.trans (fr14.2.1 310 (by decide)) (Eq.trans (fr6.2.1 310 (by decide)) es310))))))))))))))))) tw_514 tw_615 (by decide +kernel) rfl rfl ⟨show 0 + 1 ≤ 8 * n + 60 from om_6cd7f5accb, show 8 + (2 + 11) + 0 ≤ 28 * (8 * n + 60) from om_0f546b0117⟩ (List.range (cW ad pr N cI cR L1 L2 u129).length) (rg_map _) (nd_range _) 1 rfl rfl rfl rfl hl.1 rfl (Nat.le_of_ble_eq_true rfl) dX5_functionItem_206 ⟨Nat.le_of_ble_eq_true rfl, Nat.le_of_ble_eq_true rfl⟩) hP hD hS hA (fun u132 H locs hw131 hP hD hS => ?_)
    have fr131 := hw131
    refine W.widen (k := 0) (n := 0) (Nat.le_refl _) (Nat.le_refl _) ?_
    refine lv_aload_n hx hb dX5_functionItem_209 rfl (lv_at hl 1 rfl) ?_
    refine va_get (D := (dC, dI)) (ci := 8) (fs := oF_X5 ad pr u132) (v := .ref (ad 901)) (C := RX5) (T := TX5) (N := 7) hx hb ht itX5 hown hK hP 3 rfl rfl 2 (by decide) (ht _ tw_573) (fun _ h9 => h9) rfl dX5_functionItem_210 ?_
    refine lv_iconst (v := 1) hx hb dX5_functionItem_213 (by decide) ?_
    refine lv_iconst (v := 0) hx hb dX5_functionItem_214 (by decide) ?_
    refine lv_iconst (v := 0) hx hb dX5_functionItem_215 (by decide) ?_
    have q134 : (u132.1 0 381).toInt = (u129.1 0 381).toInt := congrArg Int32.toInt ((fr131.2.1 381 (by decide)).trans (show u129.1 0 381 = (u129.1 0 381) by rfl))
    refine cu_v (rn_Vk (n := 3) (As := [.int 1, .int 0, .int 0]) (rest := []) hx hb hml hown ht hKK hFx hP hD hS hA (c_x_X1_add l dC dI cI cB cZ cJ cR tb H.size ad pr N L1 L2 u132 (1 : Int32) (0 : Int32) (0 : Int32) ps (show 0 ≤ (u132.1 0 381).toInt ∧ (u132.1 0 381).toInt ≤ 3008 from (om_6e4eb11ad3 i381128 q134)) (show pr ps = ad 908 from hps) (show (u132.1 0 310) = ps from (Eq.trans (fr131.2.1 310 (by decide)) (Eq.trans (fr128.2.1 310 (by decide)) (Eq.trans (fr123.2.1 310 (by decide)) (Eq.trans (fr119.2.1 310 (by decide)) (Eq.trans (fr114.2.1 310 (by decide)) (Eq.trans (fr76.2.1 310 (by decide)) (Eq.trans (fr66.2.1 310 (by decide)) (Eq.trans (fr53.2.1 310 (by decide)) (Eq.trans (fr50.2.1 310 (by decide)) (Eq.trans (fr40.2.1 310 (by decide)) (Eq.trans (fr37.2.1 310 (by decide)) (Eq.trans (fr34.2.1 310 (by decide)) (Eq.trans (fr24.2.1 310 (by decide)) (Eq.trans (fr17.2.1 310 (by decide)) (Eq.trans (fr14.2.1 310 (by decide)) (Eq.trans (fr6.2.1 310 (by decide)) es310)))))))))))))))))) tw_499 tw_592 (by decide +kernel) rfl rfl ⟨show 0 + 1 ≤ 8 * n + 60 from om_6cd7f5accb, show 8 + (5 + 11) + 0 ≤ 28 * (8 * n + 60) from om_ae5bfc4266⟩ (List.range (cW ad pr N cI cR L1 L2 u132).length) (rg_map _) (nd_range _) 1 rfl rfl rfl rfl hl.1 rfl (Nat.le_of_ble_eq_true rfl) dX5_functionItem_216 ⟨Nat.le_of_ble_eq_true rfl, Nat.le_of_ble_eq_true rfl⟩) hP hD hS hA (fun u136 H locs hw135 hP hD hS => ?_)
    obtain ⟨fr135, i381135⟩ := hw135
    have i381135 : 0 ≤ (u136.1 0 381).toInt ∧ (u136.1 0 381).toInt ≤ 3008 := i381135
    refine W.widen (k := 0) (n := 0) (Nat.le_refl _) (Nat.le_refl _) ?_
    refine lv_aload_n hx hb dX5_functionItem_219 rfl (lv_at hl 1 rfl) ?_
    refine va_get (D := (dC, dI)) (ci := 8) (fs := oF_X5 ad pr u136) (v := .ref (pr (u136.1 0 327))) (C := RX5) (T := TX5) (N := 7) hx hb ht itX5 hown hK hP 3 rfl rfl 0 (by decide) (ht _ tw_588) (fun _ h9 => h9) rfl dX5_functionItem_220 ?_
    refine lv_iload_n hx hb dX5_functionItem_223 rfl (lv_at hl 0 rfl) ?_
    refine lv_iconst (v := 2) hx hb dX5_functionItem_224 (by decide) ?_
    refine lv_aload_n hx hb dX5_functionItem_225 rfl (lv_at hl 1 rfl) ?_
    refine va_get (D := (dC, dI)) (ci := 8) (fs := oF_X5 ad pr u136) (v := .ref (ad 901)) (C := RX5) (T := TX5) (N := 7) hx hb ht itX5 hown hK hP 3 rfl rfl 2 (by decide) (ht _ tw_573) (fun _ h9 => h9) rfl dX5_functionItem_226 ?_
    refine cu_i (rn_Vk (n := 0) (As := []) (rest := [.int 2, .int (v.1 0 375), .ref (pr (u136.1 0 327))]) hx hb hml hown ht hKK hFx hP hD hS hA (c_x_X1_frame l dC dI cI cB cZ cJ cR tb H.size ad pr N L1 L2 u136  ) tw_652 tw_653 (by decide +kernel) rfl rfl ⟨show 0 + 1 ≤ 8 * n + 60 from om_6cd7f5accb, show 8 + (1 + 11) + 0 ≤ 28 * (8 * n + 60) from om_a4148e048f⟩ (List.range (cW ad pr N cI cR L1 L2 u136).length) (rg_map _) (nd_range _) 1 rfl rfl rfl rfl hl.1 rfl (Nat.le_of_ble_eq_true rfl) dX5_functionItem_229 ⟨Nat.le_of_ble_eq_true rfl, Nat.le_of_ble_eq_true rfl⟩) hP hD hS hA (fun r140 u139 H locs hw138 hP hD hS => ?_)
    obtain rfl := hw138
    refine W.widen (k := 0) (n := 0) (Nat.le_refl _) (Nat.le_refl _) ?_
    refine W.eq (g2 := F0 m 232 ls [.int r140, .int 2, .int (v.1 0 375), .ref (ad 908)]) (by rw [show pr (u136.1 0 327) = (ad 908) from (by rw [show (u136.1 0 327) = ps from (Eq.trans (fr135.2.1 327 (by decide)) (Eq.trans (fr131.2.1 327 (by decide)) (Eq.trans (fr128.2.1 327 (by decide)) (Eq.trans (fr123.2.1 327 (by decide)) (Eq.trans (fr119.2.1 327 (by decide)) (Eq.trans (fr114.2.1 327 (by decide)) (Eq.trans (fr76.2.1 327 (by decide)) (Eq.trans (fr66.2.1 327 (by decide)) (Eq.trans (fr53.2.1 327 (by decide)) (Eq.trans (fr50.2.1 327 (by decide)) (Eq.trans (fr40.2.1 327 (by decide)) (Eq.trans (fr37.2.1 327 (by decide)) (Eq.trans (fr34.2.1 327 (by decide)) (Eq.trans (fr24.2.1 327 (by decide)) (Eq.trans (fr17.2.1 327 (by decide)) (Eq.trans (fr14.2.1 327 (by decide)) (Eq.trans (fr6.2.1 327 (by decide)) es327)))))))))))))))))]; exact hps)]) ?_
    refine cu_v (rn_Vk (n := 3) (As := [.int (v.1 0 375), .int 2, .int r140]) (rest := []) hx hb hml hown ht hKK hFx hP hD hS hA (c_x_X7_changeFunction l dC dI cI cB cZ cJ cR tb H.size ad pr N L1 L2 u136 (v.1 0 375) (2 : Int32) r140 (show L1.length = 40 from hL1) (show L2.length = 60 from hL2) (show RP u136 from ((show FC [305, 306, 307, 312, 313, 314, 315, 317, 321, 326, 331, 332, 333, 375, 381] [0, 311, 316, 318, 319, 320, 324, 325, 378, 379, 380] v u136 from (FC.tr (FC.tr (FC.tr (FC.tr (FC.tr (FC.tr (FC.tr (FC.tr (FC.f (FC.tr (FC.f (FC.f (FC.tr (FC.tr (FC.tr (FC.tr (FC.tr (FC.tr (FC.tr (FC.tr (FC.f (FC.rf _) ((v.1 0 375) + (1 : Int32)) (by decide)) (FC.up fr6 (by decide) (by decide))) (FC.up fr14 (by decide) (by decide))) (FC.up fr17 (by decide) (by decide))) (FC.up fr24 (by decide) (by decide))) (FC.up fr34 (by decide) (by decide))) (FC.up fr37 (by decide) (by decide))) (FC.up fr40 (by decide) (by decide))) (FC.up fr50 (by decide) (by decide))) (-1) (by decide)) (-1) (by decide)) (FC.up fr53 (by decide) (by decide))) r55 (by decide)) (FC.up fr66 (by decide) (by decide))) (FC.up fr76 (by decide) (by decide))) (FC.up fr114 (by decide) (by decide))) (FC.up fr119 (by decide) (by decide))) (FC.up fr123 (by decide) (by decide))) (FC.up fr128 (by decide) (by decide))) (FC.up fr131 (by decide) (by decide))) (FC.up fr135 (by decide) (by decide)))).1 rp)) (show (2 : Int) ≠ 0 ∨ r140.toInt ≤ 1000 from om_4031599863)) tw_645 tw_646 (by decide +kernel) rfl rfl ⟨show 0 + 1 ≤ 8 * n + 60 from om_6cd7f5accb, show 8 + (4 + 11) + 0 ≤ 28 * (8 * n + 60) from om_7771dcfd65⟩ (List.range (cW ad pr N cI cR L1 L2 u136).length) (rg_map _) (nd_range _) 8 rfl rfl rfl rfl hl.1 rfl (Nat.le_of_ble_eq_true rfl) dX5_functionItem_232 ⟨Nat.le_of_ble_eq_true rfl, Nat.le_of_ble_eq_true rfl⟩) hP hD hS hA (fun u142 H locs hw141 hP hD hS => ?_)
    have fr141 := hw141
    refine W.widen (k := 0) (n := 0) (Nat.le_refl _) (Nat.le_refl _) ?_
    have q144 : (u129.1 0 306).toInt = (u124.1 0 306).toInt := congrArg Int32.toInt ((fr128.2.1 306 (by decide)).trans (show u124.1 0 306 = (u124.1 0 306) by rfl))
    have q145 : (u132.1 0 306).toInt = (u129.1 0 306).toInt := congrArg Int32.toInt ((fr131.2.1 306 (by decide)).trans (show u129.1 0 306 = (u129.1 0 306) by rfl))
    have q146 : (u136.1 0 306).toInt = (u132.1 0 306).toInt := congrArg Int32.toInt ((fr135.2.1 306 (by decide)).trans (show u132.1 0 306 = (u132.1 0 306) by rfl))
    have q147 : (u142.1 0 306).toInt = (u136.1 0 306).toInt := congrArg Int32.toInt ((fr141.2.1 306 (by decide)).trans (show u136.1 0 306 = (u136.1 0 306) by rfl))
    have q148 : (u120.1 0 312).toInt = (u115.1 0 312).toInt := congrArg Int32.toInt ((fr119.2.1 312 (by decide)).trans (show u115.1 0 312 = (u115.1 0 312) by rfl))
    have q149 : (u124.1 0 312).toInt = (u120.1 0 312).toInt := congrArg Int32.toInt ((fr123.2.1 312 (by decide)).trans (show u120.1 0 312 = (u120.1 0 312) by rfl))
    have q150 : (u129.1 0 312).toInt = (u124.1 0 312).toInt := congrArg Int32.toInt ((fr128.2.1 312 (by decide)).trans (show u124.1 0 312 = (u124.1 0 312) by rfl))
    have q151 : (u132.1 0 312).toInt = (u129.1 0 312).toInt := congrArg Int32.toInt ((fr131.2.1 312 (by decide)).trans (show u129.1 0 312 = (u129.1 0 312) by rfl))
    have q152 : (u136.1 0 312).toInt = (u132.1 0 312).toInt := congrArg Int32.toInt ((fr135.2.1 312 (by decide)).trans (show u132.1 0 312 = (u132.1 0 312) by rfl))
    have q153 : (u142.1 0 312).toInt = (u136.1 0 312).toInt := congrArg Int32.toInt ((fr141.2.1 312 (by decide)).trans (show u136.1 0 312 = (u136.1 0 312) by rfl))
    have q154 : (u120.1 0 321).toInt = (u115.1 0 321).toInt := congrArg Int32.toInt ((fr119.2.1 321 (by decide)).trans (show u115.1 0 321 = (u115.1 0 321) by rfl))
    have q155 : (u124.1 0 321).toInt = (u120.1 0 321).toInt := congrArg Int32.toInt ((fr123.2.1 321 (by decide)).trans (show u120.1 0 321 = (u120.1 0 321) by rfl))
    have q156 : (u129.1 0 321).toInt = (u124.1 0 321).toInt := congrArg Int32.toInt ((fr128.2.1 321 (by decide)).trans (show u124.1 0 321 = (u124.1 0 321) by rfl))
    have q157 : (u132.1 0 321).toInt = (u129.1 0 321).toInt := congrArg Int32.toInt ((fr131.2.1 321 (by decide)).trans (show u129.1 0 321 = (u129.1 0 321) by rfl))
    have q158 : (u136.1 0 321).toInt = (u132.1 0 321).toInt := congrArg Int32.toInt ((fr135.2.1 321 (by decide)).trans (show u132.1 0 321 = (u132.1 0 321) by rfl))
    have q159 : (u142.1 0 321).toInt = (u136.1 0 321).toInt := congrArg Int32.toInt ((fr141.2.1 321 (by decide)).trans (show u136.1 0 321 = (u136.1 0 321) by rfl))
    have q160 : (u120.1 0 326).toInt = (u115.1 0 326).toInt := congrArg Int32.toInt ((fr119.2.1 326 (by decide)).trans (show u115.1 0 326 = (u115.1 0 326) by rfl))
    have q161 : (u124.1 0 326).toInt = (u120.1 0 326).toInt := congrArg Int32.toInt ((fr123.2.1 326 (by decide)).trans (show u120.1 0 326 = (u120.1 0 326) by rfl))
    have q162 : (u129.1 0 326).toInt = (u124.1 0 326).toInt := congrArg Int32.toInt ((fr128.2.1 326 (by decide)).trans (show u124.1 0 326 = (u124.1 0 326) by rfl))
    have q163 : (u132.1 0 326).toInt = (u129.1 0 326).toInt := congrArg Int32.toInt ((fr131.2.1 326 (by decide)).trans (show u129.1 0 326 = (u129.1 0 326) by rfl))
    have q164 : (u136.1 0 326).toInt = (u132.1 0 326).toInt := congrArg Int32.toInt ((fr135.2.1 326 (by decide)).trans (show u132.1 0 326 = (u132.1 0 326) by rfl))
    have q165 : (u142.1 0 326).toInt = (u136.1 0 326).toInt := congrArg Int32.toInt ((fr141.2.1 326 (by decide)).trans (show u136.1 0 326 = (u136.1 0 326) by rfl))
    have q166 : (u142.1 0 381).toInt = (u136.1 0 381).toInt := congrArg Int32.toInt ((fr141.2.1 381 (by decide)).trans (show u136.1 0 381 = (u136.1 0 381) by rfl))
    refine W.sz (fun hz => ?_)
    refine vx_ret ?_
    refine W.widen (k := 1) (n := 6) (Nat.le_of_ble_eq_true rfl) (Nat.le_of_ble_eq_true rfl) ?_
    exact W.vret hx hb hr (fun t ht9 hW => ⟨⟨u142, rfl, ⟨(FC.tr (FC.tr (FC.tr (FC.tr (FC.tr (FC.tr (FC.tr (FC.tr (FC.tr (FC.f (FC.tr (FC.f (FC.f (FC.tr (FC.tr (FC.tr (FC.tr (FC.tr (FC.tr (FC.tr (FC.tr (FC.f (FC.rf _) ((v.1 0 375) + (1 : Int32)) (by decide)) (FC.up fr6 (by decide) (by decide))) (FC.up fr14 (by decide) (by decide))) (FC.up fr17 (by decide) (by decide))) (FC.up fr24 (by decide) (by decide))) (FC.up fr34 (by decide) (by decide))) (FC.up fr37 (by decide) (by decide))) (FC.up fr40 (by decide) (by decide))) (FC.up fr50 (by decide) (by decide))) (-1) (by decide)) (-1) (by decide)) (FC.up fr53 (by decide) (by decide))) r55 (by decide)) (FC.up fr66 (by decide) (by decide))) (FC.up fr76 (by decide) (by decide))) (FC.up fr114 (by decide) (by decide))) (FC.up fr119 (by decide) (by decide))) (FC.up fr123 (by decide) (by decide))) (FC.up fr128 (by decide) (by decide))) (FC.up fr131 (by decide) (by decide))) (FC.up fr135 (by decide) (by decide))) (FC.up fr141 (by decide) (by decide))), (show 0 ≤ (u142.1 0 306).toInt ∧ (u142.1 0 306).toInt ≤ 40 from (om_5a515d92a7 i306114 q122 i306123 pj123 q144 q145 q146 q147)), (show 0 ≤ (u142.1 0 312).toInt ∧ (u142.1 0 312).toInt ≤ 500 from (om_71b86c5b34 i312114 q148 q149 q150 q151 q152 q153)), (show 0 ≤ (u142.1 0 321).toInt ∧ (u142.1 0 321).toInt ≤ 501 from (om_69473c0e90 i321114 q154 q155 q156 q157 q158 q159)), (show 0 ≤ (u142.1 0 326).toInt ∧ (u142.1 0 326).toInt ≤ 420 from (om_49eb06c282 i326114 q160 q161 q162 q163 q164 q165)), (show 0 ≤ (u142.1 0 381).toInt ∧ (u142.1 0 381).toInt ≤ 3008 from (om_6e4eb11ad3 i381135 q166)), (show (u142.1 0 306).toInt = (v.1 0 306).toInt from (om_321f4e7075 q28 q29 q30 q31 po34 q70 q71 q72 q73 q74 pj76 po114 q122 pj123 q144 q145 q146 q147))⟩, ⟨by rw [ht9]; exact hP, hD⟩, by rw [ht9]; exact hz⟩, hS.F ht9⟩) hS.2.2 dX5_functionItem_235
  · have z167 : (40 : Int) ≤ (v.1 0 375).toInt := nlt_z rfl (show (40 : Int32).toInt = (40 : Int) by decide) h1
    refine lv_aload_n hx hb dX5_functionItem_14 rfl (lv_at hl 1 rfl) ?_
    refine va_get (D := (dC, dI)) (ci := 8) (fs := oF_X5 ad pr v) (v := .ref (ad 900)) (C := RX5) (T := TX5) (N := 7) hx hb ht itX5 hown hK hP 3 rfl rfl 1 (by decide) (ht _ tw_571) (fun _ h9 => h9) rfl dX5_functionItem_15 ?_
    refine lv_iconst (v := 5) hx hb dX5_functionItem_18 (by decide) ?_
    refine lv_aload_n hx hb dX5_functionItem_19 rfl (lv_at hl 1 rfl) ?_
    refine va_get (D := (dC, dI)) (ci := 8) (fs := oF_X5 ad pr v) (v := .ref (ad 900)) (C := RX5) (T := TX5) (N := 7) hx hb ht itX5 hown hK hP 3 rfl rfl 1 (by decide) (ht _ tw_571) (fun _ h9 => h9) rfl dX5_functionItem_20 ?_
    refine cu_i (rn_Vk (n := 0) (As := []) (rest := [.int 5, .ref (ad 900)]) hx hb hml hown ht hKK hFx hP hD hS hA (c_x_X9_place l dC dI cI cB cZ cJ cR tb s.heap.size ad pr N L1 L2 v ps (show 0 ≤ (v.1 0 304).toInt ∧ (v.1 0 304).toInt ≤ 1503 from (om_c99648273b z304)) (show 0 ≤ (v.1 0 373).toInt ∧ (v.1 0 373).toInt ≤ 4000 from (om_c74a68af25 z373)) (show pr ps = ad 908 from hps) (show (v.1 0 300) = ps from es300)) tw_457 tw_577 (by decide +kernel) rfl rfl ⟨show 0 + 1 ≤ 8 * n + 60 from om_6cd7f5accb, show 8 + (1 + 11) + 0 ≤ 28 * (8 * n + 60) from om_a4148e048f⟩ (List.range (cW ad pr N cI cR L1 L2 v).length) (rg_map _) (nd_range _) 0 rfl rfl rfl rfl hl.1 rfl (Nat.le_of_ble_eq_true rfl) dX5_functionItem_23 ⟨Nat.le_of_ble_eq_true rfl, Nat.le_of_ble_eq_true rfl⟩) hP hD hS hA (fun r170 u169 H locs hw168 hP hD hS => ?_)
    obtain rfl := hw168
    refine W.widen (k := 0) (n := 0) (Nat.le_refl _) (Nat.le_refl _) ?_
    refine W.sz (fun hz9 => ?_)
    refine czx_v (rx_Vk (n := 2) (As := [.int 5, .int r170]) (rest := []) hx hb hml hown ht hKK hFx hP hD hS hA (c_x_X9_refuse l dC dI cI cB cZ cJ cR tb H.size ad pr N L1 L2 v (5 : Int32) r170 (show l.stackTraces = false from hst) (show (5 : Int) ≠ 0 from om_5e02973d50)) tw_459 tw_578 (by decide +kernel) rfl rfl ⟨show 6 + 1 ≤ 8 * n + 60 from om_9c1f652f1f, show 8 + (3 + 11) + 82 ≤ 28 * (8 * n + 60) from om_f5eaba8d50⟩ (List.range (cW ad pr N cI cR L1 L2 v).length) (rg_map _) (nd_range _) 0 rfl rfl rfl rfl hl.1 rfl (Nat.le_of_ble_eq_true rfl) dX5_functionItem_26 ⟨Nat.le_of_ble_eq_true rfl, Nat.le_of_ble_eq_true rfl⟩) hP hD hS hA (fun u9 ce9 q9 H locs hx9 hP hD hS hc9 hv9 hf9 => ?_) (fun u172 H locs hw171 hP hD hS hz8 => ?_)
    · exact vx_out (fun x h9 => (hnt x h9).elim) hlocks hc9 hv9 hf9 (fun t9 ht9 hv8 => ⟨u9, ⟨FC.tr (FC.rf _) hx9.1, hx9.2⟩, ⟨rfl, by rw [ht9]; exact hP, hD⟩, hS.F ht9⟩) hS.2.2 (Nat.le_refl _) (Nat.le_refl _)
    refine W.shrink (hz8.trans hz9) ?_
    obtain ⟨fr171, no171⟩ := hw171
    exact no171.elim
theorem om_cfbc336d79 : 7 + 1 ≤ 500 := by omega
theorem om_8bfde154cb : 8 + (4 + 11) + 159 ≤ 28 * (500) := by omega
theorem om_4880b7483e : 1 + 1 ≤ 500 := by omega
theorem om_8fafad80da : 8 + (2 + 11) + 20 ≤ 28 * (500) := by omega
theorem om_404f7b0ef9 : 0 + 1 ≤ 500 := by omega
theorem om_9f2f60f481 : 8 + (1 + 11) + 0 ≤ 28 * (500) := by omega
theorem om_53a223757f : 8 + (2 + 11) + 104 ≤ 28 * (500) := by omega
theorem om_24c97a3866 : 3 + 1 ≤ 500 := by omega
theorem om_1259bc772a : 8 + (4 + 11) + 65 ≤ 28 * (500) := by omega
theorem om_4a78c3fccd : 8 + 1 ≤ 500 := by omega
theorem om_4f277b277a : 8 + (2 + 11) + 125 ≤ 28 * (500) := by omega
theorem om_6fe5752e9f : 9 + 1 ≤ 500 := by omega
theorem om_93eb2bc395 : 8 + (5 + 11) + 147 ≤ 28 * (500) := by omega
theorem om_9c9cf769b7 {x0 x1 : Int} (h0 : 0 ≤ x0 ∧ x0 ≤ 40) (h1 : x1 = x0) : 40 ≤ x1 + (40 : Int) := by omega
theorem om_a174ec34a4 : (380) + 1 ≤ 500 := by omega
theorem om_2d04e4ba9c : 8 + (2 + 11) + 28 * (380) ≤ 28 * (500) := by omega
set_option maxHeartbeats 16000000 in
set_option maxRecDepth 100000 in
theorem c_x_X5_readText (l : Launch) (dC : Nat → ClassId) (dI : Nat → Nat → Nat) (cI cB cZ cJ cR : ClassId) (tb : Nat → Nat) (sz : Nat) (ad : Nat → Nat) (pr : Int32 → Nat) (N : Nat) (L1 L2 : List Nat) (v : MS) (ps : Int32) (hL1 : L1.length = 40) (hL2 : L2.length = 60) (rp : RP v) (hps : pr ps = ad 908) (hst : l.stackTraces = false) (z373 : 0 ≤ (v.1 0 373).toInt ∧ (v.1 0 373).toInt ≤ 4000) : vx_Met l yX5_readText (Cond.code yX5_readText cX5_readText 4 none :: tw_W) ({ frames := 500, cells := 1, slots := 6, locals := 28 * (500) }) (pc_ (dC, dI) (tyS cI cB cZ cJ cR) tb (cW ad pr N cI cR L1 L2 v) sz [.ref (ad 903), .ref (pr ps)]) (qvz_ (dC, dI) (cW ad pr N cI cR L1 L2 v) sz (fun (u : MS) => FC [300, 304, 305, 306, 307, 308, 309, 310, 312, 313, 314, 315, 317, 321, 326, 327, 331, 332, 333, 375, 377, 381, 383, 384] [0, 301, 302, 303, 311, 316, 318, 319, 320, 324, 325, 378, 379, 380] v u ∧ (0 ≤ (u.1 0 304).toInt ∧ (u.1 0 304).toInt ≤ 1503) ∧ (0 ≤ (u.1 0 306).toInt ∧ (u.1 0 306).toInt ≤ 40) ∧ (0 ≤ (u.1 0 321).toInt ∧ (u.1 0 321).toInt ≤ 501) ∧ (0 ≤ (u.1 0 326).toInt ∧ (u.1 0 326).toInt ≤ 420) ∧ (0 ≤ (u.1 0 381).toInt ∧ (u.1 0 381).toInt ≤ 3008)) (fun (u : MS) => (cW ad pr N cI cR L1 L2 u))) (qxc (dC, dI) (cW ad pr N cI cR L1 L2 v) sz (fun (u : MS) => (cW ad pr N cI cR L1 L2 u)) (fun (u : MS) => FC xfl xal v u ∧ (u.1 0 308).toInt ≠ 0)) 1 6 (va_A (cW ad pr N cI cR L1 L2 v) sz) := by
  refine vx_ofW (cc := cX5_readText) (maxL := 4) (ret := none) (by decide) rfl ?_
  intro p e s m args below meth c s₁ B hml hnt hv
  obtain ⟨rfl, hsz, hP, hKK, hD0, hFx⟩ := hv
  have hK := hKK.1
  have hx := B.exec
  have hb := B.bytes
  have hr := B.returns
  have ht : ∀ w ∈ tw_W, w.before _ s = true := fun w h => atoms_spec (ws := Cond.code yX5_readText cX5_readText 4 none :: tw_W) B.pre w (List.mem_cons_of_mem _ h)
  have hown : s.vm.findClass RX5 = some m.cls := findClass_of_methodNamed B.named
  have hlocks := B.notSynchronized
  subst hsz
  unfold qvz_ qxc
  have hD := hD0.self (sz := s.heap.size)
  generalize hAe : va_A (cW ad pr N cI cR L1 L2 v) s.heap.size = A at hD hFx ⊢
  have hA : ∀ q : Nat, s.heap.size ≤ q → A q := fun q h => by rw [← hAe]; exact Or.inr h
  have hS : va_S A s.heap s.heap [] := va_S.rf
  have hl := lv_entry ([.ref (ad 903), .ref (pr ps)]) (n := 4) (Nat.le_of_ble_eq_true rfl)
  rw [lg_entry_eq]
  generalize (lg_sl ([.ref (ad 903), .ref (pr ps)]) ++ List.replicate (4 - (lg_sl ([.ref (ad 903), .ref (pr ps)])).length) Slot.unset).toArray = ls at hl ⊢
  have hl : lv_has ls 4 [(0, .ref (ad 903)), (1, .ref (pr ps))] := hl
  refine lv_aload_n hx hb dX5_readText_0 rfl (lv_at hl 0 rfl) ?_
  refine lv_aload_n hx hb dX5_readText_1 rfl (lv_at hl 1 rfl) ?_
  refine va_put (D := (dC, dI)) (ci := 8) (fs := oF_X5 ad pr v) (v := .ref (pr ps)) (ty := .object "PocketCompiler$Program") (C := RX5) (T := TX5) (N := 7) hx hb ht itX5 tyX5 tyX5_ok nmX5 hown hK hP hD hS 3 rfl rfl 0 (by decide) (ht _ tw_588) (fun _ h9 => h9) rfl (by decide +kernel) rfl rfl (Nat.le_of_ble_eq_true rfl) dX5_readText_2 (fun H locs hP hD hS => ?_)
  have hP := cP_ (cw_327 ad pr N cI cR L1 L2 v ps) hP
  have hD := cD_ (cw_327 ad pr N cI cR L1 L2 v ps) hD
  refine lv_aload_n hx hb dX5_readText_5 rfl (lv_at hl 0 rfl) ?_
  refine va_get (D := (dC, dI)) (ci := 8) (fs := oF_X5 ad pr (wA v 0 327 ps)) (v := .ref (ad 900)) (C := RX5) (T := TX5) (N := 7) hx hb ht itX5 hown hK hP 3 rfl rfl 1 (by decide) (ht _ tw_571) (fun _ h9 => h9) rfl dX5_readText_6 ?_
  refine lv_aload_n hx hb dX5_readText_9 rfl (lv_at hl 1 rfl) ?_
  refine cu_v (rn_Vk (n := 1) (As := [.ref (pr ps)]) (rest := []) hx hb hml hown ht hKK hFx hP hD hS hA (c_x_X9_scan l dC dI cI cB cZ cJ cR tb H.size ad pr N L1 L2 (wA v 0 327 ps) ps (show pr ps = ad 908 from hps) (show 0 ≤ (v.1 0 373).toInt ∧ (v.1 0 373).toInt ≤ 4000 from (om_c74a68af25 z373))) tw_654 tw_655 (by decide +kernel) rfl rfl ⟨show 7 + 1 ≤ 500 from om_cfbc336d79, show 8 + (4 + 11) + 159 ≤ 28 * (500) from om_8bfde154cb⟩ (List.range (cW ad pr N cI cR L1 L2 (wA v 0 327 ps)).length) (rg_map _) (nd_range _) 0 rfl rfl rfl rfl hl.1 rfl (Nat.le_of_ble_eq_true rfl) dX5_readText_10 ⟨Nat.le_of_ble_eq_true rfl, Nat.le_of_ble_eq_true rfl⟩) hP hD hS hA (fun u2 H locs hw1 hP hD hS => ?_)
  obtain ⟨fr1, i3041, i3061, sl1⟩ := hw1
  have i3041 : 0 ≤ (u2.1 0 304).toInt ∧ (u2.1 0 304).toInt ≤ 1503 := i3041
  have i3061 : 0 ≤ (u2.1 0 306).toInt ∧ (u2.1 0 306).toInt ≤ 40 := i3061
  have sl1 : u2.1 0 300 = ps := sl1
  refine W.widen (k := 0) (n := 0) (Nat.le_refl _) (Nat.le_refl _) ?_
  refine lv_aload_n hx hb dX5_readText_13 rfl (lv_at hl 0 rfl) ?_
  refine va_get (D := (dC, dI)) (ci := 8) (fs := oF_X5 ad pr u2) (v := .ref (ad 901)) (C := RX5) (T := TX5) (N := 7) hx hb ht itX5 hown hK hP 3 rfl rfl 2 (by decide) (ht _ tw_573) (fun _ h9 => h9) rfl dX5_readText_14 ?_
  refine lv_aload_n hx hb dX5_readText_17 rfl (lv_at hl 1 rfl) ?_
  refine cu_v (rn_Vk (n := 1) (As := [.ref (pr ps)]) (rest := []) hx hb hml hown ht hKK hFx hP hD hS hA (c_x_X1_begin l dC dI cI cB cZ cJ cR tb H.size ad pr N L1 L2 u2 ps (show pr ps = ad 908 from hps)) tw_656 tw_657 (by decide +kernel) rfl rfl ⟨show 1 + 1 ≤ 500 from om_4880b7483e, show 8 + (2 + 11) + 20 ≤ 28 * (500) from om_8fafad80da⟩ (List.range (cW ad pr N cI cR L1 L2 u2).length) (rg_map _) (nd_range _) 1 rfl rfl rfl rfl hl.1 rfl (Nat.le_of_ble_eq_true rfl) dX5_readText_18 ⟨Nat.le_of_ble_eq_true rfl, Nat.le_of_ble_eq_true rfl⟩) hP hD hS hA (fun u5 H locs hw4 hP hD hS => ?_)
  obtain ⟨fr4, i3214, i3814, sl3104⟩ := hw4
  have i3214 : 0 ≤ (u5.1 0 321).toInt ∧ (u5.1 0 321).toInt ≤ 501 := i3214
  have i3814 : 0 ≤ (u5.1 0 381).toInt ∧ (u5.1 0 381).toInt ≤ 3008 := i3814
  have sl3104 : u5.1 0 310 = ps := sl3104
  refine W.widen (k := 0) (n := 0) (Nat.le_refl _) (Nat.le_refl _) ?_
  refine lv_aload_n hx hb dX5_readText_21 rfl (lv_at hl 0 rfl) ?_
  refine va_get (D := (dC, dI)) (ci := 8) (fs := oF_X5 ad pr u5) (v := .ref (ad 902)) (C := RX5) (T := TX5) (N := 7) hx hb ht itX5 hown hK hP 3 rfl rfl 3 (by decide) (ht _ tw_608) (fun _ h9 => h9) rfl dX5_readText_22 ?_
  refine cu_v (rn_Vk (n := 0) (As := []) (rest := []) hx hb hml hown ht hKK hFx hP hD hS hA (c_x_X2_begin l dC dI cI cB cZ cJ cR tb H.size ad pr N L1 L2 u5  ) tw_658 tw_659 (by decide +kernel) rfl rfl ⟨show 0 + 1 ≤ 500 from om_404f7b0ef9, show 8 + (1 + 11) + 0 ≤ 28 * (500) from om_9f2f60f481⟩ (List.range (cW ad pr N cI cR L1 L2 u5).length) (rg_map _) (nd_range _) 2 rfl rfl rfl rfl hl.1 rfl (Nat.le_of_ble_eq_true rfl) dX5_readText_25 ⟨Nat.le_of_ble_eq_true rfl, Nat.le_of_ble_eq_true rfl⟩) hP hD hS hA (fun u8 H locs hw7 hP hD hS => ?_)
  obtain ⟨fr7, i3267⟩ := hw7
  have i3267 : 0 ≤ (u8.1 0 326).toInt ∧ (u8.1 0 326).toInt ≤ 420 := i3267
  refine W.widen (k := 0) (n := 0) (Nat.le_refl _) (Nat.le_refl _) ?_
  refine lv_iconst (v := 0) hx hb dX5_readText_28 (by decide) ?_
  refine lv_istore_n (lv' := [(2, .int 0), (0, .ref (ad 903)), (1, .ref (pr ps))]) hx hb dX5_readText_29 rfl hl (by decide) rfl (fun ls hl => ?_)
  have q10 : (u5.1 0 304).toInt = (u2.1 0 304).toInt := congrArg Int32.toInt ((fr4.2.1 304 (by decide)).trans (show u2.1 0 304 = (u2.1 0 304) by rfl))
  have q11 : (u8.1 0 304).toInt = (u5.1 0 304).toInt := congrArg Int32.toInt ((fr7.2.1 304 (by decide)).trans (show u5.1 0 304 = (u5.1 0 304) by rfl))
  have q12 : (u5.1 0 306).toInt = (u2.1 0 306).toInt := congrArg Int32.toInt ((fr4.2.1 306 (by decide)).trans (show u2.1 0 306 = (u2.1 0 306) by rfl))
  have q13 : (u8.1 0 306).toInt = (u5.1 0 306).toInt := congrArg Int32.toInt ((fr7.2.1 306 (by decide)).trans (show u5.1 0 306 = (u5.1 0 306) by rfl))
  have q14 : (u8.1 0 321).toInt = (u5.1 0 321).toInt := congrArg Int32.toInt ((fr7.2.1 321 (by decide)).trans (show u5.1 0 321 = (u5.1 0 321) by rfl))
  have q15 : (u8.1 0 381).toInt = (u5.1 0 381).toInt := congrArg Int32.toInt ((fr7.2.1 381 (by decide)).trans (show u5.1 0 381 = (u5.1 0 381) by rfl))
  refine lpm_ (X := Int32 × MS) (P := (fun (x9 : Int32 × MS) (H : Heap) (locs : List Loc) (ls : Array Slot) => (FC [300, 304, 305, 306, 307, 308, 309, 310, 312, 313, 314, 315, 317, 321, 326, 327, 331, 332, 333, 375, 377, 381, 383, 384] [0, 301, 302, 303, 311, 316, 318, 319, 320, 324, 325, 378, 379, 380] v x9.2) ∧ (0 ≤ (x9.2.1 0 304).toInt ∧ (x9.2.1 0 304).toInt ≤ 1503) ∧ (0 ≤ (x9.2.1 0 306).toInt ∧ (x9.2.1 0 306).toInt ≤ 40) ∧ (0 ≤ (x9.2.1 0 321).toInt ∧ (x9.2.1 0 321).toInt ≤ 501) ∧ (0 ≤ (x9.2.1 0 326).toInt ∧ (x9.2.1 0 326).toInt ≤ 420) ∧ (0 ≤ (x9.2.1 0 381).toInt ∧ (x9.2.1 0 381).toInt ≤ 3008) ∧ (0 ≤ x9.1.toInt ∧ x9.1.toInt ≤ 1500) ∧ ((x9.2.1 0 300) = ps) ∧ ((x9.2.1 0 310) = ps) ∧ ((x9.2.1 0 327) = ps) ∧ va_P (dC, dI) vwCl (cW ad pr N cI cR L1 L2 x9.2) H ∧ va_D A (cW ad pr N cI cR L1 L2 x9.2) ∧ va_S A s.heap H locs ∧ lv_has ls 4 [(2, .int x9.1), (0, .ref (ad 903)), (1, .ref (pr ps))])) (fun x9 => (1500 - x9.1.toInt).toNat) 30 (fun x9 H locs ls hh ih30 => ?_) (0, u8) _ _ _ ⟨(show FC [300, 304, 305, 306, 307, 308, 309, 310, 312, 313, 314, 315, 317, 321, 326, 327, 331, 332, 333, 375, 377, 381, 383, 384] [0, 301, 302, 303, 311, 316, 318, 319, 320, 324, 325, 378, 379, 380] v u8 from (FC.tr (FC.tr (FC.tr (FC.f (FC.rf _) ps (by decide)) (FC.up fr1 (by decide) (by decide))) (FC.up fr4 (by decide) (by decide))) (FC.up fr7 (by decide) (by decide)))), (show 0 ≤ (u8.1 0 304).toInt ∧ (u8.1 0 304).toInt ≤ 1503 from (om_dd87ee851a i3041 q10 q11)), (show 0 ≤ (u8.1 0 306).toInt ∧ (u8.1 0 306).toInt ≤ 40 from (om_68f540929a i3061 q12 q13)), (show 0 ≤ (u8.1 0 321).toInt ∧ (u8.1 0 321).toInt ≤ 501 from (om_ff27494c0e i3214 q14)), (show 0 ≤ (u8.1 0 326).toInt ∧ (u8.1 0 326).toInt ≤ 420 from (om_839d7ed7dd i3267)), (show 0 ≤ (u8.1 0 381).toInt ∧ (u8.1 0 381).toInt ≤ 3008 from (om_6e4eb11ad3 i3814 q15)), (show 0 ≤ (0 : Int) ∧ (0 : Int) ≤ 1500 from om_b1c23a1f42), (show (u8.1 0 300) = ps from (Eq.trans (fr7.2.1 300 (by decide)) (Eq.trans (fr4.2.1 300 (by decide)) sl1))), (show (u8.1 0 310) = ps from (Eq.trans (fr7.2.1 310 (by decide)) sl3104)), (show (u8.1 0 327) = ps from (Eq.trans (fr7.2.1 327 (by decide)) (Eq.trans (fr4.2.1 327 (by decide)) (fr1.2.1 327 (by decide))))), hP, hD, hS, lv_sub hl [0, 1, 2] rfl⟩
  obtain ⟨ka, w30⟩ := x9
  obtain ⟨fwL30, i304L30, i306L30, i321L30, i326L30, i381L30, f1L30, slL30, sl310L30, sl327L30, hP, hD, hS, hl⟩ := hh
  have fwL30 : FC [300, 304, 305, 306, 307, 308, 309, 310, 312, 313, 314, 315, 317, 321, 326, 327, 331, 332, 333, 375, 377, 381, 383, 384] [0, 301, 302, 303, 311, 316, 318, 319, 320, 324, 325, 378, 379, 380] v w30 := fwL30
  have i304L30 : 0 ≤ (w30.1 0 304).toInt ∧ (w30.1 0 304).toInt ≤ 1503 := i304L30
  have i306L30 : 0 ≤ (w30.1 0 306).toInt ∧ (w30.1 0 306).toInt ≤ 40 := i306L30
  have i321L30 : 0 ≤ (w30.1 0 321).toInt ∧ (w30.1 0 321).toInt ≤ 501 := i321L30
  have i326L30 : 0 ≤ (w30.1 0 326).toInt ∧ (w30.1 0 326).toInt ≤ 420 := i326L30
  have i381L30 : 0 ≤ (w30.1 0 381).toInt ∧ (w30.1 0 381).toInt ≤ 3008 := i381L30
  have f1L30 : 0 ≤ ka.toInt ∧ ka.toInt ≤ 1500 := f1L30
  have slL30 : (w30.1 0 300) = ps := slL30
  have sl310L30 : (w30.1 0 310) = ps := sl310L30
  have sl327L30 : (w30.1 0 327) = ps := sl327L30
  have hP : va_P (dC, dI) vwCl (cW ad pr N cI cR L1 L2 w30) H := hP
  have hD : va_D A (cW ad pr N cI cR L1 L2 w30) := hD
  have hl : lv_has ls 4 [(2, .int ka), (0, .ref (ad 903)), (1, .ref (pr ps))] := hl
  refine lv_iload_n hx hb dX5_readText_30 rfl (lv_at hl 0 rfl) ?_
  refine lv_sipush (v := 1500) hx hb dX5_readText_31 (by decide) ?_
  refine lv_icmp_ge (tgt := 76) hx hb dX5_readText_34 (by decide) (fun h16 => ?_) (fun h16 => ?_)
  · have z17 : (1500 : Int) ≤ ka.toInt := le_z (show (1500 : Int32).toInt = (1500 : Int) by decide) rfl h16
    refine lv_aload_n hx hb dX5_readText_76 rfl (lv_at hl 1 rfl) ?_
    refine W.sz (fun hz9 => ?_)
    refine czx_v (rx_Vk (n := 0) (As := []) (rest := []) hx hb hml hown ht hKK hFx hP hD hS hA (c_x_X5_checkCalls l dC dI cI cB cZ cJ cR tb H.size ad pr N L1 L2 w30 ps (show 0 ≤ (w30.1 0 321).toInt ∧ (w30.1 0 321).toInt ≤ 501 from (om_e1d35f5faf i321L30)) (show L1.length = 40 from hL1) (show L2.length = 60 from hL2) (show RP w30 from ((show FC [300, 304, 305, 306, 307, 308, 309, 310, 312, 313, 314, 315, 317, 321, 326, 327, 331, 332, 333, 375, 377, 381, 383, 384] [0, 301, 302, 303, 311, 316, 318, 319, 320, 324, 325, 378, 379, 380] v w30 from (FC.tr (FC.rf _) (FC.up fwL30 (by decide) (by decide)))).1 rp)) (show pr ps = ad 908 from hps) (show (w30.1 0 310) = ps from sl310L30) (show l.stackTraces = false from hst)) tw_660 tw_661 (by decide +kernel) rfl rfl ⟨show 7 + 1 ≤ 500 from om_cfbc336d79, show 8 + (2 + 11) + 104 ≤ 28 * (500) from om_53a223757f⟩ (List.range (cW ad pr N cI cR L1 L2 w30).length) (rg_map _) (nd_range _) 3 rfl rfl rfl rfl hl.1 rfl (Nat.le_of_ble_eq_true rfl) dX5_readText_77 ⟨Nat.le_of_ble_eq_true rfl, Nat.le_of_ble_eq_true rfl⟩) hP hD hS hA (fun u9 ce9 q9 H locs hx9 hP hD hS hc9 hv9 hf9 => ?_) (fun u19 H locs hw18 hP hD hS hz8 => ?_)
    · exact vx_out (fun x h9 => (hnt x h9).elim) hlocks hc9 hv9 hf9 (fun t9 ht9 hv8 => ⟨u9, ⟨FC.tr (FC.tr (FC.rf _) (FC.up fwL30 (by decide) (by decide))) hx9.1, hx9.2⟩, ⟨rfl, by rw [ht9]; exact hP, hD⟩, hS.F ht9⟩) hS.2.2 (Nat.le_refl _) (Nat.le_refl _)
    refine W.shrink (hz8.trans hz9) ?_
    have fr18 := hw18
    refine lv_aload_n hx hb dX5_readText_80 rfl (lv_at hl 1 rfl) ?_
    refine va_get (D := (dC, dI)) (ci := 8) (fs := oF_X5 ad pr u19) (v := .ref (ad 901)) (C := RX5) (T := TX5) (N := 7) hx hb ht itX5 hown hK hP 3 rfl rfl 2 (by decide) (ht _ tw_573) (fun _ h9 => h9) rfl dX5_readText_81 ?_
    have q21 : (u19.1 0 321).toInt = (w30.1 0 321).toInt := congrArg Int32.toInt ((fr18.2.1 321 (by decide)).trans (show w30.1 0 321 = (w30.1 0 321) by rfl))
    have q22 : (u19.1 0 381).toInt = (w30.1 0 381).toInt := congrArg Int32.toInt ((fr18.2.1 381 (by decide)).trans (show w30.1 0 381 = (w30.1 0 381) by rfl))
    refine cu_v (rn_Vk (n := 0) (As := []) (rest := []) hx hb hml hown ht hKK hFx hP hD hS hA (c_x_X1_link l dC dI cI cB cZ cJ cR tb H.size ad pr N L1 L2 u19 ps (show 0 ≤ (u19.1 0 321).toInt ∧ (u19.1 0 321).toInt ≤ 501 from (om_ff27494c0e i321L30 q21)) (show 0 ≤ (u19.1 0 381).toInt ∧ (u19.1 0 381).toInt ≤ 3008 from (om_6e4eb11ad3 i381L30 q22)) (show L1.length = 40 from hL1) (show L2.length = 60 from hL2) (show RP u19 from ((show FC [300, 304, 305, 306, 307, 308, 309, 310, 312, 313, 314, 315, 317, 321, 326, 327, 331, 332, 333, 375, 377, 381, 383, 384] [0, 301, 302, 303, 311, 316, 318, 319, 320, 324, 325, 378, 379, 380] v u19 from (FC.tr (FC.tr (FC.rf _) (FC.up fwL30 (by decide) (by decide))) (FC.up fr18 (by decide) (by decide)))).1 rp)) (show pr ps = ad 908 from hps) (show (u19.1 0 310) = ps from (Eq.trans (fr18.2.1 310 (by decide)) sl310L30))) tw_662 tw_663 (by decide +kernel) rfl rfl ⟨show 3 + 1 ≤ 500 from om_24c97a3866, show 8 + (4 + 11) + 65 ≤ 28 * (500) from om_1259bc772a⟩ (List.range (cW ad pr N cI cR L1 L2 u19).length) (rg_map _) (nd_range _) 1 rfl rfl rfl rfl hl.1 rfl (Nat.le_of_ble_eq_true rfl) dX5_readText_84 ⟨Nat.le_of_ble_eq_true rfl, Nat.le_of_ble_eq_true rfl⟩) hP hD hS hA (fun u24 H locs hw23 hP hD hS => ?_)
    have fr23 := hw23
    refine W.widen (k := 0) (n := 0) (Nat.le_refl _) (Nat.le_refl _) ?_
    have q26 : (u19.1 0 304).toInt = (w30.1 0 304).toInt := congrArg Int32.toInt ((fr18.2.1 304 (by decide)).trans (show w30.1 0 304 = (w30.1 0 304) by rfl))
    have q27 : (u24.1 0 304).toInt = (u19.1 0 304).toInt := congrArg Int32.toInt ((fr23.2.1 304 (by decide)).trans (show u19.1 0 304 = (u19.1 0 304) by rfl))
    have q28 : (u19.1 0 306).toInt = (w30.1 0 306).toInt := congrArg Int32.toInt ((fr18.2.1 306 (by decide)).trans (show w30.1 0 306 = (w30.1 0 306) by rfl))
    have q29 : (u24.1 0 306).toInt = (u19.1 0 306).toInt := congrArg Int32.toInt ((fr23.2.1 306 (by decide)).trans (show u19.1 0 306 = (u19.1 0 306) by rfl))
    have q30 : (u24.1 0 321).toInt = (u19.1 0 321).toInt := congrArg Int32.toInt ((fr23.2.1 321 (by decide)).trans (show u19.1 0 321 = (u19.1 0 321) by rfl))
    have q31 : (u19.1 0 326).toInt = (w30.1 0 326).toInt := congrArg Int32.toInt ((fr18.2.1 326 (by decide)).trans (show w30.1 0 326 = (w30.1 0 326) by rfl))
    have q32 : (u24.1 0 326).toInt = (u19.1 0 326).toInt := congrArg Int32.toInt ((fr23.2.1 326 (by decide)).trans (show u19.1 0 326 = (u19.1 0 326) by rfl))
    have q33 : (u24.1 0 381).toInt = (u19.1 0 381).toInt := congrArg Int32.toInt ((fr23.2.1 381 (by decide)).trans (show u19.1 0 381 = (u19.1 0 381) by rfl))
    refine W.sz (fun hz => ?_)
    refine vx_ret ?_
    refine W.widen (k := 1) (n := 6) (Nat.le_of_ble_eq_true rfl) (Nat.le_of_ble_eq_true rfl) ?_
    exact W.vret hx hb hr (fun t ht9 hW => ⟨⟨u24, rfl, ⟨(FC.tr (FC.tr (FC.tr (FC.rf _) (FC.up fwL30 (by decide) (by decide))) (FC.up fr18 (by decide) (by decide))) (FC.up fr23 (by decide) (by decide))), (show 0 ≤ (u24.1 0 304).toInt ∧ (u24.1 0 304).toInt ≤ 1503 from (om_dd87ee851a i304L30 q26 q27)), (show 0 ≤ (u24.1 0 306).toInt ∧ (u24.1 0 306).toInt ≤ 40 from (om_68f540929a i306L30 q28 q29)), (show 0 ≤ (u24.1 0 321).toInt ∧ (u24.1 0 321).toInt ≤ 501 from (om_4dfa815534 i321L30 q21 q30)), (show 0 ≤ (u24.1 0 326).toInt ∧ (u24.1 0 326).toInt ≤ 420 from (om_9591dea625 i326L30 q31 q32)), (show 0 ≤ (u24.1 0 381).toInt ∧ (u24.1 0 381).toInt ≤ 3008 from (om_769192f2a4 i381L30 q22 q33))⟩, ⟨by rw [ht9]; exact hP, hD⟩, by rw [ht9]; exact hz⟩, hS.F ht9⟩) hS.2.2 dX5_readText_87
  · have z34 : ka.toInt < (1500 : Int) := nle_z (show (1500 : Int32).toInt = (1500 : Int) by decide) rfl h16
    refine lv_aload_n hx hb dX5_readText_37 rfl (lv_at hl 1 rfl) ?_
    refine va_get (D := (dC, dI)) (ci := 8) (fs := oF_X5 ad pr w30) (v := .ref (ad 900)) (C := RX5) (T := TX5) (N := 7) hx hb ht itX5 hown hK hP 3 rfl rfl 1 (by decide) (ht _ tw_571) (fun _ h9 => h9) rfl dX5_readText_38 ?_
    refine cu_i (rn_Vk (n := 0) (As := []) (rest := []) hx hb hml hown ht hKK hFx hP hD hS hA (c_x_X9_kind l dC dI cI cB cZ cJ cR tb H.size ad pr N L1 L2 w30  (show 0 ≤ (w30.1 0 304).toInt ∧ (w30.1 0 304).toInt ≤ 1503 from (om_c99648273b i304L30))) tw_455 tw_594 (by decide +kernel) rfl rfl ⟨show 0 + 1 ≤ 500 from om_404f7b0ef9, show 8 + (1 + 11) + 0 ≤ 28 * (500) from om_9f2f60f481⟩ (List.range (cW ad pr N cI cR L1 L2 w30).length) (rg_map _) (nd_range _) 0 rfl rfl rfl rfl hl.1 rfl (Nat.le_of_ble_eq_true rfl) dX5_readText_41 ⟨Nat.le_of_ble_eq_true rfl, Nat.le_of_ble_eq_true rfl⟩) hP hD hS hA (fun r37 u36 H locs hw35 hP hD hS => ?_)
    obtain rfl := hw35
    refine W.widen (k := 0) (n := 0) (Nat.le_refl _) (Nat.le_refl _) ?_
    refine lv_if_eq (tgt := 76) hx hb dX5_readText_44 (by decide) (fun h38 => ?_) (fun h38 => ?_)
    · have z39 : r37.toInt = (0 : Int) := eq_z rfl (show (0 : Int32).toInt = (0 : Int) by decide) h38
      refine lv_aload_n hx hb dX5_readText_76 rfl (lv_at hl 1 rfl) ?_
      refine W.sz (fun hz9 => ?_)
      refine czx_v (rx_Vk (n := 0) (As := []) (rest := []) hx hb hml hown ht hKK hFx hP hD hS hA (c_x_X5_checkCalls l dC dI cI cB cZ cJ cR tb H.size ad pr N L1 L2 w30 ps (show 0 ≤ (w30.1 0 321).toInt ∧ (w30.1 0 321).toInt ≤ 501 from (om_e1d35f5faf i321L30)) (show L1.length = 40 from hL1) (show L2.length = 60 from hL2) (show RP w30 from ((show FC [300, 304, 305, 306, 307, 308, 309, 310, 312, 313, 314, 315, 317, 321, 326, 327, 331, 332, 333, 375, 377, 381, 383, 384] [0, 301, 302, 303, 311, 316, 318, 319, 320, 324, 325, 378, 379, 380] v w30 from (FC.tr (FC.rf _) (FC.up fwL30 (by decide) (by decide)))).1 rp)) (show pr ps = ad 908 from hps) (show (w30.1 0 310) = ps from sl310L30) (show l.stackTraces = false from hst)) tw_660 tw_661 (by decide +kernel) rfl rfl ⟨show 7 + 1 ≤ 500 from om_cfbc336d79, show 8 + (2 + 11) + 104 ≤ 28 * (500) from om_53a223757f⟩ (List.range (cW ad pr N cI cR L1 L2 w30).length) (rg_map _) (nd_range _) 3 rfl rfl rfl rfl hl.1 rfl (Nat.le_of_ble_eq_true rfl) dX5_readText_77 ⟨Nat.le_of_ble_eq_true rfl, Nat.le_of_ble_eq_true rfl⟩) hP hD hS hA (fun u9 ce9 q9 H locs hx9 hP hD hS hc9 hv9 hf9 => ?_) (fun u41 H locs hw40 hP hD hS hz8 => ?_)
      · exact vx_out (fun x h9 => (hnt x h9).elim) hlocks hc9 hv9 hf9 (fun t9 ht9 hv8 => ⟨u9, ⟨FC.tr (FC.tr (FC.rf _) (FC.up fwL30 (by decide) (by decide))) hx9.1, hx9.2⟩, ⟨rfl, by rw [ht9]; exact hP, hD⟩, hS.F ht9⟩) hS.2.2 (Nat.le_refl _) (Nat.le_refl _)
      refine W.shrink (hz8.trans hz9) ?_
      have fr40 := hw40
      refine lv_aload_n hx hb dX5_readText_80 rfl (lv_at hl 1 rfl) ?_
      refine va_get (D := (dC, dI)) (ci := 8) (fs := oF_X5 ad pr u41) (v := .ref (ad 901)) (C := RX5) (T := TX5) (N := 7) hx hb ht itX5 hown hK hP 3 rfl rfl 2 (by decide) (ht _ tw_573) (fun _ h9 => h9) rfl dX5_readText_81 ?_
      have q43 : (u41.1 0 321).toInt = (w30.1 0 321).toInt := congrArg Int32.toInt ((fr40.2.1 321 (by decide)).trans (show w30.1 0 321 = (w30.1 0 321) by rfl))
      have q44 : (u41.1 0 381).toInt = (w30.1 0 381).toInt := congrArg Int32.toInt ((fr40.2.1 381 (by decide)).trans (show w30.1 0 381 = (w30.1 0 381) by rfl))
      refine cu_v (rn_Vk (n := 0) (As := []) (rest := []) hx hb hml hown ht hKK hFx hP hD hS hA (c_x_X1_link l dC dI cI cB cZ cJ cR tb H.size ad pr N L1 L2 u41 ps (show 0 ≤ (u41.1 0 321).toInt ∧ (u41.1 0 321).toInt ≤ 501 from (om_ff27494c0e i321L30 q43)) (show 0 ≤ (u41.1 0 381).toInt ∧ (u41.1 0 381).toInt ≤ 3008 from (om_6e4eb11ad3 i381L30 q44)) (show L1.length = 40 from hL1) (show L2.length = 60 from hL2) (show RP u41 from ((show FC [300, 304, 305, 306, 307, 308, 309, 310, 312, 313, 314, 315, 317, 321, 326, 327, 331, 332, 333, 375, 377, 381, 383, 384] [0, 301, 302, 303, 311, 316, 318, 319, 320, 324, 325, 378, 379, 380] v u41 from (FC.tr (FC.tr (FC.rf _) (FC.up fwL30 (by decide) (by decide))) (FC.up fr40 (by decide) (by decide)))).1 rp)) (show pr ps = ad 908 from hps) (show (u41.1 0 310) = ps from (Eq.trans (fr40.2.1 310 (by decide)) sl310L30))) tw_662 tw_663 (by decide +kernel) rfl rfl ⟨show 3 + 1 ≤ 500 from om_24c97a3866, show 8 + (4 + 11) + 65 ≤ 28 * (500) from om_1259bc772a⟩ (List.range (cW ad pr N cI cR L1 L2 u41).length) (rg_map _) (nd_range _) 1 rfl rfl rfl rfl hl.1 rfl (Nat.le_of_ble_eq_true rfl) dX5_readText_84 ⟨Nat.le_of_ble_eq_true rfl, Nat.le_of_ble_eq_true rfl⟩) hP hD hS hA (fun u46 H locs hw45 hP hD hS => ?_)
      have fr45 := hw45
      refine W.widen (k := 0) (n := 0) (Nat.le_refl _) (Nat.le_refl _) ?_
      have q48 : (u41.1 0 304).toInt = (w30.1 0 304).toInt := congrArg Int32.toInt ((fr40.2.1 304 (by decide)).trans (show w30.1 0 304 = (w30.1 0 304) by rfl))
      have q49 : (u46.1 0 304).toInt = (u41.1 0 304).toInt := congrArg Int32.toInt ((fr45.2.1 304 (by decide)).trans (show u41.1 0 304 = (u41.1 0 304) by rfl))
      have q50 : (u41.1 0 306).toInt = (w30.1 0 306).toInt := congrArg Int32.toInt ((fr40.2.1 306 (by decide)).trans (show w30.1 0 306 = (w30.1 0 306) by rfl))
      have q51 : (u46.1 0 306).toInt = (u41.1 0 306).toInt := congrArg Int32.toInt ((fr45.2.1 306 (by decide)).trans (show u41.1 0 306 = (u41.1 0 306) by rfl))
      have q52 : (u46.1 0 321).toInt = (u41.1 0 321).toInt := congrArg Int32.toInt ((fr45.2.1 321 (by decide)).trans (show u41.1 0 321 = (u41.1 0 321) by rfl))
      have q53 : (u41.1 0 326).toInt = (w30.1 0 326).toInt := congrArg Int32.toInt ((fr40.2.1 326 (by decide)).trans (show w30.1 0 326 = (w30.1 0 326) by rfl))
      have q54 : (u46.1 0 326).toInt = (u41.1 0 326).toInt := congrArg Int32.toInt ((fr45.2.1 326 (by decide)).trans (show u41.1 0 326 = (u41.1 0 326) by rfl))
      have q55 : (u46.1 0 381).toInt = (u41.1 0 381).toInt := congrArg Int32.toInt ((fr45.2.1 381 (by decide)).trans (show u41.1 0 381 = (u41.1 0 381) by rfl))
      refine W.sz (fun hz => ?_)
      refine vx_ret ?_
      refine W.widen (k := 1) (n := 6) (Nat.le_of_ble_eq_true rfl) (Nat.le_of_ble_eq_true rfl) ?_
      exact W.vret hx hb hr (fun t ht9 hW => ⟨⟨u46, rfl, ⟨(FC.tr (FC.tr (FC.tr (FC.rf _) (FC.up fwL30 (by decide) (by decide))) (FC.up fr40 (by decide) (by decide))) (FC.up fr45 (by decide) (by decide))), (show 0 ≤ (u46.1 0 304).toInt ∧ (u46.1 0 304).toInt ≤ 1503 from (om_dd87ee851a i304L30 q48 q49)), (show 0 ≤ (u46.1 0 306).toInt ∧ (u46.1 0 306).toInt ≤ 40 from (om_68f540929a i306L30 q50 q51)), (show 0 ≤ (u46.1 0 321).toInt ∧ (u46.1 0 321).toInt ≤ 501 from (om_4dfa815534 i321L30 q43 q52)), (show 0 ≤ (u46.1 0 326).toInt ∧ (u46.1 0 326).toInt ≤ 420 from (om_9591dea625 i326L30 q53 q54)), (show 0 ≤ (u46.1 0 381).toInt ∧ (u46.1 0 381).toInt ≤ 3008 from (om_769192f2a4 i381L30 q44 q55))⟩, ⟨by rw [ht9]; exact hP, hD⟩, by rw [ht9]; exact hz⟩, hS.F ht9⟩) hS.2.2 dX5_readText_87
    · have z56 : r37.toInt ≠ (0 : Int) := ne_z rfl (show (0 : Int32).toInt = (0 : Int) by decide) h38
      refine lv_aload_n hx hb dX5_readText_47 rfl (lv_at hl 1 rfl) ?_
      have q57 : (w30.1 0 373).toInt = (v.1 0 373).toInt := congrArg Int32.toInt ((fwL30.2.1 373 (by decide)).trans (show v.1 0 373 = (v.1 0 373) by rfl))
      refine W.sz (fun hz9 => ?_)
      refine czx_i (rx_Vk (n := 0) (As := []) (rest := []) hx hb hml hown ht hKK hFx hP hD hS hA (c_x_X5_headOfItem l dC dI cI cB cZ cJ cR tb H.size ad pr N L1 L2 w30 ps (show 0 ≤ (w30.1 0 304).toInt ∧ (w30.1 0 304).toInt ≤ 1503 from (om_c99648273b i304L30)) (show 0 ≤ (w30.1 0 373).toInt ∧ (w30.1 0 373).toInt ≤ 4000 from (om_9084c127ed z373 q57)) (show L1.length = 40 from hL1) (show L2.length = 60 from hL2) (show RP w30 from ((show FC [300, 304, 305, 306, 307, 308, 309, 310, 312, 313, 314, 315, 317, 321, 326, 327, 331, 332, 333, 375, 377, 381, 383, 384] [0, 301, 302, 303, 311, 316, 318, 319, 320, 324, 325, 378, 379, 380] v w30 from (FC.tr (FC.rf _) (FC.up fwL30 (by decide) (by decide)))).1 rp)) (show pr ps = ad 908 from hps) (show (w30.1 0 300) = ps from slL30) (show (w30.1 0 327) = ps from sl327L30) (show l.stackTraces = false from hst)) tw_664 tw_665 (by decide +kernel) rfl rfl ⟨show 8 + 1 ≤ 500 from om_4a78c3fccd, show 8 + (2 + 11) + 125 ≤ 28 * (500) from om_4f277b277a⟩ (List.range (cW ad pr N cI cR L1 L2 w30).length) (rg_map _) (nd_range _) 3 rfl rfl rfl rfl hl.1 rfl (Nat.le_of_ble_eq_true rfl) dX5_readText_48 ⟨Nat.le_of_ble_eq_true rfl, Nat.le_of_ble_eq_true rfl⟩) hP hD hS hA (fun u9 ce9 q9 H locs hx9 hP hD hS hc9 hv9 hf9 => ?_) (fun r60 u59 H locs hw58 hP hD hS hz8 => ?_)
      · exact vx_out (fun x h9 => (hnt x h9).elim) hlocks hc9 hv9 hf9 (fun t9 ht9 hv8 => ⟨u9, ⟨FC.tr (FC.tr (FC.rf _) (FC.up fwL30 (by decide) (by decide))) hx9.1, hx9.2⟩, ⟨rfl, by rw [ht9]; exact hP, hD⟩, hS.F ht9⟩) hS.2.2 (Nat.le_refl _) (Nat.le_refl _)
      refine W.shrink (hz8.trans hz9) ?_
      have fr58 := hw58
      refine lv_istore_n (lv' := [(3, .int r60), (2, .int ka), (0, .ref (ad 903)), (1, .ref (pr ps))]) hx hb dX5_readText_51 rfl hl (by decide) rfl (fun ls hl => ?_)
      refine lv_iload_n hx hb dX5_readText_52 rfl (lv_at hl 0 rfl) ?_
      refine lv_bipush (v := 30) hx hb dX5_readText_53 (by decide) ?_
      refine lv_icmp_ne (tgt := 65) hx hb dX5_readText_55 (by decide) (fun h61 => ?_) (fun h61 => ?_)
      · have z62 : r60.toInt ≠ (30 : Int) := ne_z rfl (show (30 : Int32).toInt = (30 : Int) by decide) h61
        refine lv_aload_n hx hb dX5_readText_65 rfl (lv_at hl 2 rfl) ?_
        refine lv_iload_n hx hb dX5_readText_66 rfl (lv_at hl 0 rfl) ?_
        have q63 : (u59.1 0 304).toInt = (w30.1 0 304).toInt := congrArg Int32.toInt ((fr58.2.1 304 (by decide)).trans (show w30.1 0 304 = (w30.1 0 304) by rfl))
        have q64 : (u59.1 0 306).toInt = (w30.1 0 306).toInt := congrArg Int32.toInt ((fr58.2.1 306 (by decide)).trans (show w30.1 0 306 = (w30.1 0 306) by rfl))
        have q65 : (u59.1 0 373).toInt = (w30.1 0 373).toInt := congrArg Int32.toInt ((fr58.2.1 373 (by decide)).trans (show w30.1 0 373 = (w30.1 0 373) by rfl))
        refine W.sz (fun hz9 => ?_)
        refine czx_v (rx_Vk (n := 1) (As := [.int r60]) (rest := []) hx hb hml hown ht hKK hFx hP hD hS hA (c_x_X5_globalItem l dC dI cI cB cZ cJ cR tb H.size ad pr N L1 L2 u59 r60 ps (show 0 ≤ (u59.1 0 304).toInt ∧ (u59.1 0 304).toInt ≤ 1503 from (om_73002589c1 i304L30 q63)) (show 0 ≤ (u59.1 0 306).toInt ∧ (u59.1 0 306).toInt ≤ 40 from (om_99e115f631 i306L30 q64)) (show 0 ≤ (u59.1 0 373).toInt ∧ (u59.1 0 373).toInt ≤ 4000 from (om_03cd8767ac z373 q57 q65)) (show L1.length = 40 from hL1) (show L2.length = 60 from hL2) (show RP u59 from ((show FC [300, 304, 305, 306, 307, 308, 309, 310, 312, 313, 314, 315, 317, 321, 326, 327, 331, 332, 333, 375, 377, 381, 383, 384] [0, 301, 302, 303, 311, 316, 318, 319, 320, 324, 325, 378, 379, 380] v u59 from (FC.tr (FC.tr (FC.rf _) (FC.up fwL30 (by decide) (by decide))) (FC.up fr58 (by decide) (by decide)))).1 rp)) (show pr ps = ad 908 from hps) (show (u59.1 0 300) = ps from (Eq.trans (fr58.2.1 300 (by decide)) slL30)) (show (u59.1 0 327) = ps from (Eq.trans (fr58.2.1 327 (by decide)) sl327L30)) (show l.stackTraces = false from hst)) tw_666 tw_667 (by decide +kernel) rfl rfl ⟨show 9 + 1 ≤ 500 from om_6fe5752e9f, show 8 + (5 + 11) + 147 ≤ 28 * (500) from om_93eb2bc395⟩ (List.range (cW ad pr N cI cR L1 L2 u59).length) (rg_map _) (nd_range _) 3 rfl rfl rfl rfl hl.1 rfl (Nat.le_of_ble_eq_true rfl) dX5_readText_67 ⟨Nat.le_of_ble_eq_true rfl, Nat.le_of_ble_eq_true rfl⟩) hP hD hS hA (fun u9 ce9 q9 H locs hx9 hP hD hS hc9 hv9 hf9 => ?_) (fun u67 H locs hw66 hP hD hS hz8 => ?_)
        · exact vx_out (fun x h9 => (hnt x h9).elim) hlocks hc9 hv9 hf9 (fun t9 ht9 hv8 => ⟨u9, ⟨FC.tr (FC.tr (FC.tr (FC.rf _) (FC.up fwL30 (by decide) (by decide))) (FC.up fr58 (by decide) (by decide))) hx9.1, hx9.2⟩, ⟨rfl, by rw [ht9]; exact hP, hD⟩, hS.F ht9⟩) hS.2.2 (Nat.le_refl _) (Nat.le_refl _)
        refine W.shrink (hz8.trans hz9) ?_
        obtain ⟨fr66, i30666⟩ := hw66
        have i30666 : 0 ≤ (u67.1 0 306).toInt ∧ (u67.1 0 306).toInt ≤ 40 := i30666
        refine lv_iinc (v := (ka + (1 : Int32))) (lv' := [(2, .int (ka + (1 : Int32))), (3, .int r60), (0, .ref (ad 903)), (1, .ref (pr ps))]) hx hb dX5_readText_70 hl (k := 1) rfl (rfl) (by decide) rfl (fun ls hl => ?_)
        have z69 : (ka + (1 : Int32)).toInt = ka.toInt + (1 : Int) := add_z rfl (show (1 : Int32).toInt = (1 : Int) by decide) (om_8a2b73c54c f1L30) (om_3176a8b66b f1L30)
        refine lv_goto (tgt := 30) hx hb dX5_readText_73 (by decide) ?_
        have q70 : (u67.1 0 304).toInt = (u59.1 0 304).toInt := congrArg Int32.toInt ((fr66.2.1 304 (by decide)).trans (show u59.1 0 304 = (u59.1 0 304) by rfl))
        have q71 : (u59.1 0 321).toInt = (w30.1 0 321).toInt := congrArg Int32.toInt ((fr58.2.1 321 (by decide)).trans (show w30.1 0 321 = (w30.1 0 321) by rfl))
        have q72 : (u67.1 0 321).toInt = (u59.1 0 321).toInt := congrArg Int32.toInt ((fr66.2.1 321 (by decide)).trans (show u59.1 0 321 = (u59.1 0 321) by rfl))
        have q73 : (u59.1 0 326).toInt = (w30.1 0 326).toInt := congrArg Int32.toInt ((fr58.2.1 326 (by decide)).trans (show w30.1 0 326 = (w30.1 0 326) by rfl))
        have q74 : (u67.1 0 326).toInt = (u59.1 0 326).toInt := congrArg Int32.toInt ((fr66.2.1 326 (by decide)).trans (show u59.1 0 326 = (u59.1 0 326) by rfl))
        have q75 : (u59.1 0 381).toInt = (w30.1 0 381).toInt := congrArg Int32.toInt ((fr58.2.1 381 (by decide)).trans (show w30.1 0 381 = (w30.1 0 381) by rfl))
        have q76 : (u67.1 0 381).toInt = (u59.1 0 381).toInt := congrArg Int32.toInt ((fr66.2.1 381 (by decide)).trans (show u59.1 0 381 = (u59.1 0 381) by rfl))
        exact ih30 ((ka + (1 : Int32)), u67) _ _ _ (show (1500 - (ka + (1 : Int32)).toInt).toNat < (1500 - ka.toInt).toNat from tn_z (om_f107c3c51d z69) (om_1cb5cb4f43 z34)) ⟨(show FC [300, 304, 305, 306, 307, 308, 309, 310, 312, 313, 314, 315, 317, 321, 326, 327, 331, 332, 333, 375, 377, 381, 383, 384] [0, 301, 302, 303, 311, 316, 318, 319, 320, 324, 325, 378, 379, 380] v u67 from (FC.tr (FC.tr (FC.tr (FC.rf _) (FC.up fwL30 (by decide) (by decide))) (FC.up fr58 (by decide) (by decide))) (FC.up fr66 (by decide) (by decide)))), (show 0 ≤ (u67.1 0 304).toInt ∧ (u67.1 0 304).toInt ≤ 1503 from (om_dd87ee851a i304L30 q63 q70)), (show 0 ≤ (u67.1 0 306).toInt ∧ (u67.1 0 306).toInt ≤ 40 from (om_7eaf33e007 i30666)), (show 0 ≤ (u67.1 0 321).toInt ∧ (u67.1 0 321).toInt ≤ 501 from (om_4dfa815534 i321L30 q71 q72)), (show 0 ≤ (u67.1 0 326).toInt ∧ (u67.1 0 326).toInt ≤ 420 from (om_9591dea625 i326L30 q73 q74)), (show 0 ≤ (u67.1 0 381).toInt ∧ (u67.1 0 381).toInt ≤ 3008 from (om_769192f2a4 i381L30 q75 q76)), (show 0 ≤ (ka + (1 : Int32)).toInt ∧ (ka + (1 : Int32)).toInt ≤ 1500 from (om_46db715386 f1L30 z34 z69)), (show (u67.1 0 300) = ps from (Eq.trans (fr66.2.1 300 (by decide)) (Eq.trans (fr58.2.1 300 (by decide)) slL30))), (show (u67.1 0 310) = ps from (Eq.trans (fr66.2.1 310 (by decide)) (Eq.trans (fr58.2.1 310 (by decide)) sl310L30))), (show (u67.1 0 327) = ps from (Eq.trans (fr66.2.1 327 (by decide)) (Eq.trans (fr58.2.1 327 (by decide)) sl327L30))), hP, hD, hS, lv_sub hl [0, 2, 3] rfl⟩
      · have z77 : r60.toInt = (30 : Int) := eq_z rfl (show (30 : Int32).toInt = (30 : Int) by decide) h61
        refine lv_aload_n hx hb dX5_readText_58 rfl (lv_at hl 2 rfl) ?_
        have q78 : (u59.1 0 304).toInt = (w30.1 0 304).toInt := congrArg Int32.toInt ((fr58.2.1 304 (by decide)).trans (show w30.1 0 304 = (w30.1 0 304) by rfl))
        have q79 : (u59.1 0 306).toInt = (w30.1 0 306).toInt := congrArg Int32.toInt ((fr58.2.1 306 (by decide)).trans (show w30.1 0 306 = (w30.1 0 306) by rfl))
        have q80 : (u59.1 0 321).toInt = (w30.1 0 321).toInt := congrArg Int32.toInt ((fr58.2.1 321 (by decide)).trans (show w30.1 0 321 = (w30.1 0 321) by rfl))
        have q81 : (u59.1 0 326).toInt = (w30.1 0 326).toInt := congrArg Int32.toInt ((fr58.2.1 326 (by decide)).trans (show w30.1 0 326 = (w30.1 0 326) by rfl))
        have q82 : (u59.1 0 373).toInt = (w30.1 0 373).toInt := congrArg Int32.toInt ((fr58.2.1 373 (by decide)).trans (show w30.1 0 373 = (w30.1 0 373) by rfl))
        have q83 : (u59.1 0 381).toInt = (w30.1 0 381).toInt := congrArg Int32.toInt ((fr58.2.1 381 (by decide)).trans (show w30.1 0 381 = (w30.1 0 381) by rfl))
        refine W.sz (fun hz9 => ?_)
        refine czx_v (rx_Vk (n := 0) (As := []) (rest := []) hx hb hml hown ht hKK hFx hP hD hS hA (c_x_X5_functionItem l 40 dC dI cI cB cZ cJ cR tb H.size ad pr N L1 L2 u59 ps (show 0 ≤ (u59.1 0 304).toInt ∧ (u59.1 0 304).toInt ≤ 1503 from (om_73002589c1 i304L30 q78)) (show 0 ≤ (u59.1 0 306).toInt ∧ (u59.1 0 306).toInt ≤ 40 from (om_99e115f631 i306L30 q79)) (show 0 ≤ (u59.1 0 321).toInt ∧ (u59.1 0 321).toInt ≤ 501 from (om_ff27494c0e i321L30 q80)) (show 0 ≤ (u59.1 0 326).toInt ∧ (u59.1 0 326).toInt ≤ 420 from (om_8ed0dedb19 i326L30 q81)) (show 0 ≤ (u59.1 0 373).toInt ∧ (u59.1 0 373).toInt ≤ 4000 from (om_03cd8767ac z373 q57 q82)) (show 0 ≤ (u59.1 0 381).toInt ∧ (u59.1 0 381).toInt ≤ 3008 from (om_6e4eb11ad3 i381L30 q83)) (show L1.length = 40 from hL1) (show L2.length = 60 from hL2) (show RP u59 from ((show FC [300, 304, 305, 306, 307, 308, 309, 310, 312, 313, 314, 315, 317, 321, 326, 327, 331, 332, 333, 375, 377, 381, 383, 384] [0, 301, 302, 303, 311, 316, 318, 319, 320, 324, 325, 378, 379, 380] v u59 from (FC.tr (FC.tr (FC.rf _) (FC.up fwL30 (by decide) (by decide))) (FC.up fr58 (by decide) (by decide)))).1 rp)) (show pr ps = ad 908 from hps) (show (u59.1 0 300) = ps from (Eq.trans (fr58.2.1 300 (by decide)) slL30)) (show (u59.1 0 310) = ps from (Eq.trans (fr58.2.1 310 (by decide)) sl310L30)) (show (u59.1 0 327) = ps from (Eq.trans (fr58.2.1 327 (by decide)) sl327L30)) (show l.stackTraces = false from hst) (show 40 ≤ (u59.1 0 306).toInt + (40 : Int) from (om_9c9cf769b7 i306L30 q79))) tw_668 tw_669 (by decide +kernel) rfl rfl ⟨show (380) + 1 ≤ 500 from om_a174ec34a4, show 8 + (2 + 11) + 28 * (380) ≤ 28 * (500) from om_2d04e4ba9c⟩ (List.range (cW ad pr N cI cR L1 L2 u59).length) (rg_map _) (nd_range _) 3 rfl rfl rfl rfl hl.1 rfl (Nat.le_of_ble_eq_true rfl) dX5_readText_59 ⟨Nat.le_of_ble_eq_true rfl, Nat.le_of_ble_eq_true rfl⟩) hP hD hS hA (fun u9 ce9 q9 H locs hx9 hP hD hS hc9 hv9 hf9 => ?_) (fun u85 H locs hw84 hP hD hS hz8 => ?_)
        · exact vx_out (fun x h9 => (hnt x h9).elim) hlocks hc9 hv9 hf9 (fun t9 ht9 hv8 => ⟨u9, ⟨FC.tr (FC.tr (FC.tr (FC.rf _) (FC.up fwL30 (by decide) (by decide))) (FC.up fr58 (by decide) (by decide))) hx9.1, hx9.2⟩, ⟨rfl, by rw [ht9]; exact hP, hD⟩, hS.F ht9⟩) hS.2.2 (Nat.le_refl _) (Nat.le_refl _)
        refine W.shrink (hz8.trans hz9) ?_
        obtain ⟨fr84, i30684, i31284, i32184, i32684, i38184, po84⟩ := hw84
        have i30684 : 0 ≤ (u85.1 0 306).toInt ∧ (u85.1 0 306).toInt ≤ 40 := i30684
        have i31284 : 0 ≤ (u85.1 0 312).toInt ∧ (u85.1 0 312).toInt ≤ 500 := i31284
        have i32184 : 0 ≤ (u85.1 0 321).toInt ∧ (u85.1 0 321).toInt ≤ 501 := i32184
        have i32684 : 0 ≤ (u85.1 0 326).toInt ∧ (u85.1 0 326).toInt ≤ 420 := i32684
        have i38184 : 0 ≤ (u85.1 0 381).toInt ∧ (u85.1 0 381).toInt ≤ 3008 := i38184
        have po84 : (u85.1 0 306).toInt = (u59.1 0 306).toInt := po84
        refine lv_goto (tgt := 70) hx hb dX5_readText_62 (by decide) ?_
        refine lv_iinc (v := (ka + (1 : Int32))) (lv' := [(2, .int (ka + (1 : Int32))), (3, .int r60), (0, .ref (ad 903)), (1, .ref (pr ps))]) hx hb dX5_readText_70 hl (k := 1) rfl (rfl) (by decide) rfl (fun ls hl => ?_)
        have z87 : (ka + (1 : Int32)).toInt = ka.toInt + (1 : Int) := add_z rfl (show (1 : Int32).toInt = (1 : Int) by decide) (om_8a2b73c54c f1L30) (om_3176a8b66b f1L30)
        refine lv_goto (tgt := 30) hx hb dX5_readText_73 (by decide) ?_
        have q88 : (u85.1 0 304).toInt = (u59.1 0 304).toInt := congrArg Int32.toInt ((fr84.2.1 304 (by decide)).trans (show u59.1 0 304 = (u59.1 0 304) by rfl))
        exact ih30 ((ka + (1 : Int32)), u85) _ _ _ (show (1500 - (ka + (1 : Int32)).toInt).toNat < (1500 - ka.toInt).toNat from tn_z (om_f107c3c51d z87) (om_1cb5cb4f43 z34)) ⟨(show FC [300, 304, 305, 306, 307, 308, 309, 310, 312, 313, 314, 315, 317, 321, 326, 327, 331, 332, 333, 375, 377, 381, 383, 384] [0, 301, 302, 303, 311, 316, 318, 319, 320, 324, 325, 378, 379, 380] v u85 from (FC.tr (FC.tr (FC.tr (FC.rf _) (FC.up fwL30 (by decide) (by decide))) (FC.up fr58 (by decide) (by decide))) (FC.up fr84 (by decide) (by decide)))), (show 0 ≤ (u85.1 0 304).toInt ∧ (u85.1 0 304).toInt ≤ 1503 from (om_dd87ee851a i304L30 q78 q88)), (show 0 ≤ (u85.1 0 306).toInt ∧ (u85.1 0 306).toInt ≤ 40 from (om_7eaf33e007 i30684)), (show 0 ≤ (u85.1 0 321).toInt ∧ (u85.1 0 321).toInt ≤ 501 from (om_e1d35f5faf i32184)), (show 0 ≤ (u85.1 0 326).toInt ∧ (u85.1 0 326).toInt ≤ 420 from (om_839d7ed7dd i32684)), (show 0 ≤ (u85.1 0 381).toInt ∧ (u85.1 0 381).toInt ≤ 3008 from (om_e78eec72e1 i38184)), (show 0 ≤ (ka + (1 : Int32)).toInt ∧ (ka + (1 : Int32)).toInt ≤ 1500 from (om_46db715386 f1L30 z34 z87)), (show (u85.1 0 300) = ps from (Eq.trans (fr84.2.1 300 (by decide)) (Eq.trans (fr58.2.1 300 (by decide)) slL30))), (show (u85.1 0 310) = ps from (Eq.trans (fr84.2.1 310 (by decide)) (Eq.trans (fr58.2.1 310 (by decide)) sl310L30))), (show (u85.1 0 327) = ps from (Eq.trans (fr84.2.1 327 (by decide)) (Eq.trans (fr58.2.1 327 (by decide)) sl327L30))), hP, hD, hS, lv_sub hl [0, 2, 3] rfl⟩
