theorem dX0_lay_0 : decode cX0_lay 0 = .ok (.iload_n 1, 1) := by decide +kernel
theorem dX0_lay_1 : decode cX0_lay 1 = .ok (.tableswitch 257 0 24 #[115, 123, 130, 138, 148, 257, 257, 257, 257, 257, 257, 257, 156, 170, 185, 200, 257, 257, 257, 257, 215, 229, 238, 246, 254], 115) := by decide +kernel
theorem dX0_lay_116 : decode cX0_lay 116 = .ok (.aload_n 0, 1) := by decide +kernel
theorem dX0_lay_117 : decode cX0_lay 117 = .ok (.iload_n 2, 1) := by decide +kernel
theorem dX0_lay_118 : decode cX0_lay 118 = .ok (.invokevirtual 108, 3) := by decide +kernel
theorem tw_720 : (.code yX0_layEnter cX0_layEnter 4 none : Cond) ∈ tw_W := tw_in (t8_5 (List.mem_of_getElem? (i := 45) rfl)) rfl
theorem tw_721 : ∀ w ∈ ([.methodLink RX0 108 yX0_layEnter, .instanceMethod yX0_layEnter, .selects RX0 yX0_layEnter yX0_layEnter, .initialized RX0] : List Cond), w ∈ tw_W := al_c (tw_in (t8_5 (List.mem_of_getElem? (i := 42) rfl)) rfl) (al_c (tw_in (t8_5 (List.mem_of_getElem? (i := 44) rfl)) rfl) (al_c (tw_in (t7_4 (q := (yX0_layEnter, 9)) (List.mem_of_getElem? (i := 4) rfl)) rfl) (al_c (tw_in (t8_1 (List.mem_of_getElem? (i := 13) rfl)) rfl) al_n)))
theorem dX0_lay_121 : decode cX0_lay 121 = .ok (.goto 165, 3) := by decide +kernel
theorem dX0_lay_286 : decode cX0_lay 286 = .ok (.return_, 1) := by decide +kernel
theorem dX0_lay_124 : decode cX0_lay 124 = .ok (.aload_n 0, 1) := by decide +kernel
theorem dX0_lay_125 : decode cX0_lay 125 = .ok (.invokevirtual 111, 3) := by decide +kernel
theorem tw_722 : (.code yX0_layLeave cX0_layLeave 1 none : Cond) ∈ tw_W := tw_in (t8_5 (List.mem_of_getElem? (i := 76) rfl)) rfl
theorem tw_723 : ∀ w ∈ ([.methodLink RX0 111 yX0_layLeave, .instanceMethod yX0_layLeave, .selects RX0 yX0_layLeave yX0_layLeave, .initialized RX0] : List Cond), w ∈ tw_W := al_c (tw_in (t8_5 (List.mem_of_getElem? (i := 73) rfl)) rfl) (al_c (tw_in (t8_5 (List.mem_of_getElem? (i := 75) rfl)) rfl) (al_c (tw_in (t7_4 (q := (yX0_layLeave, 9)) (List.mem_of_getElem? (i := 9) rfl)) rfl) (al_c (tw_in (t8_1 (List.mem_of_getElem? (i := 13) rfl)) rfl) al_n)))
theorem dX0_lay_128 : decode cX0_lay 128 = .ok (.goto 158, 3) := by decide +kernel
theorem dX0_lay_131 : decode cX0_lay 131 = .ok (.aload_n 0, 1) := by decide +kernel
theorem dX0_lay_132 : decode cX0_lay 132 = .ok (.iload_n 2, 1) := by decide +kernel
theorem dX0_lay_133 : decode cX0_lay 133 = .ok (.invokevirtual 114, 3) := by decide +kernel
theorem tw_724 : (.code yX0_layNumber cX0_layNumber 2 none : Cond) ∈ tw_W := tw_in (t8_5 (List.mem_of_getElem? (i := 80) rfl)) rfl
theorem tw_725 : ∀ w ∈ ([.methodLink RX0 114 yX0_layNumber, .instanceMethod yX0_layNumber, .selects RX0 yX0_layNumber yX0_layNumber, .initialized RX0] : List Cond), w ∈ tw_W := al_c (tw_in (t8_5 (List.mem_of_getElem? (i := 77) rfl)) rfl) (al_c (tw_in (t8_5 (List.mem_of_getElem? (i := 79) rfl)) rfl) (al_c (tw_in (t7_4 (q := (yX0_layNumber, 9)) (List.mem_of_getElem? (i := 10) rfl)) rfl) (al_c (tw_in (t8_1 (List.mem_of_getElem? (i := 13) rfl)) rfl) al_n)))
theorem dX0_lay_136 : decode cX0_lay 136 = .ok (.goto 150, 3) := by decide +kernel
theorem dX0_lay_139 : decode cX0_lay 139 = .ok (.aload_n 0, 1) := by decide +kernel
theorem dX0_lay_140 : decode cX0_lay 140 = .ok (.bipush 10, 2) := by decide +kernel
theorem dX0_lay_142 : decode cX0_lay 142 = .ok (.iload_n 2, 1) := by decide +kernel
theorem dX0_lay_143 : decode cX0_lay 143 = .ok (.invokevirtual 117, 3) := by decide +kernel
theorem dX0_lay_146 : decode cX0_lay 146 = .ok (.goto 140, 3) := by decide +kernel
theorem dX0_lay_149 : decode cX0_lay 149 = .ok (.aload_n 0, 1) := by decide +kernel
theorem dX0_lay_150 : decode cX0_lay 150 = .ok (.iload_n 2, 1) := by decide +kernel
theorem dX0_lay_151 : decode cX0_lay 151 = .ok (.invokevirtual 121, 3) := by decide +kernel
theorem dX0_lay_154 : decode cX0_lay 154 = .ok (.goto 132, 3) := by decide +kernel
theorem dX0_lay_258 : decode cX0_lay 258 = .ok (.iload_n 1, 1) := by decide +kernel
theorem dX0_lay_259 : decode cX0_lay 259 = .ok (.bipush 16, 2) := by decide +kernel
theorem dX0_lay_261 : decode cX0_lay 261 = .ok (.if_icmp .lt 18, 3) := by decide +kernel
theorem dX0_lay_279 : decode cX0_lay 279 = .ok (.aload_n 0, 1) := by decide +kernel
theorem dX0_lay_280 : decode cX0_lay 280 = .ok (.iload_n 1, 1) := by decide +kernel
theorem dX0_lay_281 : decode cX0_lay 281 = .ok (.iload_n 2, 1) := by decide +kernel
theorem dX0_lay_282 : decode cX0_lay 282 = .ok (.iload_n 3, 1) := by decide +kernel
theorem dX0_lay_283 : decode cX0_lay 283 = .ok (.invokevirtual 140, 3) := by decide +kernel
theorem tw_726 : (.code yX0_layPlace cX0_layPlace 5 none : Cond) ∈ tw_W := tw_in (t8_5 (List.mem_of_getElem? (i := 126) rfl)) rfl
theorem tw_727 : ∀ w ∈ ([.methodLink RX0 140 yX0_layPlace, .instanceMethod yX0_layPlace, .selects RX0 yX0_layPlace yX0_layPlace, .initialized RX0] : List Cond), w ∈ tw_W := al_c (tw_in (t8_5 (List.mem_of_getElem? (i := 123) rfl)) rfl) (al_c (tw_in (t8_5 (List.mem_of_getElem? (i := 125) rfl)) rfl) (al_c (tw_in (t7_5 (q := (yX0_layPlace, 9)) (List.mem_of_getElem? (i := 5) rfl)) rfl) (al_c (tw_in (t8_1 (List.mem_of_getElem? (i := 13) rfl)) rfl) al_n)))
theorem dX0_lay_157 : decode cX0_lay 157 = .ok (.aload_n 0, 1) := by decide +kernel
theorem dX0_lay_158 : decode cX0_lay 158 = .ok (.ldc 124, 2) := by decide +kernel
theorem dX0_lay_160 : decode cX0_lay 160 = .ok (.bipush 10, 2) := by decide +kernel
theorem dX0_lay_162 : decode cX0_lay 162 = .ok (.iconst 0, 1) := by decide +kernel
theorem dX0_lay_163 : decode cX0_lay 163 = .ok (.bipush 10, 2) := by decide +kernel
theorem dX0_lay_165 : decode cX0_lay 165 = .ok (.invokevirtual 125, 3) := by decide +kernel
theorem dX0_lay_168 : decode cX0_lay 168 = .ok (.goto 118, 3) := by decide +kernel
theorem dX0_lay_171 : decode cX0_lay 171 = .ok (.aload_n 0, 1) := by decide +kernel
theorem dX0_lay_172 : decode cX0_lay 172 = .ok (.sipush 12307, 3) := by decide +kernel
theorem dX0_lay_175 : decode cX0_lay 175 = .ok (.bipush 10, 2) := by decide +kernel
theorem dX0_lay_177 : decode cX0_lay 177 = .ok (.bipush 10, 2) := by decide +kernel
theorem dX0_lay_179 : decode cX0_lay 179 = .ok (.iconst 1, 1) := by decide +kernel
theorem dX0_lay_180 : decode cX0_lay 180 = .ok (.invokevirtual 42, 3) := by decide +kernel
theorem dX0_lay_183 : decode cX0_lay 183 = .ok (.goto 103, 3) := by decide +kernel
theorem dX0_lay_186 : decode cX0_lay 186 = .ok (.aload_n 0, 1) := by decide +kernel
theorem dX0_lay_187 : decode cX0_lay 187 = .ok (.sipush 16403, 3) := by decide +kernel
theorem dX0_lay_190 : decode cX0_lay 190 = .ok (.bipush 10, 2) := by decide +kernel
theorem dX0_lay_192 : decode cX0_lay 192 = .ok (.bipush 10, 2) := by decide +kernel
theorem dX0_lay_194 : decode cX0_lay 194 = .ok (.iconst (-1), 1) := by decide +kernel
theorem dX0_lay_195 : decode cX0_lay 195 = .ok (.invokevirtual 42, 3) := by decide +kernel
theorem dX0_lay_198 : decode cX0_lay 198 = .ok (.goto 88, 3) := by decide +kernel
theorem dX0_lay_201 : decode cX0_lay 201 = .ok (.aload_n 0, 1) := by decide +kernel
theorem dX0_lay_202 : decode cX0_lay 202 = .ok (.sipush 12339, 3) := by decide +kernel
theorem dX0_lay_205 : decode cX0_lay 205 = .ok (.bipush 10, 2) := by decide +kernel
theorem dX0_lay_207 : decode cX0_lay 207 = .ok (.iconst 0, 1) := by decide +kernel
theorem dX0_lay_208 : decode cX0_lay 208 = .ok (.bipush 10, 2) := by decide +kernel
theorem dX0_lay_210 : decode cX0_lay 210 = .ok (.invokevirtual 125, 3) := by decide +kernel
theorem dX0_lay_213 : decode cX0_lay 213 = .ok (.goto 73, 3) := by decide +kernel
theorem dX0_lay_264 : decode cX0_lay 264 = .ok (.iload_n 1, 1) := by decide +kernel
theorem dX0_lay_265 : decode cX0_lay 265 = .ok (.bipush 19, 2) := by decide +kernel
theorem dX0_lay_267 : decode cX0_lay 267 = .ok (.if_icmp .gt 12, 3) := by decide +kernel
theorem dX0_lay_270 : decode cX0_lay 270 = .ok (.aload_n 0, 1) := by decide +kernel
theorem dX0_lay_271 : decode cX0_lay 271 = .ok (.iload_n 1, 1) := by decide +kernel
theorem dX0_lay_272 : decode cX0_lay 272 = .ok (.iload_n 2, 1) := by decide +kernel
theorem dX0_lay_273 : decode cX0_lay 273 = .ok (.invokevirtual 137, 3) := by decide +kernel
theorem tw_728 : (.code yX0_layJump cX0_layJump 3 none : Cond) ∈ tw_W := tw_in (t8_5 (List.mem_of_getElem? (i := 118) rfl)) rfl
theorem tw_729 : ∀ w ∈ ([.methodLink RX0 137 yX0_layJump, .instanceMethod yX0_layJump, .selects RX0 yX0_layJump yX0_layJump, .initialized RX0] : List Cond), w ∈ tw_W := al_c (tw_in (t8_5 (List.mem_of_getElem? (i := 115) rfl)) rfl) (al_c (tw_in (t8_5 (List.mem_of_getElem? (i := 117) rfl)) rfl) (al_c (tw_in (t7_5 (q := (yX0_layJump, 9)) (List.mem_of_getElem? (i := 3) rfl)) rfl) (al_c (tw_in (t8_1 (List.mem_of_getElem? (i := 13) rfl)) rfl) al_n)))
theorem dX0_lay_276 : decode cX0_lay 276 = .ok (.goto 10, 3) := by decide +kernel
theorem dX0_lay_216 : decode cX0_lay 216 = .ok (.aload_n 0, 1) := by decide +kernel
theorem dX0_lay_217 : decode cX0_lay 217 = .ok (.iconst 5, 1) := by decide +kernel
theorem dX0_lay_218 : decode cX0_lay 218 = .ok (.iload_n 3, 1) := by decide +kernel
theorem dX0_lay_219 : decode cX0_lay 219 = .ok (.invokevirtual 117, 3) := by decide +kernel
theorem dX0_lay_222 : decode cX0_lay 222 = .ok (.aload_n 0, 1) := by decide +kernel
theorem dX0_lay_223 : decode cX0_lay 223 = .ok (.iload_n 2, 1) := by decide +kernel
theorem dX0_lay_224 : decode cX0_lay 224 = .ok (.invokevirtual 128, 3) := by decide +kernel
theorem tw_730 : (.code yX0_laySign cX0_laySign 2 none : Cond) ∈ tw_W := tw_in (t8_5 (List.mem_of_getElem? (i := 97) rfl)) rfl
theorem tw_731 : ∀ w ∈ ([.methodLink RX0 128 yX0_laySign, .instanceMethod yX0_laySign, .selects RX0 yX0_laySign yX0_laySign, .initialized RX0] : List Cond), w ∈ tw_W := al_c (tw_in (t8_5 (List.mem_of_getElem? (i := 94) rfl)) rfl) (al_c (tw_in (t8_5 (List.mem_of_getElem? (i := 96) rfl)) rfl) (al_c (tw_in (t7_4 (q := (yX0_laySign, 9)) (List.mem_of_getElem? (i := 14) rfl)) rfl) (al_c (tw_in (t8_1 (List.mem_of_getElem? (i := 13) rfl)) rfl) al_n)))
theorem dX0_lay_227 : decode cX0_lay 227 = .ok (.goto 59, 3) := by decide +kernel
theorem dX0_lay_230 : decode cX0_lay 230 = .ok (.aload_n 0, 1) := by decide +kernel
theorem dX0_lay_231 : decode cX0_lay 231 = .ok (.iload_n 2, 1) := by decide +kernel
theorem dX0_lay_232 : decode cX0_lay 232 = .ok (.iload_n 3, 1) := by decide +kernel
theorem dX0_lay_233 : decode cX0_lay 233 = .ok (.invokevirtual 131, 3) := by decide +kernel
theorem tw_732 : (.code yX0_layCall cX0_layCall 3 none : Cond) ∈ tw_W := tw_in (t8_5 (List.mem_of_getElem? (i := 110) rfl)) rfl
theorem tw_733 : ∀ w ∈ ([.methodLink RX0 131 yX0_layCall, .instanceMethod yX0_layCall, .selects RX0 yX0_layCall yX0_layCall, .initialized RX0] : List Cond), w ∈ tw_W := al_c (tw_in (t8_5 (List.mem_of_getElem? (i := 107) rfl)) rfl) (al_c (tw_in (t8_5 (List.mem_of_getElem? (i := 109) rfl)) rfl) (al_c (tw_in (t7_5 (q := (yX0_layCall, 9)) (List.mem_of_getElem? (i := 1) rfl)) rfl) (al_c (tw_in (t8_1 (List.mem_of_getElem? (i := 13) rfl)) rfl) al_n)))
theorem dX0_lay_236 : decode cX0_lay 236 = .ok (.goto 50, 3) := by decide +kernel
theorem dX0_lay_239 : decode cX0_lay 239 = .ok (.aload_n 0, 1) := by decide +kernel
theorem dX0_lay_240 : decode cX0_lay 240 = .ok (.iconst 1, 1) := by decide +kernel
theorem dX0_lay_241 : decode cX0_lay 241 = .ok (.invokevirtual 134, 3) := by decide +kernel
theorem tw_734 : (.code yX0_outside cX0_outside 2 none : Cond) ∈ tw_W := tw_in (t8_5 (List.mem_of_getElem? (i := 114) rfl)) rfl
theorem tw_735 : ∀ w ∈ ([.methodLink RX0 134 yX0_outside, .instanceMethod yX0_outside, .selects RX0 yX0_outside yX0_outside, .initialized RX0] : List Cond), w ∈ tw_W := al_c (tw_in (t8_5 (List.mem_of_getElem? (i := 111) rfl)) rfl) (al_c (tw_in (t8_5 (List.mem_of_getElem? (i := 113) rfl)) rfl) (al_c (tw_in (t7_5 (q := (yX0_outside, 9)) (List.mem_of_getElem? (i := 2) rfl)) rfl) (al_c (tw_in (t8_1 (List.mem_of_getElem? (i := 13) rfl)) rfl) al_n)))
theorem dX0_lay_244 : decode cX0_lay 244 = .ok (.goto 42, 3) := by decide +kernel
theorem dX0_lay_247 : decode cX0_lay 247 = .ok (.aload_n 0, 1) := by decide +kernel
theorem dX0_lay_248 : decode cX0_lay 248 = .ok (.iconst 2, 1) := by decide +kernel
theorem dX0_lay_249 : decode cX0_lay 249 = .ok (.invokevirtual 134, 3) := by decide +kernel
theorem dX0_lay_252 : decode cX0_lay 252 = .ok (.goto 34, 3) := by decide +kernel
theorem dX0_lay_255 : decode cX0_lay 255 = .ok (.goto 31, 3) := by decide +kernel
theorem dX0_placeGlobals_0 : decode cX0_placeGlobals 0 = .ok (.iconst 4, 1) := by decide +kernel
theorem dX0_placeGlobals_1 : decode cX0_placeGlobals 1 = .ok (.aload_n 0, 1) := by decide +kernel
theorem dX0_placeGlobals_2 : decode cX0_placeGlobals 2 = .ok (.getfield 33, 3) := by decide +kernel
theorem dX0_placeGlobals_5 : decode cX0_placeGlobals 5 = .ok (.imul, 1) := by decide +kernel
theorem dX0_placeGlobals_6 : decode cX0_placeGlobals 6 = .ok (.istore_n 1, 1) := by decide +kernel
theorem dX0_placeGlobals_7 : decode cX0_placeGlobals 7 = .ok (.iconst 0, 1) := by decide +kernel
theorem dX0_placeGlobals_8 : decode cX0_placeGlobals 8 = .ok (.istore_n 2, 1) := by decide +kernel
theorem dX0_placeGlobals_9 : decode cX0_placeGlobals 9 = .ok (.iload_n 2, 1) := by decide +kernel
theorem dX0_placeGlobals_10 : decode cX0_placeGlobals 10 = .ok (.aload_n 0, 1) := by decide +kernel
theorem dX0_placeGlobals_11 : decode cX0_placeGlobals 11 = .ok (.getfield 15, 3) := by decide +kernel
theorem dX0_placeGlobals_14 : decode cX0_placeGlobals 14 = .ok (.getfield 85, 3) := by decide +kernel
theorem tw_736 : (.fieldLink RX0 85 "PocketCompiler$Program" "globalCount" "I" : Cond) ∈ tw_W := tw_in (t8_1 (List.mem_of_getElem? (i := 122) rfl)) rfl
theorem dX0_placeGlobals_17 : decode cX0_placeGlobals 17 = .ok (.if_icmp .ge 33, 3) := by decide +kernel
theorem dX0_placeGlobals_50 : decode cX0_placeGlobals 50 = .ok (.aload_n 0, 1) := by decide +kernel
theorem dX0_placeGlobals_51 : decode cX0_placeGlobals 51 = .ok (.getfield 15, 3) := by decide +kernel
theorem dX0_placeGlobals_54 : decode cX0_placeGlobals 54 = .ok (.iload_n 1, 1) := by decide +kernel
theorem dX0_placeGlobals_55 : decode cX0_placeGlobals 55 = .ok (.putfield 30, 3) := by decide +kernel
theorem dX0_placeGlobals_58 : decode cX0_placeGlobals 58 = .ok (.return_, 1) := by decide +kernel
theorem dX0_placeGlobals_20 : decode cX0_placeGlobals 20 = .ok (.aload_n 0, 1) := by decide +kernel
theorem dX0_placeGlobals_21 : decode cX0_placeGlobals 21 = .ok (.getfield 15, 3) := by decide +kernel
theorem dX0_placeGlobals_24 : decode cX0_placeGlobals 24 = .ok (.iload_n 2, 1) := by decide +kernel
theorem dX0_placeGlobals_25 : decode cX0_placeGlobals 25 = .ok (.iconst 1, 1) := by decide +kernel
theorem dX0_placeGlobals_26 : decode cX0_placeGlobals 26 = .ok (.iload_n 1, 1) := by decide +kernel
theorem dX0_placeGlobals_27 : decode cX0_placeGlobals 27 = .ok (.invokevirtual 88, 3) := by decide +kernel
theorem tw_737 : ∀ w ∈ ([.methodLink RX0 88 yX7_changeGlobal, .instanceMethod yX7_changeGlobal, .selects RX7 yX7_changeGlobal yX7_changeGlobal, .initialized RX7] : List Cond), w ∈ tw_W := al_c (tw_in (t8_5 (List.mem_of_getElem? (i := 148) rfl)) rfl) (al_c (tw_in (t8_4 (List.mem_of_getElem? (i := 231) rfl)) rfl) (al_c (tw_in (t8_4 (List.mem_of_getElem? (i := 232) rfl)) rfl) (al_c (tw_in (t8_1 (List.mem_of_getElem? (i := 8) rfl)) rfl) al_n)))
theorem dX0_placeGlobals_30 : decode cX0_placeGlobals 30 = .ok (.iload_n 1, 1) := by decide +kernel
theorem dX0_placeGlobals_31 : decode cX0_placeGlobals 31 = .ok (.iconst 4, 1) := by decide +kernel
theorem dX0_placeGlobals_32 : decode cX0_placeGlobals 32 = .ok (.aload_n 0, 1) := by decide +kernel
theorem dX0_placeGlobals_33 : decode cX0_placeGlobals 33 = .ok (.getfield 15, 3) := by decide +kernel
theorem dX0_placeGlobals_36 : decode cX0_placeGlobals 36 = .ok (.iload_n 2, 1) := by decide +kernel
theorem dX0_placeGlobals_37 : decode cX0_placeGlobals 37 = .ok (.iconst 0, 1) := by decide +kernel
theorem dX0_placeGlobals_38 : decode cX0_placeGlobals 38 = .ok (.invokevirtual 91, 3) := by decide +kernel
theorem dX0_placeGlobals_41 : decode cX0_placeGlobals 41 = .ok (.imul, 1) := by decide +kernel
theorem dX0_placeGlobals_42 : decode cX0_placeGlobals 42 = .ok (.iadd, 1) := by decide +kernel
theorem dX0_placeGlobals_43 : decode cX0_placeGlobals 43 = .ok (.istore_n 1, 1) := by decide +kernel
theorem dX0_placeGlobals_44 : decode cX0_placeGlobals 44 = .ok (.iinc 2 1, 3) := by decide +kernel
theorem dX0_placeGlobals_47 : decode cX0_placeGlobals 47 = .ok (.goto (-38), 3) := by decide +kernel
theorem dX0_layAll_0 : decode cX0_layAll 0 = .ok (.aload_n 0, 1) := by decide +kernel
theorem dX0_layAll_1 : decode cX0_layAll 1 = .ok (.iconst 0, 1) := by decide +kernel
theorem dX0_layAll_2 : decode cX0_layAll 2 = .ok (.putfield 33, 3) := by decide +kernel
theorem dX0_layAll_5 : decode cX0_layAll 5 = .ok (.aload_n 0, 1) := by decide +kernel
theorem dX0_layAll_6 : decode cX0_layAll 6 = .ok (.iconst 0, 1) := by decide +kernel
theorem dX0_layAll_7 : decode cX0_layAll 7 = .ok (.putfield 36, 3) := by decide +kernel
theorem dX0_layAll_10 : decode cX0_layAll 10 = .ok (.aload_n 0, 1) := by decide +kernel
theorem dX0_layAll_11 : decode cX0_layAll 11 = .ok (.iconst 0, 1) := by decide +kernel
theorem dX0_layAll_12 : decode cX0_layAll 12 = .ok (.putfield 39, 3) := by decide +kernel
theorem dX0_layAll_15 : decode cX0_layAll 15 = .ok (.aload_n 0, 1) := by decide +kernel
theorem dX0_layAll_16 : decode cX0_layAll 16 = .ok (.bipush 19, 2) := by decide +kernel
theorem dX0_layAll_18 : decode cX0_layAll 18 = .ok (.bipush 17, 2) := by decide +kernel
theorem dX0_layAll_20 : decode cX0_layAll 20 = .ok (.iconst 0, 1) := by decide +kernel
theorem dX0_layAll_21 : decode cX0_layAll 21 = .ok (.iconst 0, 1) := by decide +kernel
theorem dX0_layAll_22 : decode cX0_layAll 22 = .ok (.invokevirtual 42, 3) := by decide +kernel
theorem dX0_layAll_25 : decode cX0_layAll 25 = .ok (.aload_n 0, 1) := by decide +kernel
theorem dX0_layAll_26 : decode cX0_layAll 26 = .ok (.ldc 46, 2) := by decide +kernel
theorem dX0_layAll_28 : decode cX0_layAll 28 = .ok (.invokevirtual 47, 3) := by decide +kernel
theorem dX0_layAll_31 : decode cX0_layAll 31 = .ok (.iconst 0, 1) := by decide +kernel
theorem dX0_layAll_32 : decode cX0_layAll 32 = .ok (.istore_n 1, 1) := by decide +kernel
theorem dX0_layAll_33 : decode cX0_layAll 33 = .ok (.iload_n 1, 1) := by decide +kernel
theorem dX0_layAll_34 : decode cX0_layAll 34 = .ok (.aload_n 0, 1) := by decide +kernel
theorem dX0_layAll_35 : decode cX0_layAll 35 = .ok (.getfield 15, 3) := by decide +kernel
theorem dX0_layAll_38 : decode cX0_layAll 38 = .ok (.getfield 51, 3) := by decide +kernel
theorem tw_738 : (.fieldLink RX0 51 "PocketCompiler$Program" "deedCount" "I" : Cond) ∈ tw_W := tw_in (t8_1 (List.mem_of_getElem? (i := 138) rfl)) rfl
theorem dX0_layAll_41 : decode cX0_layAll 41 = .ok (.if_icmp .ge 59, 3) := by decide +kernel
theorem dX0_layAll_100 : decode cX0_layAll 100 = .ok (.aload_n 0, 1) := by decide +kernel
theorem dX0_layAll_101 : decode cX0_layAll 101 = .ok (.iconst 4, 1) := by decide +kernel
theorem dX0_layAll_102 : decode cX0_layAll 102 = .ok (.aload_n 0, 1) := by decide +kernel
theorem dX0_layAll_103 : decode cX0_layAll 103 = .ok (.getfield 33, 3) := by decide +kernel
theorem dX0_layAll_106 : decode cX0_layAll 106 = .ok (.imul, 1) := by decide +kernel
theorem dX0_layAll_107 : decode cX0_layAll 107 = .ok (.putfield 67, 3) := by decide +kernel
theorem dX0_layAll_110 : decode cX0_layAll 110 = .ok (.aload_n 0, 1) := by decide +kernel
theorem dX0_layAll_111 : decode cX0_layAll 111 = .ok (.getfield 36, 3) := by decide +kernel
theorem dX0_layAll_114 : decode cX0_layAll 114 = .ok (.ifCond .eq 7, 3) := by decide +kernel
theorem dX0_layAll_121 : decode cX0_layAll 121 = .ok (.aload_n 0, 1) := by decide +kernel
theorem dX0_layAll_122 : decode cX0_layAll 122 = .ok (.iconst 4, 1) := by decide +kernel
theorem dX0_layAll_123 : decode cX0_layAll 123 = .ok (.aload_n 0, 1) := by decide +kernel
theorem dX0_layAll_124 : decode cX0_layAll 124 = .ok (.getfield 33, 3) := by decide +kernel
theorem dX0_layAll_127 : decode cX0_layAll 127 = .ok (.imul, 1) := by decide +kernel
theorem dX0_layAll_128 : decode cX0_layAll 128 = .ok (.putfield 73, 3) := by decide +kernel
theorem dX0_layAll_131 : decode cX0_layAll 131 = .ok (.aload_n 0, 1) := by decide +kernel
theorem dX0_layAll_132 : decode cX0_layAll 132 = .ok (.getfield 39, 3) := by decide +kernel
theorem dX0_layAll_135 : decode cX0_layAll 135 = .ok (.ifCond .eq 7, 3) := by decide +kernel
theorem dX0_layAll_142 : decode cX0_layAll 142 = .ok (.aload_n 0, 1) := by decide +kernel
theorem dX0_layAll_143 : decode cX0_layAll 143 = .ok (.getfield 15, 3) := by decide +kernel
theorem dX0_layAll_146 : decode cX0_layAll 146 = .ok (.aload_n 0, 1) := by decide +kernel
theorem dX0_layAll_147 : decode cX0_layAll 147 = .ok (.getfield 33, 3) := by decide +kernel
theorem dX0_layAll_150 : decode cX0_layAll 150 = .ok (.putfield 79, 3) := by decide +kernel
theorem tw_739 : (.fieldLink RX0 79 "PocketCompiler$Program" "wordCount" "I" : Cond) ∈ tw_W := tw_in (t8_1 (List.mem_of_getElem? (i := 145) rfl)) rfl
theorem dX0_layAll_153 : decode cX0_layAll 153 = .ok (.aload_n 0, 1) := by decide +kernel
theorem dX0_layAll_154 : decode cX0_layAll 154 = .ok (.invokevirtual 82, 3) := by decide +kernel
theorem tw_740 : (.code yX0_placeGlobals cX0_placeGlobals 3 none : Cond) ∈ tw_W := tw_in (t8_5 (List.mem_of_getElem? (i := 147) rfl)) rfl
theorem tw_741 : ∀ w ∈ ([.methodLink RX0 82 yX0_placeGlobals, .instanceMethod yX0_placeGlobals, .selects RX0 yX0_placeGlobals yX0_placeGlobals, .initialized RX0] : List Cond), w ∈ tw_W := al_c (tw_in (t8_5 (List.mem_of_getElem? (i := 144) rfl)) rfl) (al_c (tw_in (t8_5 (List.mem_of_getElem? (i := 146) rfl)) rfl) (al_c (tw_in (t7_5 (q := (yX0_placeGlobals, 9)) (List.mem_of_getElem? (i := 10) rfl)) rfl) (al_c (tw_in (t8_1 (List.mem_of_getElem? (i := 13) rfl)) rfl) al_n)))
theorem dX0_layAll_157 : decode cX0_layAll 157 = .ok (.return_, 1) := by decide +kernel
theorem dX0_layAll_138 : decode cX0_layAll 138 = .ok (.aload_n 0, 1) := by decide +kernel
theorem dX0_layAll_139 : decode cX0_layAll 139 = .ok (.invokevirtual 76, 3) := by decide +kernel
theorem tw_742 : (.code yX0_layOver cX0_layOver 1 none : Cond) ∈ tw_W := tw_in (t8_5 (List.mem_of_getElem? (i := 143) rfl)) rfl
theorem tw_743 : ∀ w ∈ ([.methodLink RX0 76 yX0_layOver, .instanceMethod yX0_layOver, .selects RX0 yX0_layOver yX0_layOver, .initialized RX0] : List Cond), w ∈ tw_W := al_c (tw_in (t8_5 (List.mem_of_getElem? (i := 140) rfl)) rfl) (al_c (tw_in (t8_5 (List.mem_of_getElem? (i := 142) rfl)) rfl) (al_c (tw_in (t7_5 (q := (yX0_layOver, 9)) (List.mem_of_getElem? (i := 9) rfl)) rfl) (al_c (tw_in (t8_1 (List.mem_of_getElem? (i := 13) rfl)) rfl) al_n)))
theorem dX0_layAll_117 : decode cX0_layAll 117 = .ok (.aload_n 0, 1) := by decide +kernel
theorem dX0_layAll_118 : decode cX0_layAll 118 = .ok (.invokevirtual 70, 3) := by decide +kernel
theorem tw_744 : (.code yX0_layTimes cX0_layTimes 2 none : Cond) ∈ tw_W := tw_in (t8_5 (List.mem_of_getElem? (i := 139) rfl)) rfl
theorem tw_745 : ∀ w ∈ ([.methodLink RX0 70 yX0_layTimes, .instanceMethod yX0_layTimes, .selects RX0 yX0_layTimes yX0_layTimes, .initialized RX0] : List Cond), w ∈ tw_W := al_c (tw_in (t8_5 (List.mem_of_getElem? (i := 136) rfl)) rfl) (al_c (tw_in (t8_5 (List.mem_of_getElem? (i := 138) rfl)) rfl) (al_c (tw_in (t7_5 (q := (yX0_layTimes, 9)) (List.mem_of_getElem? (i := 8) rfl)) rfl) (al_c (tw_in (t8_1 (List.mem_of_getElem? (i := 13) rfl)) rfl) al_n)))
theorem dX0_layAll_44 : decode cX0_layAll 44 = .ok (.iload_n 1, 1) := by decide +kernel
theorem dX0_layAll_45 : decode cX0_layAll 45 = .ok (.sipush 3008, 3) := by decide +kernel
theorem dX0_layAll_48 : decode cX0_layAll 48 = .ok (.if_icmp .ge 52, 3) := by decide +kernel
theorem dX0_layAll_51 : decode cX0_layAll 51 = .ok (.aload_n 0, 1) := by decide +kernel
theorem dX0_layAll_52 : decode cX0_layAll 52 = .ok (.getfield 9, 3) := by decide +kernel
theorem dX0_layAll_55 : decode cX0_layAll 55 = .ok (.iload_n 1, 1) := by decide +kernel
theorem dX0_layAll_56 : decode cX0_layAll 56 = .ok (.iconst 4, 1) := by decide +kernel
theorem dX0_layAll_57 : decode cX0_layAll 57 = .ok (.aload_n 0, 1) := by decide +kernel
theorem dX0_layAll_58 : decode cX0_layAll 58 = .ok (.getfield 33, 3) := by decide +kernel
theorem dX0_layAll_61 : decode cX0_layAll 61 = .ok (.imul, 1) := by decide +kernel
theorem dX0_layAll_62 : decode cX0_layAll 62 = .ok (.iastore, 1) := by decide +kernel
theorem dX0_layAll_63 : decode cX0_layAll 63 = .ok (.aload_n 0, 1) := by decide +kernel
theorem dX0_layAll_64 : decode cX0_layAll 64 = .ok (.aload_n 0, 1) := by decide +kernel
theorem dX0_layAll_65 : decode cX0_layAll 65 = .ok (.getfield 15, 3) := by decide +kernel
theorem dX0_layAll_68 : decode cX0_layAll 68 = .ok (.getfield 54, 3) := by decide +kernel
theorem tw_746 : (.fieldLink RX0 54 "PocketCompiler$Program" "deeds" "[I" : Cond) ∈ tw_W := tw_in (t8_1 (List.mem_of_getElem? (i := 126) rfl)) rfl
theorem dX0_layAll_71 : decode cX0_layAll 71 = .ok (.iload_n 1, 1) := by decide +kernel
theorem dX0_layAll_72 : decode cX0_layAll 72 = .ok (.iaload, 1) := by decide +kernel
theorem dX0_layAll_73 : decode cX0_layAll 73 = .ok (.aload_n 0, 1) := by decide +kernel
theorem dX0_layAll_74 : decode cX0_layAll 74 = .ok (.getfield 15, 3) := by decide +kernel
theorem dX0_layAll_77 : decode cX0_layAll 77 = .ok (.getfield 57, 3) := by decide +kernel
theorem tw_747 : (.fieldLink RX0 57 "PocketCompiler$Program" "xs" "[I" : Cond) ∈ tw_W := tw_in (t8_1 (List.mem_of_getElem? (i := 130) rfl)) rfl
theorem dX0_layAll_80 : decode cX0_layAll 80 = .ok (.iload_n 1, 1) := by decide +kernel
theorem dX0_layAll_81 : decode cX0_layAll 81 = .ok (.iaload, 1) := by decide +kernel
theorem dX0_layAll_82 : decode cX0_layAll 82 = .ok (.aload_n 0, 1) := by decide +kernel
theorem dX0_layAll_83 : decode cX0_layAll 83 = .ok (.getfield 15, 3) := by decide +kernel
theorem dX0_layAll_86 : decode cX0_layAll 86 = .ok (.getfield 60, 3) := by decide +kernel
theorem tw_748 : (.fieldLink RX0 60 "PocketCompiler$Program" "ys" "[I" : Cond) ∈ tw_W := tw_in (t8_1 (List.mem_of_getElem? (i := 134) rfl)) rfl
theorem dX0_layAll_89 : decode cX0_layAll 89 = .ok (.iload_n 1, 1) := by decide +kernel
theorem dX0_layAll_90 : decode cX0_layAll 90 = .ok (.iaload, 1) := by decide +kernel
theorem dX0_layAll_91 : decode cX0_layAll 91 = .ok (.invokevirtual 63, 3) := by decide +kernel
theorem tw_749 : (.code yX0_lay cX0_lay 4 none : Cond) ∈ tw_W := tw_in (t8_5 (List.mem_of_getElem? (i := 41) rfl)) rfl
theorem tw_750 : ∀ w ∈ ([.methodLink RX0 63 yX0_lay, .instanceMethod yX0_lay, .selects RX0 yX0_lay yX0_lay, .initialized RX0] : List Cond), w ∈ tw_W := al_c (tw_in (t8_5 (List.mem_of_getElem? (i := 38) rfl)) rfl) (al_c (tw_in (t8_5 (List.mem_of_getElem? (i := 40) rfl)) rfl) (al_c (tw_in (t7_4 (q := (yX0_lay, 9)) (List.mem_of_getElem? (i := 3) rfl)) rfl) (al_c (tw_in (t8_1 (List.mem_of_getElem? (i := 13) rfl)) rfl) al_n)))
theorem dX0_layAll_94 : decode cX0_layAll 94 = .ok (.iinc 1 1, 3) := by decide +kernel
theorem dX0_layAll_97 : decode cX0_layAll 97 = .ok (.goto (-64), 3) := by decide +kernel
theorem dX0_assemble_0 : decode cX0_assemble 0 = .ok (.aload_n 0, 1) := by decide +kernel
theorem dX0_assemble_1 : decode cX0_assemble 1 = .ok (.aload_n 1, 1) := by decide +kernel
theorem dX0_assemble_2 : decode cX0_assemble 2 = .ok (.putfield 15, 3) := by decide +kernel
theorem dX0_assemble_5 : decode cX0_assemble 5 = .ok (.aload_n 0, 1) := by decide +kernel
theorem dX0_assemble_6 : decode cX0_assemble 6 = .ok (.iconst 0, 1) := by decide +kernel
theorem dX0_assemble_7 : decode cX0_assemble 7 = .ok (.putfield 23, 3) := by decide +kernel
theorem dX0_assemble_10 : decode cX0_assemble 10 = .ok (.aload_n 0, 1) := by decide +kernel
theorem dX0_assemble_11 : decode cX0_assemble 11 = .ok (.invokevirtual 27, 3) := by decide +kernel
theorem tw_751 : (.code yX0_layAll cX0_layAll 2 none : Cond) ∈ tw_W := tw_in (t8_5 (List.mem_of_getElem? (i := 28) rfl)) rfl
theorem tw_752 : ∀ w ∈ ([.methodLink RX0 27 yX0_layAll, .instanceMethod yX0_layAll, .selects RX0 yX0_layAll yX0_layAll, .initialized RX0] : List Cond), w ∈ tw_W := al_c (tw_in (t8_5 (List.mem_of_getElem? (i := 25) rfl)) rfl) (al_c (tw_in (t8_5 (List.mem_of_getElem? (i := 27) rfl)) rfl) (al_c (tw_in (t7_4 (q := (yX0_layAll, 9)) (List.mem_of_getElem? (i := 0) rfl)) rfl) (al_c (tw_in (t8_1 (List.mem_of_getElem? (i := 13) rfl)) rfl) al_n)))
theorem dX0_assemble_14 : decode cX0_assemble 14 = .ok (.aload_n 0, 1) := by decide +kernel
theorem dX0_assemble_15 : decode cX0_assemble 15 = .ok (.getfield 15, 3) := by decide +kernel
theorem dX0_assemble_18 : decode cX0_assemble 18 = .ok (.getfield 30, 3) := by decide +kernel
theorem dX0_assemble_21 : decode cX0_assemble 21 = .ok (.bipush 64, 2) := by decide +kernel
theorem dX0_assemble_23 : decode cX0_assemble 23 = .ok (.iadd, 1) := by decide +kernel
theorem dX0_assemble_24 : decode cX0_assemble 24 = .ok (.aload_n 0, 1) := by decide +kernel
theorem dX0_assemble_25 : decode cX0_assemble 25 = .ok (.getfield 19, 3) := by decide +kernel
theorem tw_753 : (.fieldLink RX0 19 "PocketCompiler$Assembler" "memoryBytes" "I" : Cond) ∈ tw_W := tw_in (t8_2 (List.mem_of_getElem? (i := 84) rfl)) rfl
theorem dX0_assemble_28 : decode cX0_assemble 28 = .ok (.if_icmp .le 5, 3) := by decide +kernel
theorem dX0_assemble_33 : decode cX0_assemble 33 = .ok (.aload_n 0, 1) := by decide +kernel
theorem dX0_assemble_34 : decode cX0_assemble 34 = .ok (.iconst 1, 1) := by decide +kernel
theorem dX0_assemble_35 : decode cX0_assemble 35 = .ok (.putfield 23, 3) := by decide +kernel
theorem dX0_assemble_38 : decode cX0_assemble 38 = .ok (.aload_n 0, 1) := by decide +kernel
theorem dX0_assemble_39 : decode cX0_assemble 39 = .ok (.invokevirtual 27, 3) := by decide +kernel
theorem dX0_assemble_42 : decode cX0_assemble 42 = .ok (.iconst 1, 1) := by decide +kernel
theorem dX0_assemble_43 : decode cX0_assemble 43 = .ok (.ireturn, 1) := by decide +kernel
theorem dX0_assemble_31 : decode cX0_assemble 31 = .ok (.iconst 0, 1) := by decide +kernel
theorem dX0_assemble_32 : decode cX0_assemble 32 = .ok (.ireturn, 1) := by decide +kernel
theorem om_a529659ce6 {x0 : Int} (h0 : 0 ≤ x0 ∧ x0 + 2010 ≤ 7000000) : 0 ≤ x0 ∧ x0 + 2010 ≤ 7000000 := by omega
theorem om_c4416744f3 {x0 x1 : Int} (h0 : x0 ≤ x1 ∧ x1 ≤ x0 + 2010) : x0 ≤ x1 ∧ x1 ≤ x0 + 2010 := by omega
theorem om_ea3616a34a {x0 : Int} (h0 : 0 ≤ x0 ∧ x0 + 2010 ≤ 7000000) : 0 ≤ x0 ∧ x0 + 4 ≤ 7000000 := by omega
theorem om_2f3508c4cd {x0 x1 : Int} (h0 : x0 = x1 + 4) : x1 ≤ x0 ∧ x0 ≤ x1 + 2010 := by omega
theorem om_96426d8dcc {x0 : Int} (h0 : 0 ≤ x0 ∧ x0 + 2010 ≤ 7000000) : 0 ≤ x0 ∧ x0 + 2 ≤ 7000000 := by omega
theorem om_75fedcf87d {x0 x1 : Int} (h0 : x0 ≤ x1 ∧ x1 ≤ x0 + 2) : x0 ≤ x1 ∧ x1 ≤ x0 + 2010 := by omega
theorem om_d158b3fb3f {x0 : Int} (h0 : 0 ≤ x0 ∧ x0 + 2010 ≤ 7000000) : 0 ≤ x0 ∧ x0 + 1 ≤ 7000000 := by omega
theorem om_04fb26e100 {x0 x1 : Int} (h0 : x0 = x1 + 1) : x1 ≤ x0 ∧ x0 ≤ x1 + 2010 := by omega
theorem om_224332967b {x0 : Int} (h0 : 0 ≤ x0 ∧ x0 + 2010 ≤ 7000000) : 0 ≤ x0 ∧ x0 + 8 ≤ 7000000 := by omega
theorem om_c54ed27d5e {x0 x1 : Int} (h0 : x0 ≤ x1 ∧ x1 ≤ x0 + 8) : x0 ≤ x1 ∧ x1 ≤ x0 + 2010 := by omega
theorem om_ea562c44b5 {x0 : Int} (h0 : x0 = (5 : Int)) (h1 : (16 : Int) ≤ x0) : False := by omega
theorem om_ccec5dd36d {x0 : Int} (h0 : x0 = (6 : Int)) (h1 : (16 : Int) ≤ x0) : False := by omega
theorem om_5ddccff482 {x0 : Int} (h0 : x0 = (7 : Int)) (h1 : (16 : Int) ≤ x0) : False := by omega
theorem om_7ce245830a {x0 : Int} (h0 : x0 = (8 : Int)) (h1 : (16 : Int) ≤ x0) : False := by omega
theorem om_6f7e2c324b {x0 : Int} (h0 : x0 = (9 : Int)) (h1 : (16 : Int) ≤ x0) : False := by omega
theorem om_78bceb068f {x0 : Int} (h0 : x0 = (10 : Int)) (h1 : (16 : Int) ≤ x0) : False := by omega
theorem om_d51d4e690a {x0 : Int} (h0 : x0 = (11 : Int)) (h1 : (16 : Int) ≤ x0) : False := by omega
theorem om_e6288c86a2 {x0 : Int} (h0 : x0 = (16 : Int)) (h1 : x0 < (16 : Int)) : False := by omega
theorem om_9801215178 {x0 : Int} (h0 : x0 = (16 : Int)) (h1 : (19 : Int) < x0) : False := by omega
theorem om_31c8d03c85 {x0 : Int} (h0 : 0 ≤ x0 ∧ x0 + 2010 ≤ 7000000) : 0 ≤ x0 ∧ x0 + 3 ≤ 7000000 := by omega
theorem om_6a69504fc3 {x0 x1 : Int} (h0 : x0 ≤ x1 ∧ x1 ≤ x0 + 3) : x0 ≤ x1 ∧ x1 ≤ x0 + 2010 := by omega
theorem om_9a661fad95 {x0 : Int} (h0 : x0 = (17 : Int)) (h1 : x0 < (16 : Int)) : False := by omega
theorem om_c11640bd4d {x0 : Int} (h0 : x0 = (17 : Int)) (h1 : (19 : Int) < x0) : False := by omega
theorem om_059abc5c88 {x0 : Int} (h0 : x0 = (18 : Int)) (h1 : x0 < (16 : Int)) : False := by omega
theorem om_32767137a2 {x0 : Int} (h0 : x0 = (18 : Int)) (h1 : (19 : Int) < x0) : False := by omega
theorem om_01bcc9030d {x0 : Int} (h0 : x0 = (19 : Int)) (h1 : x0 < (16 : Int)) : False := by omega
theorem om_49dede4d93 {x0 : Int} (h0 : x0 = (19 : Int)) (h1 : (19 : Int) < x0) : False := by omega
theorem om_077769039b {x0 x1 : Int} (h0 : 0 ≤ x0 ∧ x0 + 2010 ≤ 7000000) (h1 : x1 = x0 + 1) : 0 ≤ x1 ∧ x1 + 2 ≤ 7000000 := by omega
theorem om_ea1d7b5b33 {x0 x1 x2 : Int} (h0 : x0 = x1 + 1) (h1 : x0 ≤ x2 ∧ x2 ≤ x0 + 2) : x1 ≤ x2 ∧ x2 ≤ x1 + 2010 := by omega
theorem om_064ed07447 {x0 x1 : Int} (h0 : x0 = x1 + 2) : x1 ≤ x0 ∧ x0 ≤ x1 + 2010 := by omega
theorem om_24a4c214b1 {x0 : Int} : x0 ≤ x0 ∧ x0 ≤ x0 + 2010 := by omega
theorem om_2b3160bd27 {x0 : Int} (h0 : x0 ≠ (16 : Int)) (h1 : x0 ≠ (17 : Int)) (h2 : x0 ≠ (18 : Int)) (h3 : x0 ≠ (19 : Int)) (h4 : (16 : Int) ≤ x0) (h5 : x0 ≤ (19 : Int)) : False := by omega
set_option maxHeartbeats 4000000 in
set_option maxRecDepth 100000 in
theorem c_x_X0_lay (l : Launch) (dC : Nat → ClassId) (dI : Nat → Nat → Nat) (cI cB cZ cJ cR : ClassId) (tb : Nat → Nat) (sz : Nat) (ad : Nat → Nat) (pr : Int32 → Nat) (N : Nat) (L1 L2 : List Nat) (v : MS) (pa : Int32) (pb : Int32) (pc1 : Int32) (ps : Int32) (zNN : (N : Int) ≤ 4096) (hL1 : L1.length = 40) (hL2 : L2.length = 60) (rp : RP v) (hps : pr ps = ad 908) (es334 : (v.1 0 334) = ps) (zs : 0 ≤ (v.1 0 337).toInt ∧ (v.1 0 337).toInt + 2010 ≤ 7000000) : Met l yX0_lay (Cond.code yX0_lay cX0_lay 4 none :: tw_W) ({ frames := 4, cells := 0, slots := 0, locals := 91 }) (pc_ (dC, dI) (tyS cI cB cZ cJ cR) tb (cW ad pr N cI cR L1 L2 v) sz [.ref (ad 904), .int pa, .int pb, .int pc1]) (qv_ (dC, dI) (cW ad pr N cI cR L1 L2 v) sz (fun (u : MS) => FC [337, 339, 340] [0, 382] v u ∧ (Q_x_X0_lay L1 L2 N v pa pb pc1 u) ∧ ((v.1 0 337).toInt ≤ (u.1 0 337).toInt ∧ (u.1 0 337).toInt ≤ (v.1 0 337).toInt + 2010)) (fun (u : MS) => (cW ad pr N cI cR L1 L2 u))) 0 0 (va_A (cW ad pr N cI cR L1 L2 v) sz) := by
  refine Met.ofW (cc := cX0_lay) (maxL := 4) (ret := none) (by decide) rfl ?_
  intro p e s m args below meth c s₁ B hml hv
  obtain ⟨rfl, hsz, hP, hKK, hD0, hFx⟩ := hv
  have hK := hKK.1
  have hx := B.exec
  have hb := B.bytes
  have hr := B.returns
  have ht : ∀ w ∈ tw_W, w.before _ s = true := fun w h => atoms_spec (ws := Cond.code yX0_lay cX0_lay 4 none :: tw_W) B.pre w (List.mem_cons_of_mem _ h)
  have hown : s.vm.findClass RX0 = some m.cls := findClass_of_methodNamed B.named
  have hlocks := B.notSynchronized
  subst hsz
  unfold qv_
  have hD := hD0.self (sz := s.heap.size)
  generalize hAe : va_A (cW ad pr N cI cR L1 L2 v) s.heap.size = A at hD hFx ⊢
  have hA : ∀ q : Nat, s.heap.size ≤ q → A q := fun q h => by rw [← hAe]; exact Or.inr h
  have hS : va_S A s.heap s.heap [] := va_S.rf
  have hl := lv_entry ([.ref (ad 904), .int pa, .int pb, .int pc1]) (n := 4) (Nat.le_of_ble_eq_true rfl)
  rw [lg_entry_eq]
  generalize (lg_sl ([.ref (ad 904), .int pa, .int pb, .int pc1]) ++ List.replicate (4 - (lg_sl ([.ref (ad 904), .int pa, .int pb, .int pc1])).length) Slot.unset).toArray = ls at hl ⊢
  have hl : lv_has ls 4 [(0, .ref (ad 904)), (1, .int pa), (2, .int pb), (3, .int pc1)] := hl
  refine lv_iload_n hx hb dX0_lay_0 rfl (lv_at hl 1 rfl) ?_
  by_cases h1 : pa = 0
  · refine lv_tableIn (off := 115) (tgt := 116) hx hb dX0_lay_1 (by rw [h1]; decide) (by rw [h1]; decide) (by rw [h1]; decide) (by decide) ?_
    have z2 : pa.toInt = (0 : Int) := eq_z rfl (show (0 : Int32).toInt = (0 : Int) by decide) h1
    refine lv_aload_n hx hb dX0_lay_116 rfl (lv_at hl 0 rfl) ?_
    refine lv_iload_n hx hb dX0_lay_117 rfl (lv_at hl 2 rfl) ?_
    refine cu_v (rn_Vk (n := 1) (As := [.int pb]) (rest := []) hx hb hml hown ht hKK hFx hP hD hS hA (c_x_X0_layEnter l dC dI cI cB cZ cJ cR tb s.heap.size ad pr N L1 L2 v pb ps (show (N : Int) ≤ 4096 from (om_1c2c49c46c zNN)) (show L1.length = 40 from hL1) (show L2.length = 60 from hL2) (show RP v from rp) (show pr ps = ad 908 from hps) (show (v.1 0 334) = ps from es334) (show 0 ≤ (v.1 0 337).toInt ∧ (v.1 0 337).toInt + 2010 ≤ 7000000 from (om_a529659ce6 zs))) tw_720 tw_721 (by decide +kernel) rfl rfl ⟨Nat.le_of_ble_eq_true rfl, Nat.le_of_ble_eq_true rfl⟩ (List.range (cW ad pr N cI cR L1 L2 v).length) (rg_map _) (nd_range _) 4 rfl rfl rfl rfl hl.1 rfl (Nat.le_of_ble_eq_true rfl) dX0_lay_118 ⟨Nat.le_of_ble_eq_true rfl, Nat.le_of_ble_eq_true rfl⟩) hP hD hS hA (fun u4 H locs hw3 hP hD hS => ?_)
    obtain ⟨fr3, ex3, pz3⟩ := hw3
    refine W.widen (k := 0) (n := 0) (Nat.le_refl _) (Nat.le_refl _) ?_
    refine lv_goto (tgt := 286) hx hb dX0_lay_121 (by decide) ?_
    exact W.vret hx hb hr (fun t ht9 hW => ⟨⟨u4, rfl, ⟨(FC.tr (FC.rf _) (FC.up fr3 (by decide) (by decide))), ⟨zs, (Or.inl ⟨h1, u4, ex3, ⟨fr3, pz3⟩, rfl⟩)⟩, (show (v.1 0 337).toInt ≤ (u4.1 0 337).toInt ∧ (u4.1 0 337).toInt ≤ (v.1 0 337).toInt + 2010 from (om_c4416744f3 pz3))⟩, by rw [ht9]; exact hP, hD⟩, hS.F ht9⟩) hS.2.2 dX0_lay_286
  ·
    have z6 : pa.toInt ≠ (0 : Int) := ne_z rfl (show (0 : Int32).toInt = (0 : Int) by decide) h1
    by_cases h7 : pa = 1
    · refine lv_tableIn (off := 123) (tgt := 124) hx hb dX0_lay_1 (by rw [h7]; decide) (by rw [h7]; decide) (by rw [h7]; decide) (by decide) ?_
      have z8 : pa.toInt = (1 : Int) := eq_z rfl (show (1 : Int32).toInt = (1 : Int) by decide) h7
      refine lv_aload_n hx hb dX0_lay_124 rfl (lv_at hl 0 rfl) ?_
      refine cu_v (rn_Vk (n := 0) (As := []) (rest := []) hx hb hml hown ht hKK hFx hP hD hS hA (c_x_X0_layLeave l dC dI cI cB cZ cJ cR tb s.heap.size ad pr N L1 L2 v ps (show (N : Int) ≤ 4096 from (om_1c2c49c46c zNN)) (show pr ps = ad 908 from hps) (show (v.1 0 334) = ps from es334) (show 0 ≤ (v.1 0 337).toInt ∧ (v.1 0 337).toInt + 4 ≤ 7000000 from (om_ea3616a34a zs))) tw_722 tw_723 (by decide +kernel) rfl rfl ⟨Nat.le_of_ble_eq_true rfl, Nat.le_of_ble_eq_true rfl⟩ (List.range (cW ad pr N cI cR L1 L2 v).length) (rg_map _) (nd_range _) 4 rfl rfl rfl rfl hl.1 rfl (Nat.le_of_ble_eq_true rfl) dX0_lay_125 ⟨Nat.le_of_ble_eq_true rfl, Nat.le_of_ble_eq_true rfl⟩) hP hD hS hA (fun u10 H locs hw9 hP hD hS => ?_)
      obtain ⟨fr9, ex9, pz9, rs9⟩ := hw9
      refine W.widen (k := 0) (n := 0) (Nat.le_refl _) (Nat.le_refl _) ?_
      refine lv_goto (tgt := 286) hx hb dX0_lay_128 (by decide) ?_
      exact W.vret hx hb hr (fun t ht9 hW => ⟨⟨u10, rfl, ⟨(FC.tr (FC.rf _) (FC.up fr9 (by decide) (by decide))), ⟨zs, (Or.inr (⟨h1, (Or.inl ⟨h7, u10, ex9, ⟨fr9, pz9, rs9⟩, rfl⟩)⟩))⟩, (show (v.1 0 337).toInt ≤ (u10.1 0 337).toInt ∧ (u10.1 0 337).toInt ≤ (v.1 0 337).toInt + 2010 from (om_2f3508c4cd pz9))⟩, by rw [ht9]; exact hP, hD⟩, hS.F ht9⟩) hS.2.2 dX0_lay_286
    ·
      have z12 : pa.toInt ≠ (1 : Int) := ne_z rfl (show (1 : Int32).toInt = (1 : Int) by decide) h7
      by_cases h13 : pa = 2
      · refine lv_tableIn (off := 130) (tgt := 131) hx hb dX0_lay_1 (by rw [h13]; decide) (by rw [h13]; decide) (by rw [h13]; decide) (by decide) ?_
        have z14 : pa.toInt = (2 : Int) := eq_z rfl (show (2 : Int32).toInt = (2 : Int) by decide) h13
        refine lv_aload_n hx hb dX0_lay_131 rfl (lv_at hl 0 rfl) ?_
        refine lv_iload_n hx hb dX0_lay_132 rfl (lv_at hl 2 rfl) ?_
        refine cu_v (rn_Vk (n := 1) (As := [.int pb]) (rest := []) hx hb hml hown ht hKK hFx hP hD hS hA (c_x_X0_layNumber l dC dI cI cB cZ cJ cR tb s.heap.size ad pr N L1 L2 v pb ps (show (N : Int) ≤ 4096 from (om_1c2c49c46c zNN)) (show pr ps = ad 908 from hps) (show (v.1 0 334) = ps from es334) (show 0 ≤ (v.1 0 337).toInt ∧ (v.1 0 337).toInt + 2 ≤ 7000000 from (om_96426d8dcc zs))) tw_724 tw_725 (by decide +kernel) rfl rfl ⟨Nat.le_of_ble_eq_true rfl, Nat.le_of_ble_eq_true rfl⟩ (List.range (cW ad pr N cI cR L1 L2 v).length) (rg_map _) (nd_range _) 4 rfl rfl rfl rfl hl.1 rfl (Nat.le_of_ble_eq_true rfl) dX0_lay_133 ⟨Nat.le_of_ble_eq_true rfl, Nat.le_of_ble_eq_true rfl⟩) hP hD hS hA (fun u16 H locs hw15 hP hD hS => ?_)
        obtain ⟨fr15, ex15, pz15, rs15⟩ := hw15
        refine W.widen (k := 0) (n := 0) (Nat.le_refl _) (Nat.le_refl _) ?_
        refine lv_goto (tgt := 286) hx hb dX0_lay_136 (by decide) ?_
        exact W.vret hx hb hr (fun t ht9 hW => ⟨⟨u16, rfl, ⟨(FC.tr (FC.rf _) (FC.up fr15 (by decide) (by decide))), ⟨zs, (Or.inr (⟨h1, (Or.inr (⟨h7, (Or.inl ⟨h13, u16, ex15, ⟨fr15, pz15, rs15⟩, rfl⟩)⟩))⟩))⟩, (show (v.1 0 337).toInt ≤ (u16.1 0 337).toInt ∧ (u16.1 0 337).toInt ≤ (v.1 0 337).toInt + 2010 from (om_75fedcf87d pz15))⟩, by rw [ht9]; exact hP, hD⟩, hS.F ht9⟩) hS.2.2 dX0_lay_286
      ·
        have z18 : pa.toInt ≠ (2 : Int) := ne_z rfl (show (2 : Int32).toInt = (2 : Int) by decide) h13
        by_cases h19 : pa = 3
        · refine lv_tableIn (off := 138) (tgt := 139) hx hb dX0_lay_1 (by rw [h19]; decide) (by rw [h19]; decide) (by rw [h19]; decide) (by decide) ?_
          have z20 : pa.toInt = (3 : Int) := eq_z rfl (show (3 : Int32).toInt = (3 : Int) by decide) h19
          refine lv_aload_n hx hb dX0_lay_139 rfl (lv_at hl 0 rfl) ?_
          refine lv_bipush (v := 10) hx hb dX0_lay_140 (by decide) ?_
          refine lv_iload_n hx hb dX0_lay_142 rfl (lv_at hl 2 rfl) ?_
          refine cu_v (rn_Vk (n := 2) (As := [.int 10, .int pb]) (rest := []) hx hb hml hown ht hKK hFx hP hD hS hA (c_x_X0_loadSlot l dC dI cI cB cZ cJ cR tb s.heap.size ad pr N L1 L2 v (10 : Int32) pb ps (show (N : Int) ≤ 4096 from (om_1c2c49c46c zNN)) (show pr ps = ad 908 from hps) (show (v.1 0 334) = ps from es334) (show 0 ≤ (v.1 0 337).toInt ∧ (v.1 0 337).toInt + 1 ≤ 7000000 from (om_d158b3fb3f zs))) tw_716 tw_717 (by decide +kernel) rfl rfl ⟨Nat.le_of_ble_eq_true rfl, Nat.le_of_ble_eq_true rfl⟩ (List.range (cW ad pr N cI cR L1 L2 v).length) (rg_map _) (nd_range _) 4 rfl rfl rfl rfl hl.1 rfl (Nat.le_of_ble_eq_true rfl) dX0_lay_143 ⟨Nat.le_of_ble_eq_true rfl, Nat.le_of_ble_eq_true rfl⟩) hP hD hS hA (fun u22 H locs hw21 hP hD hS => ?_)
          obtain ⟨fr21, ex21, pz21, rs21⟩ := hw21
          refine W.widen (k := 0) (n := 0) (Nat.le_refl _) (Nat.le_refl _) ?_
          refine lv_goto (tgt := 286) hx hb dX0_lay_146 (by decide) ?_
          exact W.vret hx hb hr (fun t ht9 hW => ⟨⟨u22, rfl, ⟨(FC.tr (FC.rf _) (FC.up fr21 (by decide) (by decide))), ⟨zs, (Or.inr (⟨h1, (Or.inr (⟨h7, (Or.inr (⟨h13, (Or.inl ⟨h19, u22, ex21, ⟨fr21, pz21, rs21⟩, rfl⟩)⟩))⟩))⟩))⟩, (show (v.1 0 337).toInt ≤ (u22.1 0 337).toInt ∧ (u22.1 0 337).toInt ≤ (v.1 0 337).toInt + 2010 from (om_04fb26e100 pz21))⟩, by rw [ht9]; exact hP, hD⟩, hS.F ht9⟩) hS.2.2 dX0_lay_286
        ·
          have z24 : pa.toInt ≠ (3 : Int) := ne_z rfl (show (3 : Int32).toInt = (3 : Int) by decide) h19
          by_cases h25 : pa = 4
          · refine lv_tableIn (off := 148) (tgt := 149) hx hb dX0_lay_1 (by rw [h25]; decide) (by rw [h25]; decide) (by rw [h25]; decide) (by decide) ?_
            have z26 : pa.toInt = (4 : Int) := eq_z rfl (show (4 : Int32).toInt = (4 : Int) by decide) h25
            refine lv_aload_n hx hb dX0_lay_149 rfl (lv_at hl 0 rfl) ?_
            refine lv_iload_n hx hb dX0_lay_150 rfl (lv_at hl 2 rfl) ?_
            refine cu_v (rn_Vk (n := 1) (As := [.int pb]) (rest := []) hx hb hml hown ht hKK hFx hP hD hS hA (c_x_X0_storeSlot l dC dI cI cB cZ cJ cR tb s.heap.size ad pr N L1 L2 v pb ps (show (N : Int) ≤ 4096 from (om_1c2c49c46c zNN)) (show pr ps = ad 908 from hps) (show (v.1 0 334) = ps from es334) (show 0 ≤ (v.1 0 337).toInt ∧ (v.1 0 337).toInt + 1 ≤ 7000000 from (om_d158b3fb3f zs))) tw_714 tw_715 (by decide +kernel) rfl rfl ⟨Nat.le_of_ble_eq_true rfl, Nat.le_of_ble_eq_true rfl⟩ (List.range (cW ad pr N cI cR L1 L2 v).length) (rg_map _) (nd_range _) 4 rfl rfl rfl rfl hl.1 rfl (Nat.le_of_ble_eq_true rfl) dX0_lay_151 ⟨Nat.le_of_ble_eq_true rfl, Nat.le_of_ble_eq_true rfl⟩) hP hD hS hA (fun u28 H locs hw27 hP hD hS => ?_)
            obtain ⟨fr27, ex27, pz27, rs27⟩ := hw27
            refine W.widen (k := 0) (n := 0) (Nat.le_refl _) (Nat.le_refl _) ?_
            refine lv_goto (tgt := 286) hx hb dX0_lay_154 (by decide) ?_
            exact W.vret hx hb hr (fun t ht9 hW => ⟨⟨u28, rfl, ⟨(FC.tr (FC.rf _) (FC.up fr27 (by decide) (by decide))), ⟨zs, (Or.inr (⟨h1, (Or.inr (⟨h7, (Or.inr (⟨h13, (Or.inr (⟨h19, (Or.inl ⟨h25, u28, ex27, ⟨fr27, pz27, rs27⟩, rfl⟩)⟩))⟩))⟩))⟩))⟩, (show (v.1 0 337).toInt ≤ (u28.1 0 337).toInt ∧ (u28.1 0 337).toInt ≤ (v.1 0 337).toInt + 2010 from (om_04fb26e100 pz27))⟩, by rw [ht9]; exact hP, hD⟩, hS.F ht9⟩) hS.2.2 dX0_lay_286
          ·
            have z30 : pa.toInt ≠ (4 : Int) := ne_z rfl (show (4 : Int32).toInt = (4 : Int) by decide) h25
            by_cases h31 : pa = 5
            · refine lv_tableIn (off := 257) (tgt := 258) hx hb dX0_lay_1 (by rw [h31]; decide) (by rw [h31]; decide) (by rw [h31]; decide) (by decide) ?_
              have z32 : pa.toInt = (5 : Int) := eq_z rfl (show (5 : Int32).toInt = (5 : Int) by decide) h31
              refine lv_iload_n hx hb dX0_lay_258 rfl (lv_at hl 1 rfl) ?_
              refine lv_bipush (v := 16) hx hb dX0_lay_259 (by decide) ?_
              refine lv_icmp_lt (tgt := 279) hx hb dX0_lay_261 (by decide) (fun h33 => ?_) (fun h33 => ?_)
              · have z34 : pa.toInt < (16 : Int) := lt_z rfl (show (16 : Int32).toInt = (16 : Int) by decide) h33
                refine lv_aload_n hx hb dX0_lay_279 rfl (lv_at hl 0 rfl) ?_
                refine lv_iload_n hx hb dX0_lay_280 rfl (lv_at hl 1 rfl) ?_
                refine lv_iload_n hx hb dX0_lay_281 rfl (lv_at hl 2 rfl) ?_
                refine lv_iload_n hx hb dX0_lay_282 rfl (lv_at hl 3 rfl) ?_
                refine cu_v (rn_Vk (n := 3) (As := [.int pa, .int pb, .int pc1]) (rest := []) hx hb hml hown ht hKK hFx hP hD hS hA (c_x_X0_layPlace l dC dI cI cB cZ cJ cR tb s.heap.size ad pr N L1 L2 v pa pb pc1 ps (show (N : Int) ≤ 4096 from (om_1c2c49c46c zNN)) (show L1.length = 40 from hL1) (show L2.length = 60 from hL2) (show RP v from rp) (show pr ps = ad 908 from hps) (show (v.1 0 334) = ps from es334) (show 0 ≤ (v.1 0 337).toInt ∧ (v.1 0 337).toInt + 8 ≤ 7000000 from (om_224332967b zs))) tw_726 tw_727 (by decide +kernel) rfl rfl ⟨Nat.le_of_ble_eq_true rfl, Nat.le_of_ble_eq_true rfl⟩ (List.range (cW ad pr N cI cR L1 L2 v).length) (rg_map _) (nd_range _) 4 rfl rfl rfl rfl hl.1 rfl (Nat.le_of_ble_eq_true rfl) dX0_lay_283 ⟨Nat.le_of_ble_eq_true rfl, Nat.le_of_ble_eq_true rfl⟩) hP hD hS hA (fun u36 H locs hw35 hP hD hS => ?_)
                obtain ⟨fr35, ex35, pz35, rs35⟩ := hw35
                refine W.widen (k := 0) (n := 0) (Nat.le_refl _) (Nat.le_refl _) ?_
                exact W.vret hx hb hr (fun t ht9 hW => ⟨⟨u36, rfl, ⟨(FC.tr (FC.rf _) (FC.up fr35 (by decide) (by decide))), ⟨zs, (Or.inr (⟨h1, (Or.inr (⟨h7, (Or.inr (⟨h13, (Or.inr (⟨h19, (Or.inr (⟨h25, (Or.inl ⟨h31, z34, u36, ex35, ⟨fr35, pz35, rs35⟩, rfl⟩)⟩))⟩))⟩))⟩))⟩))⟩, (show (v.1 0 337).toInt ≤ (u36.1 0 337).toInt ∧ (u36.1 0 337).toInt ≤ (v.1 0 337).toInt + 2010 from (om_c54ed27d5e pz35))⟩, by rw [ht9]; exact hP, hD⟩, hS.F ht9⟩) hS.2.2 dX0_lay_286
              · have z38 : (16 : Int) ≤ pa.toInt := nlt_z rfl (show (16 : Int32).toInt = (16 : Int) by decide) h33
                exact False.elim (om_ea562c44b5 z32 z38)
            ·
              have z39 : pa.toInt ≠ (5 : Int) := ne_z rfl (show (5 : Int32).toInt = (5 : Int) by decide) h31
              by_cases h40 : pa = 6
              · refine lv_tableIn (off := 257) (tgt := 258) hx hb dX0_lay_1 (by rw [h40]; decide) (by rw [h40]; decide) (by rw [h40]; decide) (by decide) ?_
                have z41 : pa.toInt = (6 : Int) := eq_z rfl (show (6 : Int32).toInt = (6 : Int) by decide) h40
                refine lv_iload_n hx hb dX0_lay_258 rfl (lv_at hl 1 rfl) ?_
                refine lv_bipush (v := 16) hx hb dX0_lay_259 (by decide) ?_
                refine lv_icmp_lt (tgt := 279) hx hb dX0_lay_261 (by decide) (fun h42 => ?_) (fun h42 => ?_)
                · have z43 : pa.toInt < (16 : Int) := lt_z rfl (show (16 : Int32).toInt = (16 : Int) by decide) h42
                  refine lv_aload_n hx hb dX0_lay_279 rfl (lv_at hl 0 rfl) ?_
                  refine lv_iload_n hx hb dX0_lay_280 rfl (lv_at hl 1 rfl) ?_
                  refine lv_iload_n hx hb dX0_lay_281 rfl (lv_at hl 2 rfl) ?_
                  refine lv_iload_n hx hb dX0_lay_282 rfl (lv_at hl 3 rfl) ?_
                  refine cu_v (rn_Vk (n := 3) (As := [.int pa, .int pb, .int pc1]) (rest := []) hx hb hml hown ht hKK hFx hP hD hS hA (c_x_X0_layPlace l dC dI cI cB cZ cJ cR tb s.heap.size ad pr N L1 L2 v pa pb pc1 ps (show (N : Int) ≤ 4096 from (om_1c2c49c46c zNN)) (show L1.length = 40 from hL1) (show L2.length = 60 from hL2) (show RP v from rp) (show pr ps = ad 908 from hps) (show (v.1 0 334) = ps from es334) (show 0 ≤ (v.1 0 337).toInt ∧ (v.1 0 337).toInt + 8 ≤ 7000000 from (om_224332967b zs))) tw_726 tw_727 (by decide +kernel) rfl rfl ⟨Nat.le_of_ble_eq_true rfl, Nat.le_of_ble_eq_true rfl⟩ (List.range (cW ad pr N cI cR L1 L2 v).length) (rg_map _) (nd_range _) 4 rfl rfl rfl rfl hl.1 rfl (Nat.le_of_ble_eq_true rfl) dX0_lay_283 ⟨Nat.le_of_ble_eq_true rfl, Nat.le_of_ble_eq_true rfl⟩) hP hD hS hA (fun u45 H locs hw44 hP hD hS => ?_)
                  obtain ⟨fr44, ex44, pz44, rs44⟩ := hw44
                  refine W.widen (k := 0) (n := 0) (Nat.le_refl _) (Nat.le_refl _) ?_
                  exact W.vret hx hb hr (fun t ht9 hW => ⟨⟨u45, rfl, ⟨(FC.tr (FC.rf _) (FC.up fr44 (by decide) (by decide))), ⟨zs, (Or.inr (⟨h1, (Or.inr (⟨h7, (Or.inr (⟨h13, (Or.inr (⟨h19, (Or.inr (⟨h25, (Or.inr (⟨h31, (Or.inl ⟨h40, z43, u45, ex44, ⟨fr44, pz44, rs44⟩, rfl⟩)⟩))⟩))⟩))⟩))⟩))⟩))⟩, (show (v.1 0 337).toInt ≤ (u45.1 0 337).toInt ∧ (u45.1 0 337).toInt ≤ (v.1 0 337).toInt + 2010 from (om_c54ed27d5e pz44))⟩, by rw [ht9]; exact hP, hD⟩, hS.F ht9⟩) hS.2.2 dX0_lay_286
                · have z47 : (16 : Int) ≤ pa.toInt := nlt_z rfl (show (16 : Int32).toInt = (16 : Int) by decide) h42
                  exact False.elim (om_ccec5dd36d z41 z47)
              ·
                have z48 : pa.toInt ≠ (6 : Int) := ne_z rfl (show (6 : Int32).toInt = (6 : Int) by decide) h40
                by_cases h49 : pa = 7
                · refine lv_tableIn (off := 257) (tgt := 258) hx hb dX0_lay_1 (by rw [h49]; decide) (by rw [h49]; decide) (by rw [h49]; decide) (by decide) ?_
                  have z50 : pa.toInt = (7 : Int) := eq_z rfl (show (7 : Int32).toInt = (7 : Int) by decide) h49
                  refine lv_iload_n hx hb dX0_lay_258 rfl (lv_at hl 1 rfl) ?_
                  refine lv_bipush (v := 16) hx hb dX0_lay_259 (by decide) ?_
                  refine lv_icmp_lt (tgt := 279) hx hb dX0_lay_261 (by decide) (fun h51 => ?_) (fun h51 => ?_)
                  · have z52 : pa.toInt < (16 : Int) := lt_z rfl (show (16 : Int32).toInt = (16 : Int) by decide) h51
                    refine lv_aload_n hx hb dX0_lay_279 rfl (lv_at hl 0 rfl) ?_
                    refine lv_iload_n hx hb dX0_lay_280 rfl (lv_at hl 1 rfl) ?_
                    refine lv_iload_n hx hb dX0_lay_281 rfl (lv_at hl 2 rfl) ?_
                    refine lv_iload_n hx hb dX0_lay_282 rfl (lv_at hl 3 rfl) ?_
                    refine cu_v (rn_Vk (n := 3) (As := [.int pa, .int pb, .int pc1]) (rest := []) hx hb hml hown ht hKK hFx hP hD hS hA (c_x_X0_layPlace l dC dI cI cB cZ cJ cR tb s.heap.size ad pr N L1 L2 v pa pb pc1 ps (show (N : Int) ≤ 4096 from (om_1c2c49c46c zNN)) (show L1.length = 40 from hL1) (show L2.length = 60 from hL2) (show RP v from rp) (show pr ps = ad 908 from hps) (show (v.1 0 334) = ps from es334) (show 0 ≤ (v.1 0 337).toInt ∧ (v.1 0 337).toInt + 8 ≤ 7000000 from (om_224332967b zs))) tw_726 tw_727 (by decide +kernel) rfl rfl ⟨Nat.le_of_ble_eq_true rfl, Nat.le_of_ble_eq_true rfl⟩ (List.range (cW ad pr N cI cR L1 L2 v).length) (rg_map _) (nd_range _) 4 rfl rfl rfl rfl hl.1 rfl (Nat.le_of_ble_eq_true rfl) dX0_lay_283 ⟨Nat.le_of_ble_eq_true rfl, Nat.le_of_ble_eq_true rfl⟩) hP hD hS hA (fun u54 H locs hw53 hP hD hS => ?_)
                    obtain ⟨fr53, ex53, pz53, rs53⟩ := hw53
                    refine W.widen (k := 0) (n := 0) (Nat.le_refl _) (Nat.le_refl _) ?_
                    exact W.vret hx hb hr (fun t ht9 hW => ⟨⟨u54, rfl, ⟨(FC.tr (FC.rf _) (FC.up fr53 (by decide) (by decide))), ⟨zs, (Or.inr (⟨h1, (Or.inr (⟨h7, (Or.inr (⟨h13, (Or.inr (⟨h19, (Or.inr (⟨h25, (Or.inr (⟨h31, (Or.inr (⟨h40, (Or.inl ⟨h49, z52, u54, ex53, ⟨fr53, pz53, rs53⟩, rfl⟩)⟩))⟩))⟩))⟩))⟩))⟩))⟩))⟩, (show (v.1 0 337).toInt ≤ (u54.1 0 337).toInt ∧ (u54.1 0 337).toInt ≤ (v.1 0 337).toInt + 2010 from (om_c54ed27d5e pz53))⟩, by rw [ht9]; exact hP, hD⟩, hS.F ht9⟩) hS.2.2 dX0_lay_286
                  · have z56 : (16 : Int) ≤ pa.toInt := nlt_z rfl (show (16 : Int32).toInt = (16 : Int) by decide) h51
                    exact False.elim (om_5ddccff482 z50 z56)
                ·
                  have z57 : pa.toInt ≠ (7 : Int) := ne_z rfl (show (7 : Int32).toInt = (7 : Int) by decide) h49
                  by_cases h58 : pa = 8
                  · refine lv_tableIn (off := 257) (tgt := 258) hx hb dX0_lay_1 (by rw [h58]; decide) (by rw [h58]; decide) (by rw [h58]; decide) (by decide) ?_
                    have z59 : pa.toInt = (8 : Int) := eq_z rfl (show (8 : Int32).toInt = (8 : Int) by decide) h58
                    refine lv_iload_n hx hb dX0_lay_258 rfl (lv_at hl 1 rfl) ?_
                    refine lv_bipush (v := 16) hx hb dX0_lay_259 (by decide) ?_
                    refine lv_icmp_lt (tgt := 279) hx hb dX0_lay_261 (by decide) (fun h60 => ?_) (fun h60 => ?_)
                    · have z61 : pa.toInt < (16 : Int) := lt_z rfl (show (16 : Int32).toInt = (16 : Int) by decide) h60
                      refine lv_aload_n hx hb dX0_lay_279 rfl (lv_at hl 0 rfl) ?_
                      refine lv_iload_n hx hb dX0_lay_280 rfl (lv_at hl 1 rfl) ?_
                      refine lv_iload_n hx hb dX0_lay_281 rfl (lv_at hl 2 rfl) ?_
                      refine lv_iload_n hx hb dX0_lay_282 rfl (lv_at hl 3 rfl) ?_
                      refine cu_v (rn_Vk (n := 3) (As := [.int pa, .int pb, .int pc1]) (rest := []) hx hb hml hown ht hKK hFx hP hD hS hA (c_x_X0_layPlace l dC dI cI cB cZ cJ cR tb s.heap.size ad pr N L1 L2 v pa pb pc1 ps (show (N : Int) ≤ 4096 from (om_1c2c49c46c zNN)) (show L1.length = 40 from hL1) (show L2.length = 60 from hL2) (show RP v from rp) (show pr ps = ad 908 from hps) (show (v.1 0 334) = ps from es334) (show 0 ≤ (v.1 0 337).toInt ∧ (v.1 0 337).toInt + 8 ≤ 7000000 from (om_224332967b zs))) tw_726 tw_727 (by decide +kernel) rfl rfl ⟨Nat.le_of_ble_eq_true rfl, Nat.le_of_ble_eq_true rfl⟩ (List.range (cW ad pr N cI cR L1 L2 v).length) (rg_map _) (nd_range _) 4 rfl rfl rfl rfl hl.1 rfl (Nat.le_of_ble_eq_true rfl) dX0_lay_283 ⟨Nat.le_of_ble_eq_true rfl, Nat.le_of_ble_eq_true rfl⟩) hP hD hS hA (fun u63 H locs hw62 hP hD hS => ?_)
                      obtain ⟨fr62, ex62, pz62, rs62⟩ := hw62
                      refine W.widen (k := 0) (n := 0) (Nat.le_refl _) (Nat.le_refl _) ?_
                      exact W.vret hx hb hr (fun t ht9 hW => ⟨⟨u63, rfl, ⟨(FC.tr (FC.rf _) (FC.up fr62 (by decide) (by decide))), ⟨zs, (Or.inr (⟨h1, (Or.inr (⟨h7, (Or.inr (⟨h13, (Or.inr (⟨h19, (Or.inr (⟨h25, (Or.inr (⟨h31, (Or.inr (⟨h40, (Or.inr (⟨h49, (Or.inl ⟨h58, z61, u63, ex62, ⟨fr62, pz62, rs62⟩, rfl⟩)⟩))⟩))⟩))⟩))⟩))⟩))⟩))⟩))⟩, (show (v.1 0 337).toInt ≤ (u63.1 0 337).toInt ∧ (u63.1 0 337).toInt ≤ (v.1 0 337).toInt + 2010 from (om_c54ed27d5e pz62))⟩, by rw [ht9]; exact hP, hD⟩, hS.F ht9⟩) hS.2.2 dX0_lay_286
                    · have z65 : (16 : Int) ≤ pa.toInt := nlt_z rfl (show (16 : Int32).toInt = (16 : Int) by decide) h60
                      exact False.elim (om_7ce245830a z59 z65)
                  ·
                    have z66 : pa.toInt ≠ (8 : Int) := ne_z rfl (show (8 : Int32).toInt = (8 : Int) by decide) h58
                    by_cases h67 : pa = 9
                    · refine lv_tableIn (off := 257) (tgt := 258) hx hb dX0_lay_1 (by rw [h67]; decide) (by rw [h67]; decide) (by rw [h67]; decide) (by decide) ?_
                      have z68 : pa.toInt = (9 : Int) := eq_z rfl (show (9 : Int32).toInt = (9 : Int) by decide) h67
                      refine lv_iload_n hx hb dX0_lay_258 rfl (lv_at hl 1 rfl) ?_
                      refine lv_bipush (v := 16) hx hb dX0_lay_259 (by decide) ?_
                      refine lv_icmp_lt (tgt := 279) hx hb dX0_lay_261 (by decide) (fun h69 => ?_) (fun h69 => ?_)
                      · have z70 : pa.toInt < (16 : Int) := lt_z rfl (show (16 : Int32).toInt = (16 : Int) by decide) h69
                        refine lv_aload_n hx hb dX0_lay_279 rfl (lv_at hl 0 rfl) ?_
                        refine lv_iload_n hx hb dX0_lay_280 rfl (lv_at hl 1 rfl) ?_
                        refine lv_iload_n hx hb dX0_lay_281 rfl (lv_at hl 2 rfl) ?_
                        refine lv_iload_n hx hb dX0_lay_282 rfl (lv_at hl 3 rfl) ?_
                        refine cu_v (rn_Vk (n := 3) (As := [.int pa, .int pb, .int pc1]) (rest := []) hx hb hml hown ht hKK hFx hP hD hS hA (c_x_X0_layPlace l dC dI cI cB cZ cJ cR tb s.heap.size ad pr N L1 L2 v pa pb pc1 ps (show (N : Int) ≤ 4096 from (om_1c2c49c46c zNN)) (show L1.length = 40 from hL1) (show L2.length = 60 from hL2) (show RP v from rp) (show pr ps = ad 908 from hps) (show (v.1 0 334) = ps from es334) (show 0 ≤ (v.1 0 337).toInt ∧ (v.1 0 337).toInt + 8 ≤ 7000000 from (om_224332967b zs))) tw_726 tw_727 (by decide +kernel) rfl rfl ⟨Nat.le_of_ble_eq_true rfl, Nat.le_of_ble_eq_true rfl⟩ (List.range (cW ad pr N cI cR L1 L2 v).length) (rg_map _) (nd_range _) 4 rfl rfl rfl rfl hl.1 rfl (Nat.le_of_ble_eq_true rfl) dX0_lay_283 ⟨Nat.le_of_ble_eq_true rfl, Nat.le_of_ble_eq_true rfl⟩) hP hD hS hA (fun u72 H locs hw71 hP hD hS => ?_)
                        obtain ⟨fr71, ex71, pz71, rs71⟩ := hw71
                        refine W.widen (k := 0) (n := 0) (Nat.le_refl _) (Nat.le_refl _) ?_
                        exact W.vret hx hb hr (fun t ht9 hW => ⟨⟨u72, rfl, ⟨(FC.tr (FC.rf _) (FC.up fr71 (by decide) (by decide))), ⟨zs, (Or.inr (⟨h1, (Or.inr (⟨h7, (Or.inr (⟨h13, (Or.inr (⟨h19, (Or.inr (⟨h25, (Or.inr (⟨h31, (Or.inr (⟨h40, (Or.inr (⟨h49, (Or.inr (⟨h58, (Or.inl ⟨h67, z70, u72, ex71, ⟨fr71, pz71, rs71⟩, rfl⟩)⟩))⟩))⟩))⟩))⟩))⟩))⟩))⟩))⟩))⟩, (show (v.1 0 337).toInt ≤ (u72.1 0 337).toInt ∧ (u72.1 0 337).toInt ≤ (v.1 0 337).toInt + 2010 from (om_c54ed27d5e pz71))⟩, by rw [ht9]; exact hP, hD⟩, hS.F ht9⟩) hS.2.2 dX0_lay_286
                      · have z74 : (16 : Int) ≤ pa.toInt := nlt_z rfl (show (16 : Int32).toInt = (16 : Int) by decide) h69
                        exact False.elim (om_6f7e2c324b z68 z74)
                    ·
                      have z75 : pa.toInt ≠ (9 : Int) := ne_z rfl (show (9 : Int32).toInt = (9 : Int) by decide) h67
                      by_cases h76 : pa = 10
                      · refine lv_tableIn (off := 257) (tgt := 258) hx hb dX0_lay_1 (by rw [h76]; decide) (by rw [h76]; decide) (by rw [h76]; decide) (by decide) ?_
                        have z77 : pa.toInt = (10 : Int) := eq_z rfl (show (10 : Int32).toInt = (10 : Int) by decide) h76
                        refine lv_iload_n hx hb dX0_lay_258 rfl (lv_at hl 1 rfl) ?_
                        refine lv_bipush (v := 16) hx hb dX0_lay_259 (by decide) ?_
                        refine lv_icmp_lt (tgt := 279) hx hb dX0_lay_261 (by decide) (fun h78 => ?_) (fun h78 => ?_)
                        · have z79 : pa.toInt < (16 : Int) := lt_z rfl (show (16 : Int32).toInt = (16 : Int) by decide) h78
                          refine lv_aload_n hx hb dX0_lay_279 rfl (lv_at hl 0 rfl) ?_
                          refine lv_iload_n hx hb dX0_lay_280 rfl (lv_at hl 1 rfl) ?_
                          refine lv_iload_n hx hb dX0_lay_281 rfl (lv_at hl 2 rfl) ?_
                          refine lv_iload_n hx hb dX0_lay_282 rfl (lv_at hl 3 rfl) ?_
                          refine cu_v (rn_Vk (n := 3) (As := [.int pa, .int pb, .int pc1]) (rest := []) hx hb hml hown ht hKK hFx hP hD hS hA (c_x_X0_layPlace l dC dI cI cB cZ cJ cR tb s.heap.size ad pr N L1 L2 v pa pb pc1 ps (show (N : Int) ≤ 4096 from (om_1c2c49c46c zNN)) (show L1.length = 40 from hL1) (show L2.length = 60 from hL2) (show RP v from rp) (show pr ps = ad 908 from hps) (show (v.1 0 334) = ps from es334) (show 0 ≤ (v.1 0 337).toInt ∧ (v.1 0 337).toInt + 8 ≤ 7000000 from (om_224332967b zs))) tw_726 tw_727 (by decide +kernel) rfl rfl ⟨Nat.le_of_ble_eq_true rfl, Nat.le_of_ble_eq_true rfl⟩ (List.range (cW ad pr N cI cR L1 L2 v).length) (rg_map _) (nd_range _) 4 rfl rfl rfl rfl hl.1 rfl (Nat.le_of_ble_eq_true rfl) dX0_lay_283 ⟨Nat.le_of_ble_eq_true rfl, Nat.le_of_ble_eq_true rfl⟩) hP hD hS hA (fun u81 H locs hw80 hP hD hS => ?_)
                          obtain ⟨fr80, ex80, pz80, rs80⟩ := hw80
                          refine W.widen (k := 0) (n := 0) (Nat.le_refl _) (Nat.le_refl _) ?_
                          exact W.vret hx hb hr (fun t ht9 hW => ⟨⟨u81, rfl, ⟨(FC.tr (FC.rf _) (FC.up fr80 (by decide) (by decide))), ⟨zs, (Or.inr (⟨h1, (Or.inr (⟨h7, (Or.inr (⟨h13, (Or.inr (⟨h19, (Or.inr (⟨h25, (Or.inr (⟨h31, (Or.inr (⟨h40, (Or.inr (⟨h49, (Or.inr (⟨h58, (Or.inr (⟨h67, (Or.inl ⟨h76, z79, u81, ex80, ⟨fr80, pz80, rs80⟩, rfl⟩)⟩))⟩))⟩))⟩))⟩))⟩))⟩))⟩))⟩))⟩))⟩, (show (v.1 0 337).toInt ≤ (u81.1 0 337).toInt ∧ (u81.1 0 337).toInt ≤ (v.1 0 337).toInt + 2010 from (om_c54ed27d5e pz80))⟩, by rw [ht9]; exact hP, hD⟩, hS.F ht9⟩) hS.2.2 dX0_lay_286
                        · have z83 : (16 : Int) ≤ pa.toInt := nlt_z rfl (show (16 : Int32).toInt = (16 : Int) by decide) h78
                          exact False.elim (om_78bceb068f z77 z83)
                      ·
                        have z84 : pa.toInt ≠ (10 : Int) := ne_z rfl (show (10 : Int32).toInt = (10 : Int) by decide) h76
                        by_cases h85 : pa = 11
                        · refine lv_tableIn (off := 257) (tgt := 258) hx hb dX0_lay_1 (by rw [h85]; decide) (by rw [h85]; decide) (by rw [h85]; decide) (by decide) ?_
                          have z86 : pa.toInt = (11 : Int) := eq_z rfl (show (11 : Int32).toInt = (11 : Int) by decide) h85
                          refine lv_iload_n hx hb dX0_lay_258 rfl (lv_at hl 1 rfl) ?_
                          refine lv_bipush (v := 16) hx hb dX0_lay_259 (by decide) ?_
                          refine lv_icmp_lt (tgt := 279) hx hb dX0_lay_261 (by decide) (fun h87 => ?_) (fun h87 => ?_)
                          · have z88 : pa.toInt < (16 : Int) := lt_z rfl (show (16 : Int32).toInt = (16 : Int) by decide) h87
                            refine lv_aload_n hx hb dX0_lay_279 rfl (lv_at hl 0 rfl) ?_
                            refine lv_iload_n hx hb dX0_lay_280 rfl (lv_at hl 1 rfl) ?_
                            refine lv_iload_n hx hb dX0_lay_281 rfl (lv_at hl 2 rfl) ?_
                            refine lv_iload_n hx hb dX0_lay_282 rfl (lv_at hl 3 rfl) ?_
                            refine cu_v (rn_Vk (n := 3) (As := [.int pa, .int pb, .int pc1]) (rest := []) hx hb hml hown ht hKK hFx hP hD hS hA (c_x_X0_layPlace l dC dI cI cB cZ cJ cR tb s.heap.size ad pr N L1 L2 v pa pb pc1 ps (show (N : Int) ≤ 4096 from (om_1c2c49c46c zNN)) (show L1.length = 40 from hL1) (show L2.length = 60 from hL2) (show RP v from rp) (show pr ps = ad 908 from hps) (show (v.1 0 334) = ps from es334) (show 0 ≤ (v.1 0 337).toInt ∧ (v.1 0 337).toInt + 8 ≤ 7000000 from (om_224332967b zs))) tw_726 tw_727 (by decide +kernel) rfl rfl ⟨Nat.le_of_ble_eq_true rfl, Nat.le_of_ble_eq_true rfl⟩ (List.range (cW ad pr N cI cR L1 L2 v).length) (rg_map _) (nd_range _) 4 rfl rfl rfl rfl hl.1 rfl (Nat.le_of_ble_eq_true rfl) dX0_lay_283 ⟨Nat.le_of_ble_eq_true rfl, Nat.le_of_ble_eq_true rfl⟩) hP hD hS hA (fun u90 H locs hw89 hP hD hS => ?_)
                            obtain ⟨fr89, ex89, pz89, rs89⟩ := hw89
                            refine W.widen (k := 0) (n := 0) (Nat.le_refl _) (Nat.le_refl _) ?_
                            exact W.vret hx hb hr (fun t ht9 hW => ⟨⟨u90, rfl, ⟨(FC.tr (FC.rf _) (FC.up fr89 (by decide) (by decide))), ⟨zs, (Or.inr (⟨h1, (Or.inr (⟨h7, (Or.inr (⟨h13, (Or.inr (⟨h19, (Or.inr (⟨h25, (Or.inr (⟨h31, (Or.inr (⟨h40, (Or.inr (⟨h49, (Or.inr (⟨h58, (Or.inr (⟨h67, (Or.inr (⟨h76, (Or.inl ⟨h85, z88, u90, ex89, ⟨fr89, pz89, rs89⟩, rfl⟩)⟩))⟩))⟩))⟩))⟩))⟩))⟩))⟩))⟩))⟩))⟩))⟩, (show (v.1 0 337).toInt ≤ (u90.1 0 337).toInt ∧ (u90.1 0 337).toInt ≤ (v.1 0 337).toInt + 2010 from (om_c54ed27d5e pz89))⟩, by rw [ht9]; exact hP, hD⟩, hS.F ht9⟩) hS.2.2 dX0_lay_286
                          · have z92 : (16 : Int) ≤ pa.toInt := nlt_z rfl (show (16 : Int32).toInt = (16 : Int) by decide) h87
                            exact False.elim (om_d51d4e690a z86 z92)
                        ·
                          have z93 : pa.toInt ≠ (11 : Int) := ne_z rfl (show (11 : Int32).toInt = (11 : Int) by decide) h85
                          by_cases h94 : pa = 12
                          · refine lv_tableIn (off := 156) (tgt := 157) hx hb dX0_lay_1 (by rw [h94]; decide) (by rw [h94]; decide) (by rw [h94]; decide) (by decide) ?_
                            have z95 : pa.toInt = (12 : Int) := eq_z rfl (show (12 : Int32).toInt = (12 : Int) by decide) h94
                            refine lv_aload_n hx hb dX0_lay_157 rfl (lv_at hl 0 rfl) ?_
                            refine lv_ldc (v := 1073741875) hx hb hown (ht _ tw_700) dX0_lay_158 ?_
                            refine lv_bipush (v := 10) hx hb dX0_lay_160 (by decide) ?_
                            refine lv_iconst (v := 0) hx hb dX0_lay_162 (by decide) ?_
                            refine lv_bipush (v := 10) hx hb dX0_lay_163 (by decide) ?_
                            refine cu_v (rn_Vk (n := 4) (As := [.int 1073741875, .int 10, .int 0, .int 10]) (rest := []) hx hb hml hown ht hKK hFx hP hD hS hA (c_x_X0_three l dC dI cI cB cZ cJ cR tb s.heap.size ad pr N L1 L2 v (1073741875 : Int32) (10 : Int32) (0 : Int32) (10 : Int32) ps (show (N : Int) ≤ 4096 from (om_1c2c49c46c zNN)) (show pr ps = ad 908 from hps) (show (v.1 0 334) = ps from es334) (show 0 ≤ (v.1 0 337).toInt ∧ (v.1 0 337).toInt + 1 ≤ 7000000 from (om_d158b3fb3f zs))) tw_693 tw_694 (by decide +kernel) rfl rfl ⟨Nat.le_of_ble_eq_true rfl, Nat.le_of_ble_eq_true rfl⟩ (List.range (cW ad pr N cI cR L1 L2 v).length) (rg_map _) (nd_range _) 4 rfl rfl rfl rfl hl.1 rfl (Nat.le_of_ble_eq_true rfl) dX0_lay_165 ⟨Nat.le_of_ble_eq_true rfl, Nat.le_of_ble_eq_true rfl⟩) hP hD hS hA (fun u97 H locs hw96 hP hD hS => ?_)
                            obtain ⟨fr96, ex96, pz96, rs96⟩ := hw96
                            refine W.widen (k := 0) (n := 0) (Nat.le_refl _) (Nat.le_refl _) ?_
                            refine lv_goto (tgt := 286) hx hb dX0_lay_168 (by decide) ?_
                            exact W.vret hx hb hr (fun t ht9 hW => ⟨⟨u97, rfl, ⟨(FC.tr (FC.rf _) (FC.up fr96 (by decide) (by decide))), ⟨zs, (Or.inr (⟨h1, (Or.inr (⟨h7, (Or.inr (⟨h13, (Or.inr (⟨h19, (Or.inr (⟨h25, (Or.inr (⟨h31, (Or.inr (⟨h40, (Or.inr (⟨h49, (Or.inr (⟨h58, (Or.inr (⟨h67, (Or.inr (⟨h76, (Or.inr (⟨h85, (Or.inl ⟨h94, u97, ex96, ⟨fr96, pz96, rs96⟩, rfl⟩)⟩))⟩))⟩))⟩))⟩))⟩))⟩))⟩))⟩))⟩))⟩))⟩))⟩, (show (v.1 0 337).toInt ≤ (u97.1 0 337).toInt ∧ (u97.1 0 337).toInt ≤ (v.1 0 337).toInt + 2010 from (om_04fb26e100 pz96))⟩, by rw [ht9]; exact hP, hD⟩, hS.F ht9⟩) hS.2.2 dX0_lay_286
                          ·
                            have z99 : pa.toInt ≠ (12 : Int) := ne_z rfl (show (12 : Int32).toInt = (12 : Int) by decide) h94
                            by_cases h100 : pa = 13
                            · refine lv_tableIn (off := 170) (tgt := 171) hx hb dX0_lay_1 (by rw [h100]; decide) (by rw [h100]; decide) (by rw [h100]; decide) (by decide) ?_
                              have z101 : pa.toInt = (13 : Int) := eq_z rfl (show (13 : Int32).toInt = (13 : Int) by decide) h100
                              refine lv_aload_n hx hb dX0_lay_171 rfl (lv_at hl 0 rfl) ?_
                              refine lv_sipush (v := 12307) hx hb dX0_lay_172 (by decide) ?_
                              refine lv_bipush (v := 10) hx hb dX0_lay_175 (by decide) ?_
                              refine lv_bipush (v := 10) hx hb dX0_lay_177 (by decide) ?_
                              refine lv_iconst (v := 1) hx hb dX0_lay_179 (by decide) ?_
                              refine cu_v (rn_Vk (n := 4) (As := [.int 12307, .int 10, .int 10, .int 1]) (rest := []) hx hb hml hown ht hKK hFx hP hD hS hA (c_x_X0_immediate l dC dI cI cB cZ cJ cR tb s.heap.size ad pr N L1 L2 v (12307 : Int32) (10 : Int32) (10 : Int32) (1 : Int32) ps (show (N : Int) ≤ 4096 from (om_1c2c49c46c zNN)) (show pr ps = ad 908 from hps) (show (v.1 0 334) = ps from es334) (show 0 ≤ (v.1 0 337).toInt ∧ (v.1 0 337).toInt + 1 ≤ 7000000 from (om_d158b3fb3f zs))) tw_678 tw_679 (by decide +kernel) rfl rfl ⟨Nat.le_of_ble_eq_true rfl, Nat.le_of_ble_eq_true rfl⟩ (List.range (cW ad pr N cI cR L1 L2 v).length) (rg_map _) (nd_range _) 4 rfl rfl rfl rfl hl.1 rfl (Nat.le_of_ble_eq_true rfl) dX0_lay_180 ⟨Nat.le_of_ble_eq_true rfl, Nat.le_of_ble_eq_true rfl⟩) hP hD hS hA (fun u103 H locs hw102 hP hD hS => ?_)
                              obtain ⟨fr102, ex102, pz102, rs102⟩ := hw102
                              refine W.widen (k := 0) (n := 0) (Nat.le_refl _) (Nat.le_refl _) ?_
                              refine lv_goto (tgt := 286) hx hb dX0_lay_183 (by decide) ?_
                              exact W.vret hx hb hr (fun t ht9 hW => ⟨⟨u103, rfl, ⟨(FC.tr (FC.rf _) (FC.up fr102 (by decide) (by decide))), ⟨zs, (Or.inr (⟨h1, (Or.inr (⟨h7, (Or.inr (⟨h13, (Or.inr (⟨h19, (Or.inr (⟨h25, (Or.inr (⟨h31, (Or.inr (⟨h40, (Or.inr (⟨h49, (Or.inr (⟨h58, (Or.inr (⟨h67, (Or.inr (⟨h76, (Or.inr (⟨h85, (Or.inr (⟨h94, (Or.inl ⟨h100, u103, ex102, ⟨fr102, pz102, rs102⟩, rfl⟩)⟩))⟩))⟩))⟩))⟩))⟩))⟩))⟩))⟩))⟩))⟩))⟩))⟩))⟩, (show (v.1 0 337).toInt ≤ (u103.1 0 337).toInt ∧ (u103.1 0 337).toInt ≤ (v.1 0 337).toInt + 2010 from (om_04fb26e100 pz102))⟩, by rw [ht9]; exact hP, hD⟩, hS.F ht9⟩) hS.2.2 dX0_lay_286
                            ·
                              have z105 : pa.toInt ≠ (13 : Int) := ne_z rfl (show (13 : Int32).toInt = (13 : Int) by decide) h100
                              by_cases h106 : pa = 14
                              · refine lv_tableIn (off := 185) (tgt := 186) hx hb dX0_lay_1 (by rw [h106]; decide) (by rw [h106]; decide) (by rw [h106]; decide) (by decide) ?_
                                have z107 : pa.toInt = (14 : Int) := eq_z rfl (show (14 : Int32).toInt = (14 : Int) by decide) h106
                                refine lv_aload_n hx hb dX0_lay_186 rfl (lv_at hl 0 rfl) ?_
                                refine lv_sipush (v := 16403) hx hb dX0_lay_187 (by decide) ?_
                                refine lv_bipush (v := 10) hx hb dX0_lay_190 (by decide) ?_
                                refine lv_bipush (v := 10) hx hb dX0_lay_192 (by decide) ?_
                                refine lv_iconst (v := -1) hx hb dX0_lay_194 (by decide) ?_
                                refine cu_v (rn_Vk (n := 4) (As := [.int 16403, .int 10, .int 10, .int (-1)]) (rest := []) hx hb hml hown ht hKK hFx hP hD hS hA (c_x_X0_immediate l dC dI cI cB cZ cJ cR tb s.heap.size ad pr N L1 L2 v (16403 : Int32) (10 : Int32) (10 : Int32) (-1 : Int32) ps (show (N : Int) ≤ 4096 from (om_1c2c49c46c zNN)) (show pr ps = ad 908 from hps) (show (v.1 0 334) = ps from es334) (show 0 ≤ (v.1 0 337).toInt ∧ (v.1 0 337).toInt + 1 ≤ 7000000 from (om_d158b3fb3f zs))) tw_678 tw_679 (by decide +kernel) rfl rfl ⟨Nat.le_of_ble_eq_true rfl, Nat.le_of_ble_eq_true rfl⟩ (List.range (cW ad pr N cI cR L1 L2 v).length) (rg_map _) (nd_range _) 4 rfl rfl rfl rfl hl.1 rfl (Nat.le_of_ble_eq_true rfl) dX0_lay_195 ⟨Nat.le_of_ble_eq_true rfl, Nat.le_of_ble_eq_true rfl⟩) hP hD hS hA (fun u109 H locs hw108 hP hD hS => ?_)
                                obtain ⟨fr108, ex108, pz108, rs108⟩ := hw108
                                refine W.widen (k := 0) (n := 0) (Nat.le_refl _) (Nat.le_refl _) ?_
                                refine lv_goto (tgt := 286) hx hb dX0_lay_198 (by decide) ?_
                                exact W.vret hx hb hr (fun t ht9 hW => ⟨⟨u109, rfl, ⟨(FC.tr (FC.rf _) (FC.up fr108 (by decide) (by decide))), ⟨zs, (Or.inr (⟨h1, (Or.inr (⟨h7, (Or.inr (⟨h13, (Or.inr (⟨h19, (Or.inr (⟨h25, (Or.inr (⟨h31, (Or.inr (⟨h40, (Or.inr (⟨h49, (Or.inr (⟨h58, (Or.inr (⟨h67, (Or.inr (⟨h76, (Or.inr (⟨h85, (Or.inr (⟨h94, (Or.inr (⟨h100, (Or.inl ⟨h106, u109, ex108, ⟨fr108, pz108, rs108⟩, rfl⟩)⟩))⟩))⟩))⟩))⟩))⟩))⟩))⟩))⟩))⟩))⟩))⟩))⟩))⟩))⟩, (show (v.1 0 337).toInt ≤ (u109.1 0 337).toInt ∧ (u109.1 0 337).toInt ≤ (v.1 0 337).toInt + 2010 from (om_04fb26e100 pz108))⟩, by rw [ht9]; exact hP, hD⟩, hS.F ht9⟩) hS.2.2 dX0_lay_286
                              ·
                                have z111 : pa.toInt ≠ (14 : Int) := ne_z rfl (show (14 : Int32).toInt = (14 : Int) by decide) h106
                                by_cases h112 : pa = 15
                                · refine lv_tableIn (off := 200) (tgt := 201) hx hb dX0_lay_1 (by rw [h112]; decide) (by rw [h112]; decide) (by rw [h112]; decide) (by decide) ?_
                                  have z113 : pa.toInt = (15 : Int) := eq_z rfl (show (15 : Int32).toInt = (15 : Int) by decide) h112
                                  refine lv_aload_n hx hb dX0_lay_201 rfl (lv_at hl 0 rfl) ?_
                                  refine lv_sipush (v := 12339) hx hb dX0_lay_202 (by decide) ?_
                                  refine lv_bipush (v := 10) hx hb dX0_lay_205 (by decide) ?_
                                  refine lv_iconst (v := 0) hx hb dX0_lay_207 (by decide) ?_
                                  refine lv_bipush (v := 10) hx hb dX0_lay_208 (by decide) ?_
                                  refine cu_v (rn_Vk (n := 4) (As := [.int 12339, .int 10, .int 0, .int 10]) (rest := []) hx hb hml hown ht hKK hFx hP hD hS hA (c_x_X0_three l dC dI cI cB cZ cJ cR tb s.heap.size ad pr N L1 L2 v (12339 : Int32) (10 : Int32) (0 : Int32) (10 : Int32) ps (show (N : Int) ≤ 4096 from (om_1c2c49c46c zNN)) (show pr ps = ad 908 from hps) (show (v.1 0 334) = ps from es334) (show 0 ≤ (v.1 0 337).toInt ∧ (v.1 0 337).toInt + 1 ≤ 7000000 from (om_d158b3fb3f zs))) tw_693 tw_694 (by decide +kernel) rfl rfl ⟨Nat.le_of_ble_eq_true rfl, Nat.le_of_ble_eq_true rfl⟩ (List.range (cW ad pr N cI cR L1 L2 v).length) (rg_map _) (nd_range _) 4 rfl rfl rfl rfl hl.1 rfl (Nat.le_of_ble_eq_true rfl) dX0_lay_210 ⟨Nat.le_of_ble_eq_true rfl, Nat.le_of_ble_eq_true rfl⟩) hP hD hS hA (fun u115 H locs hw114 hP hD hS => ?_)
                                  obtain ⟨fr114, ex114, pz114, rs114⟩ := hw114
                                  refine W.widen (k := 0) (n := 0) (Nat.le_refl _) (Nat.le_refl _) ?_
                                  refine lv_goto (tgt := 286) hx hb dX0_lay_213 (by decide) ?_
                                  exact W.vret hx hb hr (fun t ht9 hW => ⟨⟨u115, rfl, ⟨(FC.tr (FC.rf _) (FC.up fr114 (by decide) (by decide))), ⟨zs, (Or.inr (⟨h1, (Or.inr (⟨h7, (Or.inr (⟨h13, (Or.inr (⟨h19, (Or.inr (⟨h25, (Or.inr (⟨h31, (Or.inr (⟨h40, (Or.inr (⟨h49, (Or.inr (⟨h58, (Or.inr (⟨h67, (Or.inr (⟨h76, (Or.inr (⟨h85, (Or.inr (⟨h94, (Or.inr (⟨h100, (Or.inr (⟨h106, (Or.inl ⟨h112, u115, ex114, ⟨fr114, pz114, rs114⟩, rfl⟩)⟩))⟩))⟩))⟩))⟩))⟩))⟩))⟩))⟩))⟩))⟩))⟩))⟩))⟩))⟩))⟩, (show (v.1 0 337).toInt ≤ (u115.1 0 337).toInt ∧ (u115.1 0 337).toInt ≤ (v.1 0 337).toInt + 2010 from (om_04fb26e100 pz114))⟩, by rw [ht9]; exact hP, hD⟩, hS.F ht9⟩) hS.2.2 dX0_lay_286
                                ·
                                  have z117 : pa.toInt ≠ (15 : Int) := ne_z rfl (show (15 : Int32).toInt = (15 : Int) by decide) h112
                                  by_cases h118 : pa = 16
                                  · refine lv_tableIn (off := 257) (tgt := 258) hx hb dX0_lay_1 (by rw [h118]; decide) (by rw [h118]; decide) (by rw [h118]; decide) (by decide) ?_
                                    have z119 : pa.toInt = (16 : Int) := eq_z rfl (show (16 : Int32).toInt = (16 : Int) by decide) h118
                                    refine lv_iload_n hx hb dX0_lay_258 rfl (lv_at hl 1 rfl) ?_
                                    refine lv_bipush (v := 16) hx hb dX0_lay_259 (by decide) ?_
                                    refine lv_icmp_lt (tgt := 279) hx hb dX0_lay_261 (by decide) (fun h120 => ?_) (fun h120 => ?_)
                                    · have z121 : pa.toInt < (16 : Int) := lt_z rfl (show (16 : Int32).toInt = (16 : Int) by decide) h120
                                      exact False.elim (om_e6288c86a2 z119 z121)
                                    · have z122 : (16 : Int) ≤ pa.toInt := nlt_z rfl (show (16 : Int32).toInt = (16 : Int) by decide) h120
                                      refine lv_iload_n hx hb dX0_lay_264 rfl (lv_at hl 1 rfl) ?_
                                      refine lv_bipush (v := 19) hx hb dX0_lay_265 (by decide) ?_
                                      refine lv_icmp_gt (tgt := 279) hx hb dX0_lay_267 (by decide) (fun h123 => ?_) (fun h123 => ?_)
                                      · have z124 : (19 : Int) < pa.toInt := lt_z (show (19 : Int32).toInt = (19 : Int) by decide) rfl h123
                                        exact False.elim (om_9801215178 z119 z124)
                                      · have z125 : pa.toInt ≤ (19 : Int) := nlt_z (show (19 : Int32).toInt = (19 : Int) by decide) rfl h123
                                        refine lv_aload_n hx hb dX0_lay_270 rfl (lv_at hl 0 rfl) ?_
                                        refine lv_iload_n hx hb dX0_lay_271 rfl (lv_at hl 1 rfl) ?_
                                        refine lv_iload_n hx hb dX0_lay_272 rfl (lv_at hl 2 rfl) ?_
                                        refine cu_v (rn_Vk (n := 2) (As := [.int pa, .int pb]) (rest := []) hx hb hml hown ht hKK hFx hP hD hS hA (c_x_X0_layJump l dC dI cI cB cZ cJ cR tb s.heap.size ad pr N L1 L2 v pa pb ps (show (N : Int) ≤ 4096 from (om_1c2c49c46c zNN)) (show pr ps = ad 908 from hps) (show (v.1 0 334) = ps from es334) (show 0 ≤ (v.1 0 337).toInt ∧ (v.1 0 337).toInt + 3 ≤ 7000000 from (om_31c8d03c85 zs))) tw_728 tw_729 (by decide +kernel) rfl rfl ⟨Nat.le_of_ble_eq_true rfl, Nat.le_of_ble_eq_true rfl⟩ (List.range (cW ad pr N cI cR L1 L2 v).length) (rg_map _) (nd_range _) 4 rfl rfl rfl rfl hl.1 rfl (Nat.le_of_ble_eq_true rfl) dX0_lay_273 ⟨Nat.le_of_ble_eq_true rfl, Nat.le_of_ble_eq_true rfl⟩) hP hD hS hA (fun u127 H locs hw126 hP hD hS => ?_)
                                        obtain ⟨fr126, ex126, pz126, rs126⟩ := hw126
                                        refine W.widen (k := 0) (n := 0) (Nat.le_refl _) (Nat.le_refl _) ?_
                                        refine lv_goto (tgt := 286) hx hb dX0_lay_276 (by decide) ?_
                                        exact W.vret hx hb hr (fun t ht9 hW => ⟨⟨u127, rfl, ⟨(FC.tr (FC.rf _) (FC.up fr126 (by decide) (by decide))), ⟨zs, (Or.inr (⟨h1, (Or.inr (⟨h7, (Or.inr (⟨h13, (Or.inr (⟨h19, (Or.inr (⟨h25, (Or.inr (⟨h31, (Or.inr (⟨h40, (Or.inr (⟨h49, (Or.inr (⟨h58, (Or.inr (⟨h67, (Or.inr (⟨h76, (Or.inr (⟨h85, (Or.inr (⟨h94, (Or.inr (⟨h100, (Or.inr (⟨h106, (Or.inr (⟨h112, (Or.inl ⟨h118, z122, z125, u127, ex126, ⟨fr126, pz126, rs126⟩, rfl⟩)⟩))⟩))⟩))⟩))⟩))⟩))⟩))⟩))⟩))⟩))⟩))⟩))⟩))⟩))⟩))⟩))⟩, (show (v.1 0 337).toInt ≤ (u127.1 0 337).toInt ∧ (u127.1 0 337).toInt ≤ (v.1 0 337).toInt + 2010 from (om_6a69504fc3 pz126))⟩, by rw [ht9]; exact hP, hD⟩, hS.F ht9⟩) hS.2.2 dX0_lay_286
                                  ·
                                    have z129 : pa.toInt ≠ (16 : Int) := ne_z rfl (show (16 : Int32).toInt = (16 : Int) by decide) h118
                                    by_cases h130 : pa = 17
                                    · refine lv_tableIn (off := 257) (tgt := 258) hx hb dX0_lay_1 (by rw [h130]; decide) (by rw [h130]; decide) (by rw [h130]; decide) (by decide) ?_
                                      have z131 : pa.toInt = (17 : Int) := eq_z rfl (show (17 : Int32).toInt = (17 : Int) by decide) h130
                                      refine lv_iload_n hx hb dX0_lay_258 rfl (lv_at hl 1 rfl) ?_
                                      refine lv_bipush (v := 16) hx hb dX0_lay_259 (by decide) ?_
                                      refine lv_icmp_lt (tgt := 279) hx hb dX0_lay_261 (by decide) (fun h132 => ?_) (fun h132 => ?_)
                                      · have z133 : pa.toInt < (16 : Int) := lt_z rfl (show (16 : Int32).toInt = (16 : Int) by decide) h132
                                        exact False.elim (om_9a661fad95 z131 z133)
                                      · have z134 : (16 : Int) ≤ pa.toInt := nlt_z rfl (show (16 : Int32).toInt = (16 : Int) by decide) h132
                                        refine lv_iload_n hx hb dX0_lay_264 rfl (lv_at hl 1 rfl) ?_
                                        refine lv_bipush (v := 19) hx hb dX0_lay_265 (by decide) ?_
                                        refine lv_icmp_gt (tgt := 279) hx hb dX0_lay_267 (by decide) (fun h135 => ?_) (fun h135 => ?_)
                                        · have z136 : (19 : Int) < pa.toInt := lt_z (show (19 : Int32).toInt = (19 : Int) by decide) rfl h135
                                          exact False.elim (om_c11640bd4d z131 z136)
                                        · have z137 : pa.toInt ≤ (19 : Int) := nlt_z (show (19 : Int32).toInt = (19 : Int) by decide) rfl h135
                                          refine lv_aload_n hx hb dX0_lay_270 rfl (lv_at hl 0 rfl) ?_
                                          refine lv_iload_n hx hb dX0_lay_271 rfl (lv_at hl 1 rfl) ?_
                                          refine lv_iload_n hx hb dX0_lay_272 rfl (lv_at hl 2 rfl) ?_
                                          refine cu_v (rn_Vk (n := 2) (As := [.int pa, .int pb]) (rest := []) hx hb hml hown ht hKK hFx hP hD hS hA (c_x_X0_layJump l dC dI cI cB cZ cJ cR tb s.heap.size ad pr N L1 L2 v pa pb ps (show (N : Int) ≤ 4096 from (om_1c2c49c46c zNN)) (show pr ps = ad 908 from hps) (show (v.1 0 334) = ps from es334) (show 0 ≤ (v.1 0 337).toInt ∧ (v.1 0 337).toInt + 3 ≤ 7000000 from (om_31c8d03c85 zs))) tw_728 tw_729 (by decide +kernel) rfl rfl ⟨Nat.le_of_ble_eq_true rfl, Nat.le_of_ble_eq_true rfl⟩ (List.range (cW ad pr N cI cR L1 L2 v).length) (rg_map _) (nd_range _) 4 rfl rfl rfl rfl hl.1 rfl (Nat.le_of_ble_eq_true rfl) dX0_lay_273 ⟨Nat.le_of_ble_eq_true rfl, Nat.le_of_ble_eq_true rfl⟩) hP hD hS hA (fun u139 H locs hw138 hP hD hS => ?_)
                                          obtain ⟨fr138, ex138, pz138, rs138⟩ := hw138
                                          refine W.widen (k := 0) (n := 0) (Nat.le_refl _) (Nat.le_refl _) ?_
                                          refine lv_goto (tgt := 286) hx hb dX0_lay_276 (by decide) ?_
                                          exact W.vret hx hb hr (fun t ht9 hW => ⟨⟨u139, rfl, ⟨(FC.tr (FC.rf _) (FC.up fr138 (by decide) (by decide))), ⟨zs, (Or.inr (⟨h1, (Or.inr (⟨h7, (Or.inr (⟨h13, (Or.inr (⟨h19, (Or.inr (⟨h25, (Or.inr (⟨h31, (Or.inr (⟨h40, (Or.inr (⟨h49, (Or.inr (⟨h58, (Or.inr (⟨h67, (Or.inr (⟨h76, (Or.inr (⟨h85, (Or.inr (⟨h94, (Or.inr (⟨h100, (Or.inr (⟨h106, (Or.inr (⟨h112, (Or.inr (⟨h118, (Or.inl ⟨h130, z134, z137, u139, ex138, ⟨fr138, pz138, rs138⟩, rfl⟩)⟩))⟩))⟩))⟩))⟩))⟩))⟩))⟩))⟩))⟩))⟩))⟩))⟩))⟩))⟩))⟩))⟩))⟩, (show (v.1 0 337).toInt ≤ (u139.1 0 337).toInt ∧ (u139.1 0 337).toInt ≤ (v.1 0 337).toInt + 2010 from (om_6a69504fc3 pz138))⟩, by rw [ht9]; exact hP, hD⟩, hS.F ht9⟩) hS.2.2 dX0_lay_286
                                    ·
                                      have z141 : pa.toInt ≠ (17 : Int) := ne_z rfl (show (17 : Int32).toInt = (17 : Int) by decide) h130
                                      by_cases h142 : pa = 18
                                      · refine lv_tableIn (off := 257) (tgt := 258) hx hb dX0_lay_1 (by rw [h142]; decide) (by rw [h142]; decide) (by rw [h142]; decide) (by decide) ?_
                                        have z143 : pa.toInt = (18 : Int) := eq_z rfl (show (18 : Int32).toInt = (18 : Int) by decide) h142
                                        refine lv_iload_n hx hb dX0_lay_258 rfl (lv_at hl 1 rfl) ?_
                                        refine lv_bipush (v := 16) hx hb dX0_lay_259 (by decide) ?_
                                        refine lv_icmp_lt (tgt := 279) hx hb dX0_lay_261 (by decide) (fun h144 => ?_) (fun h144 => ?_)
                                        · have z145 : pa.toInt < (16 : Int) := lt_z rfl (show (16 : Int32).toInt = (16 : Int) by decide) h144
                                          exact False.elim (om_059abc5c88 z143 z145)
                                        · have z146 : (16 : Int) ≤ pa.toInt := nlt_z rfl (show (16 : Int32).toInt = (16 : Int) by decide) h144
                                          refine lv_iload_n hx hb dX0_lay_264 rfl (lv_at hl 1 rfl) ?_
                                          refine lv_bipush (v := 19) hx hb dX0_lay_265 (by decide) ?_
                                          refine lv_icmp_gt (tgt := 279) hx hb dX0_lay_267 (by decide) (fun h147 => ?_) (fun h147 => ?_)
                                          · have z148 : (19 : Int) < pa.toInt := lt_z (show (19 : Int32).toInt = (19 : Int) by decide) rfl h147
                                            exact False.elim (om_32767137a2 z143 z148)
                                          · have z149 : pa.toInt ≤ (19 : Int) := nlt_z (show (19 : Int32).toInt = (19 : Int) by decide) rfl h147
                                            refine lv_aload_n hx hb dX0_lay_270 rfl (lv_at hl 0 rfl) ?_
                                            refine lv_iload_n hx hb dX0_lay_271 rfl (lv_at hl 1 rfl) ?_
                                            refine lv_iload_n hx hb dX0_lay_272 rfl (lv_at hl 2 rfl) ?_
                                            refine cu_v (rn_Vk (n := 2) (As := [.int pa, .int pb]) (rest := []) hx hb hml hown ht hKK hFx hP hD hS hA (c_x_X0_layJump l dC dI cI cB cZ cJ cR tb s.heap.size ad pr N L1 L2 v pa pb ps (show (N : Int) ≤ 4096 from (om_1c2c49c46c zNN)) (show pr ps = ad 908 from hps) (show (v.1 0 334) = ps from es334) (show 0 ≤ (v.1 0 337).toInt ∧ (v.1 0 337).toInt + 3 ≤ 7000000 from (om_31c8d03c85 zs))) tw_728 tw_729 (by decide +kernel) rfl rfl ⟨Nat.le_of_ble_eq_true rfl, Nat.le_of_ble_eq_true rfl⟩ (List.range (cW ad pr N cI cR L1 L2 v).length) (rg_map _) (nd_range _) 4 rfl rfl rfl rfl hl.1 rfl (Nat.le_of_ble_eq_true rfl) dX0_lay_273 ⟨Nat.le_of_ble_eq_true rfl, Nat.le_of_ble_eq_true rfl⟩) hP hD hS hA (fun u151 H locs hw150 hP hD hS => ?_)
                                            obtain ⟨fr150, ex150, pz150, rs150⟩ := hw150
                                            refine W.widen (k := 0) (n := 0) (Nat.le_refl _) (Nat.le_refl _) ?_
                                            refine lv_goto (tgt := 286) hx hb dX0_lay_276 (by decide) ?_
                                            exact W.vret hx hb hr (fun t ht9 hW => ⟨⟨u151, rfl, ⟨(FC.tr (FC.rf _) (FC.up fr150 (by decide) (by decide))), ⟨zs, (Or.inr (⟨h1, (Or.inr (⟨h7, (Or.inr (⟨h13, (Or.inr (⟨h19, (Or.inr (⟨h25, (Or.inr (⟨h31, (Or.inr (⟨h40, (Or.inr (⟨h49, (Or.inr (⟨h58, (Or.inr (⟨h67, (Or.inr (⟨h76, (Or.inr (⟨h85, (Or.inr (⟨h94, (Or.inr (⟨h100, (Or.inr (⟨h106, (Or.inr (⟨h112, (Or.inr (⟨h118, (Or.inr (⟨h130, (Or.inl ⟨h142, z146, z149, u151, ex150, ⟨fr150, pz150, rs150⟩, rfl⟩)⟩))⟩))⟩))⟩))⟩))⟩))⟩))⟩))⟩))⟩))⟩))⟩))⟩))⟩))⟩))⟩))⟩))⟩))⟩, (show (v.1 0 337).toInt ≤ (u151.1 0 337).toInt ∧ (u151.1 0 337).toInt ≤ (v.1 0 337).toInt + 2010 from (om_6a69504fc3 pz150))⟩, by rw [ht9]; exact hP, hD⟩, hS.F ht9⟩) hS.2.2 dX0_lay_286
                                      ·
                                        have z153 : pa.toInt ≠ (18 : Int) := ne_z rfl (show (18 : Int32).toInt = (18 : Int) by decide) h142
                                        by_cases h154 : pa = 19
                                        · refine lv_tableIn (off := 257) (tgt := 258) hx hb dX0_lay_1 (by rw [h154]; decide) (by rw [h154]; decide) (by rw [h154]; decide) (by decide) ?_
                                          have z155 : pa.toInt = (19 : Int) := eq_z rfl (show (19 : Int32).toInt = (19 : Int) by decide) h154
                                          refine lv_iload_n hx hb dX0_lay_258 rfl (lv_at hl 1 rfl) ?_
                                          refine lv_bipush (v := 16) hx hb dX0_lay_259 (by decide) ?_
                                          refine lv_icmp_lt (tgt := 279) hx hb dX0_lay_261 (by decide) (fun h156 => ?_) (fun h156 => ?_)
                                          · have z157 : pa.toInt < (16 : Int) := lt_z rfl (show (16 : Int32).toInt = (16 : Int) by decide) h156
                                            exact False.elim (om_01bcc9030d z155 z157)
                                          · have z158 : (16 : Int) ≤ pa.toInt := nlt_z rfl (show (16 : Int32).toInt = (16 : Int) by decide) h156
                                            refine lv_iload_n hx hb dX0_lay_264 rfl (lv_at hl 1 rfl) ?_
                                            refine lv_bipush (v := 19) hx hb dX0_lay_265 (by decide) ?_
                                            refine lv_icmp_gt (tgt := 279) hx hb dX0_lay_267 (by decide) (fun h159 => ?_) (fun h159 => ?_)
                                            · have z160 : (19 : Int) < pa.toInt := lt_z (show (19 : Int32).toInt = (19 : Int) by decide) rfl h159
                                              exact False.elim (om_49dede4d93 z155 z160)
                                            · have z161 : pa.toInt ≤ (19 : Int) := nlt_z (show (19 : Int32).toInt = (19 : Int) by decide) rfl h159
                                              refine lv_aload_n hx hb dX0_lay_270 rfl (lv_at hl 0 rfl) ?_
                                              refine lv_iload_n hx hb dX0_lay_271 rfl (lv_at hl 1 rfl) ?_
                                              refine lv_iload_n hx hb dX0_lay_272 rfl (lv_at hl 2 rfl) ?_
                                              refine cu_v (rn_Vk (n := 2) (As := [.int pa, .int pb]) (rest := []) hx hb hml hown ht hKK hFx hP hD hS hA (c_x_X0_layJump l dC dI cI cB cZ cJ cR tb s.heap.size ad pr N L1 L2 v pa pb ps (show (N : Int) ≤ 4096 from (om_1c2c49c46c zNN)) (show pr ps = ad 908 from hps) (show (v.1 0 334) = ps from es334) (show 0 ≤ (v.1 0 337).toInt ∧ (v.1 0 337).toInt + 3 ≤ 7000000 from (om_31c8d03c85 zs))) tw_728 tw_729 (by decide +kernel) rfl rfl ⟨Nat.le_of_ble_eq_true rfl, Nat.le_of_ble_eq_true rfl⟩ (List.range (cW ad pr N cI cR L1 L2 v).length) (rg_map _) (nd_range _) 4 rfl rfl rfl rfl hl.1 rfl (Nat.le_of_ble_eq_true rfl) dX0_lay_273 ⟨Nat.le_of_ble_eq_true rfl, Nat.le_of_ble_eq_true rfl⟩) hP hD hS hA (fun u163 H locs hw162 hP hD hS => ?_)
                                              obtain ⟨fr162, ex162, pz162, rs162⟩ := hw162
                                              refine W.widen (k := 0) (n := 0) (Nat.le_refl _) (Nat.le_refl _) ?_
                                              refine lv_goto (tgt := 286) hx hb dX0_lay_276 (by decide) ?_
                                              exact W.vret hx hb hr (fun t ht9 hW => ⟨⟨u163, rfl, ⟨(FC.tr (FC.rf _) (FC.up fr162 (by decide) (by decide))), ⟨zs, (Or.inr (⟨h1, (Or.inr (⟨h7, (Or.inr (⟨h13, (Or.inr (⟨h19, (Or.inr (⟨h25, (Or.inr (⟨h31, (Or.inr (⟨h40, (Or.inr (⟨h49, (Or.inr (⟨h58, (Or.inr (⟨h67, (Or.inr (⟨h76, (Or.inr (⟨h85, (Or.inr (⟨h94, (Or.inr (⟨h100, (Or.inr (⟨h106, (Or.inr (⟨h112, (Or.inr (⟨h118, (Or.inr (⟨h130, (Or.inr (⟨h142, (Or.inl ⟨h154, z158, z161, u163, ex162, ⟨fr162, pz162, rs162⟩, rfl⟩)⟩))⟩))⟩))⟩))⟩))⟩))⟩))⟩))⟩))⟩))⟩))⟩))⟩))⟩))⟩))⟩))⟩))⟩))⟩))⟩, (show (v.1 0 337).toInt ≤ (u163.1 0 337).toInt ∧ (u163.1 0 337).toInt ≤ (v.1 0 337).toInt + 2010 from (om_6a69504fc3 pz162))⟩, by rw [ht9]; exact hP, hD⟩, hS.F ht9⟩) hS.2.2 dX0_lay_286
                                        ·
                                          have z165 : pa.toInt ≠ (19 : Int) := ne_z rfl (show (19 : Int32).toInt = (19 : Int) by decide) h154
                                          by_cases h166 : pa = 20
                                          · refine lv_tableIn (off := 215) (tgt := 216) hx hb dX0_lay_1 (by rw [h166]; decide) (by rw [h166]; decide) (by rw [h166]; decide) (by decide) ?_
                                            have z167 : pa.toInt = (20 : Int) := eq_z rfl (show (20 : Int32).toInt = (20 : Int) by decide) h166
                                            refine lv_aload_n hx hb dX0_lay_216 rfl (lv_at hl 0 rfl) ?_
                                            refine lv_iconst (v := 5) hx hb dX0_lay_217 (by decide) ?_
                                            refine lv_iload_n hx hb dX0_lay_218 rfl (lv_at hl 3 rfl) ?_
                                            refine cu_v (rn_Vk (n := 2) (As := [.int 5, .int pc1]) (rest := []) hx hb hml hown ht hKK hFx hP hD hS hA (c_x_X0_loadSlot l dC dI cI cB cZ cJ cR tb s.heap.size ad pr N L1 L2 v (5 : Int32) pc1 ps (show (N : Int) ≤ 4096 from (om_1c2c49c46c zNN)) (show pr ps = ad 908 from hps) (show (v.1 0 334) = ps from es334) (show 0 ≤ (v.1 0 337).toInt ∧ (v.1 0 337).toInt + 1 ≤ 7000000 from (om_d158b3fb3f zs))) tw_716 tw_717 (by decide +kernel) rfl rfl ⟨Nat.le_of_ble_eq_true rfl, Nat.le_of_ble_eq_true rfl⟩ (List.range (cW ad pr N cI cR L1 L2 v).length) (rg_map _) (nd_range _) 4 rfl rfl rfl rfl hl.1 rfl (Nat.le_of_ble_eq_true rfl) dX0_lay_219 ⟨Nat.le_of_ble_eq_true rfl, Nat.le_of_ble_eq_true rfl⟩) hP hD hS hA (fun u169 H locs hw168 hP hD hS => ?_)
                                            obtain ⟨fr168, ex168, pz168, rs168⟩ := hw168
                                            refine W.widen (k := 0) (n := 0) (Nat.le_refl _) (Nat.le_refl _) ?_
                                            refine lv_aload_n hx hb dX0_lay_222 rfl (lv_at hl 0 rfl) ?_
                                            refine lv_iload_n hx hb dX0_lay_223 rfl (lv_at hl 2 rfl) ?_
                                            refine cu_v (rn_Vk (n := 1) (As := [.int pb]) (rest := []) hx hb hml hown ht hKK hFx hP hD hS hA (c_x_X0_laySign l dC dI cI cB cZ cJ cR tb H.size ad pr N L1 L2 u169 pb ps (show (N : Int) ≤ 4096 from (om_1c2c49c46c zNN)) (show pr ps = ad 908 from hps) (show (u169.1 0 334) = ps from (Eq.trans (fr168.2.1 334 (by decide)) es334)) (show 0 ≤ (u169.1 0 337).toInt ∧ (u169.1 0 337).toInt + 2 ≤ 7000000 from (om_077769039b zs pz168))) tw_730 tw_731 (by decide +kernel) rfl rfl ⟨Nat.le_of_ble_eq_true rfl, Nat.le_of_ble_eq_true rfl⟩ (List.range (cW ad pr N cI cR L1 L2 u169).length) (rg_map _) (nd_range _) 4 rfl rfl rfl rfl hl.1 rfl (Nat.le_of_ble_eq_true rfl) dX0_lay_224 ⟨Nat.le_of_ble_eq_true rfl, Nat.le_of_ble_eq_true rfl⟩) hP hD hS hA (fun u172 H locs hw171 hP hD hS => ?_)
                                            obtain ⟨fr171, ex171, pz171, rs171⟩ := hw171
                                            have pz171 : (u169.1 0 337).toInt ≤ (u172.1 0 337).toInt ∧ (u172.1 0 337).toInt ≤ (u169.1 0 337).toInt + 2 := pz171
                                            have rs171 : RS u169 u172 := rs171
                                            refine W.widen (k := 0) (n := 0) (Nat.le_refl _) (Nat.le_refl _) ?_
                                            refine lv_goto (tgt := 286) hx hb dX0_lay_227 (by decide) ?_
                                            exact W.vret hx hb hr (fun t ht9 hW => ⟨⟨u172, rfl, ⟨(FC.tr (FC.tr (FC.rf _) (FC.up fr168 (by decide) (by decide))) (FC.up fr171 (by decide) (by decide))), ⟨zs, (Or.inr (⟨h1, (Or.inr (⟨h7, (Or.inr (⟨h13, (Or.inr (⟨h19, (Or.inr (⟨h25, (Or.inr (⟨h31, (Or.inr (⟨h40, (Or.inr (⟨h49, (Or.inr (⟨h58, (Or.inr (⟨h67, (Or.inr (⟨h76, (Or.inr (⟨h85, (Or.inr (⟨h94, (Or.inr (⟨h100, (Or.inr (⟨h106, (Or.inr (⟨h112, (Or.inr (⟨h118, (Or.inr (⟨h130, (Or.inr (⟨h142, (Or.inr (⟨h154, (Or.inl ⟨h166, u169, ex168, ⟨fr168, pz168, rs168⟩, u172, ex171, ⟨fr171, pz171, rs171⟩, rfl⟩)⟩))⟩))⟩))⟩))⟩))⟩))⟩))⟩))⟩))⟩))⟩))⟩))⟩))⟩))⟩))⟩))⟩))⟩))⟩))⟩))⟩, (show (v.1 0 337).toInt ≤ (u172.1 0 337).toInt ∧ (u172.1 0 337).toInt ≤ (v.1 0 337).toInt + 2010 from (om_ea1d7b5b33 pz168 pz171))⟩, by rw [ht9]; exact hP, hD⟩, hS.F ht9⟩) hS.2.2 dX0_lay_286
                                          ·
                                            have z174 : pa.toInt ≠ (20 : Int) := ne_z rfl (show (20 : Int32).toInt = (20 : Int) by decide) h166
                                            by_cases h175 : pa = 21
                                            · refine lv_tableIn (off := 229) (tgt := 230) hx hb dX0_lay_1 (by rw [h175]; decide) (by rw [h175]; decide) (by rw [h175]; decide) (by decide) ?_
                                              have z176 : pa.toInt = (21 : Int) := eq_z rfl (show (21 : Int32).toInt = (21 : Int) by decide) h175
                                              refine lv_aload_n hx hb dX0_lay_230 rfl (lv_at hl 0 rfl) ?_
                                              refine lv_iload_n hx hb dX0_lay_231 rfl (lv_at hl 2 rfl) ?_
                                              refine lv_iload_n hx hb dX0_lay_232 rfl (lv_at hl 3 rfl) ?_
                                              refine cu_v (rn_Vk (n := 2) (As := [.int pb, .int pc1]) (rest := []) hx hb hml hown ht hKK hFx hP hD hS hA (c_x_X0_layCall l dC dI cI cB cZ cJ cR tb s.heap.size ad pr N L1 L2 v pb pc1 ps (show (N : Int) ≤ 4096 from (om_1c2c49c46c zNN)) (show L1.length = 40 from hL1) (show L2.length = 60 from hL2) (show RP v from rp) (show pr ps = ad 908 from hps) (show (v.1 0 334) = ps from es334) (show 0 ≤ (v.1 0 337).toInt ∧ (v.1 0 337).toInt + 2 ≤ 7000000 from (om_96426d8dcc zs))) tw_732 tw_733 (by decide +kernel) rfl rfl ⟨Nat.le_of_ble_eq_true rfl, Nat.le_of_ble_eq_true rfl⟩ (List.range (cW ad pr N cI cR L1 L2 v).length) (rg_map _) (nd_range _) 4 rfl rfl rfl rfl hl.1 rfl (Nat.le_of_ble_eq_true rfl) dX0_lay_233 ⟨Nat.le_of_ble_eq_true rfl, Nat.le_of_ble_eq_true rfl⟩) hP hD hS hA (fun u178 H locs hw177 hP hD hS => ?_)
                                              obtain ⟨fr177, ex177, pz177, rs177⟩ := hw177
                                              refine W.widen (k := 0) (n := 0) (Nat.le_refl _) (Nat.le_refl _) ?_
                                              refine lv_goto (tgt := 286) hx hb dX0_lay_236 (by decide) ?_
                                              exact W.vret hx hb hr (fun t ht9 hW => ⟨⟨u178, rfl, ⟨(FC.tr (FC.rf _) (FC.up fr177 (by decide) (by decide))), ⟨zs, (Or.inr (⟨h1, (Or.inr (⟨h7, (Or.inr (⟨h13, (Or.inr (⟨h19, (Or.inr (⟨h25, (Or.inr (⟨h31, (Or.inr (⟨h40, (Or.inr (⟨h49, (Or.inr (⟨h58, (Or.inr (⟨h67, (Or.inr (⟨h76, (Or.inr (⟨h85, (Or.inr (⟨h94, (Or.inr (⟨h100, (Or.inr (⟨h106, (Or.inr (⟨h112, (Or.inr (⟨h118, (Or.inr (⟨h130, (Or.inr (⟨h142, (Or.inr (⟨h154, (Or.inr (⟨h166, (Or.inl ⟨h175, u178, ex177, ⟨fr177, pz177, rs177⟩, rfl⟩)⟩))⟩))⟩))⟩))⟩))⟩))⟩))⟩))⟩))⟩))⟩))⟩))⟩))⟩))⟩))⟩))⟩))⟩))⟩))⟩))⟩))⟩, (show (v.1 0 337).toInt ≤ (u178.1 0 337).toInt ∧ (u178.1 0 337).toInt ≤ (v.1 0 337).toInt + 2010 from (om_75fedcf87d pz177))⟩, by rw [ht9]; exact hP, hD⟩, hS.F ht9⟩) hS.2.2 dX0_lay_286
                                            ·
                                              have z180 : pa.toInt ≠ (21 : Int) := ne_z rfl (show (21 : Int32).toInt = (21 : Int) by decide) h175
                                              by_cases h181 : pa = 22
                                              · refine lv_tableIn (off := 238) (tgt := 239) hx hb dX0_lay_1 (by rw [h181]; decide) (by rw [h181]; decide) (by rw [h181]; decide) (by decide) ?_
                                                have z182 : pa.toInt = (22 : Int) := eq_z rfl (show (22 : Int32).toInt = (22 : Int) by decide) h181
                                                refine lv_aload_n hx hb dX0_lay_239 rfl (lv_at hl 0 rfl) ?_
                                                refine lv_iconst (v := 1) hx hb dX0_lay_240 (by decide) ?_
                                                refine cu_v (rn_Vk (n := 1) (As := [.int 1]) (rest := []) hx hb hml hown ht hKK hFx hP hD hS hA (c_x_X0_outside l dC dI cI cB cZ cJ cR tb s.heap.size ad pr N L1 L2 v (1 : Int32) ps (show (N : Int) ≤ 4096 from (om_1c2c49c46c zNN)) (show pr ps = ad 908 from hps) (show (v.1 0 334) = ps from es334) (show 0 ≤ (v.1 0 337).toInt ∧ (v.1 0 337).toInt + 2 ≤ 7000000 from (om_96426d8dcc zs))) tw_734 tw_735 (by decide +kernel) rfl rfl ⟨Nat.le_of_ble_eq_true rfl, Nat.le_of_ble_eq_true rfl⟩ (List.range (cW ad pr N cI cR L1 L2 v).length) (rg_map _) (nd_range _) 4 rfl rfl rfl rfl hl.1 rfl (Nat.le_of_ble_eq_true rfl) dX0_lay_241 ⟨Nat.le_of_ble_eq_true rfl, Nat.le_of_ble_eq_true rfl⟩) hP hD hS hA (fun u184 H locs hw183 hP hD hS => ?_)
                                                obtain ⟨fr183, ex183, pz183, rs183⟩ := hw183
                                                refine W.widen (k := 0) (n := 0) (Nat.le_refl _) (Nat.le_refl _) ?_
                                                refine lv_goto (tgt := 286) hx hb dX0_lay_244 (by decide) ?_
                                                exact W.vret hx hb hr (fun t ht9 hW => ⟨⟨u184, rfl, ⟨(FC.tr (FC.rf _) (FC.up fr183 (by decide) (by decide))), ⟨zs, (Or.inr (⟨h1, (Or.inr (⟨h7, (Or.inr (⟨h13, (Or.inr (⟨h19, (Or.inr (⟨h25, (Or.inr (⟨h31, (Or.inr (⟨h40, (Or.inr (⟨h49, (Or.inr (⟨h58, (Or.inr (⟨h67, (Or.inr (⟨h76, (Or.inr (⟨h85, (Or.inr (⟨h94, (Or.inr (⟨h100, (Or.inr (⟨h106, (Or.inr (⟨h112, (Or.inr (⟨h118, (Or.inr (⟨h130, (Or.inr (⟨h142, (Or.inr (⟨h154, (Or.inr (⟨h166, (Or.inr (⟨h175, (Or.inl ⟨h181, u184, ex183, ⟨fr183, pz183, rs183⟩, rfl⟩)⟩))⟩))⟩))⟩))⟩))⟩))⟩))⟩))⟩))⟩))⟩))⟩))⟩))⟩))⟩))⟩))⟩))⟩))⟩))⟩))⟩))⟩))⟩, (show (v.1 0 337).toInt ≤ (u184.1 0 337).toInt ∧ (u184.1 0 337).toInt ≤ (v.1 0 337).toInt + 2010 from (om_064ed07447 pz183))⟩, by rw [ht9]; exact hP, hD⟩, hS.F ht9⟩) hS.2.2 dX0_lay_286
                                              ·
                                                have z186 : pa.toInt ≠ (22 : Int) := ne_z rfl (show (22 : Int32).toInt = (22 : Int) by decide) h181
                                                by_cases h187 : pa = 23
                                                · refine lv_tableIn (off := 246) (tgt := 247) hx hb dX0_lay_1 (by rw [h187]; decide) (by rw [h187]; decide) (by rw [h187]; decide) (by decide) ?_
                                                  have z188 : pa.toInt = (23 : Int) := eq_z rfl (show (23 : Int32).toInt = (23 : Int) by decide) h187
                                                  refine lv_aload_n hx hb dX0_lay_247 rfl (lv_at hl 0 rfl) ?_
                                                  refine lv_iconst (v := 2) hx hb dX0_lay_248 (by decide) ?_
                                                  refine cu_v (rn_Vk (n := 1) (As := [.int 2]) (rest := []) hx hb hml hown ht hKK hFx hP hD hS hA (c_x_X0_outside l dC dI cI cB cZ cJ cR tb s.heap.size ad pr N L1 L2 v (2 : Int32) ps (show (N : Int) ≤ 4096 from (om_1c2c49c46c zNN)) (show pr ps = ad 908 from hps) (show (v.1 0 334) = ps from es334) (show 0 ≤ (v.1 0 337).toInt ∧ (v.1 0 337).toInt + 2 ≤ 7000000 from (om_96426d8dcc zs))) tw_734 tw_735 (by decide +kernel) rfl rfl ⟨Nat.le_of_ble_eq_true rfl, Nat.le_of_ble_eq_true rfl⟩ (List.range (cW ad pr N cI cR L1 L2 v).length) (rg_map _) (nd_range _) 4 rfl rfl rfl rfl hl.1 rfl (Nat.le_of_ble_eq_true rfl) dX0_lay_249 ⟨Nat.le_of_ble_eq_true rfl, Nat.le_of_ble_eq_true rfl⟩) hP hD hS hA (fun u190 H locs hw189 hP hD hS => ?_)
                                                  obtain ⟨fr189, ex189, pz189, rs189⟩ := hw189
                                                  refine W.widen (k := 0) (n := 0) (Nat.le_refl _) (Nat.le_refl _) ?_
                                                  refine lv_goto (tgt := 286) hx hb dX0_lay_252 (by decide) ?_
                                                  exact W.vret hx hb hr (fun t ht9 hW => ⟨⟨u190, rfl, ⟨(FC.tr (FC.rf _) (FC.up fr189 (by decide) (by decide))), ⟨zs, (Or.inr (⟨h1, (Or.inr (⟨h7, (Or.inr (⟨h13, (Or.inr (⟨h19, (Or.inr (⟨h25, (Or.inr (⟨h31, (Or.inr (⟨h40, (Or.inr (⟨h49, (Or.inr (⟨h58, (Or.inr (⟨h67, (Or.inr (⟨h76, (Or.inr (⟨h85, (Or.inr (⟨h94, (Or.inr (⟨h100, (Or.inr (⟨h106, (Or.inr (⟨h112, (Or.inr (⟨h118, (Or.inr (⟨h130, (Or.inr (⟨h142, (Or.inr (⟨h154, (Or.inr (⟨h166, (Or.inr (⟨h175, (Or.inr (⟨h181, (Or.inl ⟨h187, u190, ex189, ⟨fr189, pz189, rs189⟩, rfl⟩)⟩))⟩))⟩))⟩))⟩))⟩))⟩))⟩))⟩))⟩))⟩))⟩))⟩))⟩))⟩))⟩))⟩))⟩))⟩))⟩))⟩))⟩))⟩))⟩, (show (v.1 0 337).toInt ≤ (u190.1 0 337).toInt ∧ (u190.1 0 337).toInt ≤ (v.1 0 337).toInt + 2010 from (om_064ed07447 pz189))⟩, by rw [ht9]; exact hP, hD⟩, hS.F ht9⟩) hS.2.2 dX0_lay_286
                                                ·
                                                  have z192 : pa.toInt ≠ (23 : Int) := ne_z rfl (show (23 : Int32).toInt = (23 : Int) by decide) h187
                                                  by_cases h193 : pa = 24
                                                  · refine lv_tableIn (off := 254) (tgt := 255) hx hb dX0_lay_1 (by rw [h193]; decide) (by rw [h193]; decide) (by rw [h193]; decide) (by decide) ?_
                                                    have z194 : pa.toInt = (24 : Int) := eq_z rfl (show (24 : Int32).toInt = (24 : Int) by decide) h193
                                                    refine lv_goto (tgt := 286) hx hb dX0_lay_255 (by decide) ?_
                                                    exact W.vret hx hb hr (fun t ht9 hW => ⟨⟨v, rfl, ⟨(FC.rf _), ⟨zs, (Or.inr (⟨h1, (Or.inr (⟨h7, (Or.inr (⟨h13, (Or.inr (⟨h19, (Or.inr (⟨h25, (Or.inr (⟨h31, (Or.inr (⟨h40, (Or.inr (⟨h49, (Or.inr (⟨h58, (Or.inr (⟨h67, (Or.inr (⟨h76, (Or.inr (⟨h85, (Or.inr (⟨h94, (Or.inr (⟨h100, (Or.inr (⟨h106, (Or.inr (⟨h112, (Or.inr (⟨h118, (Or.inr (⟨h130, (Or.inr (⟨h142, (Or.inr (⟨h154, (Or.inr (⟨h166, (Or.inr (⟨h175, (Or.inr (⟨h181, (Or.inr (⟨h187, (Or.inl ⟨h193, rfl⟩)⟩))⟩))⟩))⟩))⟩))⟩))⟩))⟩))⟩))⟩))⟩))⟩))⟩))⟩))⟩))⟩))⟩))⟩))⟩))⟩))⟩))⟩))⟩))⟩))⟩, (show (v.1 0 337).toInt ≤ (v.1 0 337).toInt ∧ (v.1 0 337).toInt ≤ (v.1 0 337).toInt + 2010 from om_24a4c214b1)⟩, by rw [ht9]; exact hP, hD⟩, hS.F ht9⟩) hS.2.2 dX0_lay_286
                                                  ·
                                                    have z195 : pa.toInt ≠ (24 : Int) := ne_z rfl (show (24 : Int32).toInt = (24 : Int) by decide) h193
                                                    refine lv_tableOut (tgt := 258) hx hb dX0_lay_1 (by have := lv_neT h1 (a := 0) (by decide); have := lv_neT h7 (a := 1) (by decide); have := lv_neT h13 (a := 2) (by decide); have := lv_neT h19 (a := 3) (by decide); have := lv_neT h25 (a := 4) (by decide); have := lv_neT h31 (a := 5) (by decide); have := lv_neT h40 (a := 6) (by decide); have := lv_neT h49 (a := 7) (by decide); have := lv_neT h58 (a := 8) (by decide); have := lv_neT h67 (a := 9) (by decide); have := lv_neT h76 (a := 10) (by decide); have := lv_neT h85 (a := 11) (by decide); have := lv_neT h94 (a := 12) (by decide); have := lv_neT h100 (a := 13) (by decide); have := lv_neT h106 (a := 14) (by decide); have := lv_neT h112 (a := 15) (by decide); have := lv_neT h118 (a := 16) (by decide); have := lv_neT h130 (a := 17) (by decide); have := lv_neT h142 (a := 18) (by decide); have := lv_neT h154 (a := 19) (by decide); have := lv_neT h166 (a := 20) (by decide); have := lv_neT h175 (a := 21) (by decide); have := lv_neT h181 (a := 22) (by decide); have := lv_neT h187 (a := 23) (by decide); have := lv_neT h193 (a := 24) (by decide); omega) (by decide) ?_
                                                    refine lv_iload_n hx hb dX0_lay_258 rfl (lv_at hl 1 rfl) ?_
                                                    refine lv_bipush (v := 16) hx hb dX0_lay_259 (by decide) ?_
                                                    refine lv_icmp_lt (tgt := 279) hx hb dX0_lay_261 (by decide) (fun h196 => ?_) (fun h196 => ?_)
                                                    · have z197 : pa.toInt < (16 : Int) := lt_z rfl (show (16 : Int32).toInt = (16 : Int) by decide) h196
                                                      refine lv_aload_n hx hb dX0_lay_279 rfl (lv_at hl 0 rfl) ?_
                                                      refine lv_iload_n hx hb dX0_lay_280 rfl (lv_at hl 1 rfl) ?_
                                                      refine lv_iload_n hx hb dX0_lay_281 rfl (lv_at hl 2 rfl) ?_
                                                      refine lv_iload_n hx hb dX0_lay_282 rfl (lv_at hl 3 rfl) ?_
                                                      refine cu_v (rn_Vk (n := 3) (As := [.int pa, .int pb, .int pc1]) (rest := []) hx hb hml hown ht hKK hFx hP hD hS hA (c_x_X0_layPlace l dC dI cI cB cZ cJ cR tb s.heap.size ad pr N L1 L2 v pa pb pc1 ps (show (N : Int) ≤ 4096 from (om_1c2c49c46c zNN)) (show L1.length = 40 from hL1) (show L2.length = 60 from hL2) (show RP v from rp) (show pr ps = ad 908 from hps) (show (v.1 0 334) = ps from es334) (show 0 ≤ (v.1 0 337).toInt ∧ (v.1 0 337).toInt + 8 ≤ 7000000 from (om_224332967b zs))) tw_726 tw_727 (by decide +kernel) rfl rfl ⟨Nat.le_of_ble_eq_true rfl, Nat.le_of_ble_eq_true rfl⟩ (List.range (cW ad pr N cI cR L1 L2 v).length) (rg_map _) (nd_range _) 4 rfl rfl rfl rfl hl.1 rfl (Nat.le_of_ble_eq_true rfl) dX0_lay_283 ⟨Nat.le_of_ble_eq_true rfl, Nat.le_of_ble_eq_true rfl⟩) hP hD hS hA (fun u199 H locs hw198 hP hD hS => ?_)
                                                      obtain ⟨fr198, ex198, pz198, rs198⟩ := hw198
                                                      refine W.widen (k := 0) (n := 0) (Nat.le_refl _) (Nat.le_refl _) ?_
                                                      exact W.vret hx hb hr (fun t ht9 hW => ⟨⟨u199, rfl, ⟨(FC.tr (FC.rf _) (FC.up fr198 (by decide) (by decide))), ⟨zs, (Or.inr (⟨h1, (Or.inr (⟨h7, (Or.inr (⟨h13, (Or.inr (⟨h19, (Or.inr (⟨h25, (Or.inr (⟨h31, (Or.inr (⟨h40, (Or.inr (⟨h49, (Or.inr (⟨h58, (Or.inr (⟨h67, (Or.inr (⟨h76, (Or.inr (⟨h85, (Or.inr (⟨h94, (Or.inr (⟨h100, (Or.inr (⟨h106, (Or.inr (⟨h112, (Or.inr (⟨h118, (Or.inr (⟨h130, (Or.inr (⟨h142, (Or.inr (⟨h154, (Or.inr (⟨h166, (Or.inr (⟨h175, (Or.inr (⟨h181, (Or.inr (⟨h187, (Or.inr (⟨h193, (Or.inl ⟨z197, u199, ex198, ⟨fr198, pz198, rs198⟩, rfl⟩)⟩))⟩))⟩))⟩))⟩))⟩))⟩))⟩))⟩))⟩))⟩))⟩))⟩))⟩))⟩))⟩))⟩))⟩))⟩))⟩))⟩))⟩))⟩))⟩))⟩))⟩, (show (v.1 0 337).toInt ≤ (u199.1 0 337).toInt ∧ (u199.1 0 337).toInt ≤ (v.1 0 337).toInt + 2010 from (om_c54ed27d5e pz198))⟩, by rw [ht9]; exact hP, hD⟩, hS.F ht9⟩) hS.2.2 dX0_lay_286
                                                    · have z201 : (16 : Int) ≤ pa.toInt := nlt_z rfl (show (16 : Int32).toInt = (16 : Int) by decide) h196
                                                      refine lv_iload_n hx hb dX0_lay_264 rfl (lv_at hl 1 rfl) ?_
                                                      refine lv_bipush (v := 19) hx hb dX0_lay_265 (by decide) ?_
                                                      refine lv_icmp_gt (tgt := 279) hx hb dX0_lay_267 (by decide) (fun h202 => ?_) (fun h202 => ?_)
                                                      · have z203 : (19 : Int) < pa.toInt := lt_z (show (19 : Int32).toInt = (19 : Int) by decide) rfl h202
                                                        refine lv_aload_n hx hb dX0_lay_279 rfl (lv_at hl 0 rfl) ?_
                                                        refine lv_iload_n hx hb dX0_lay_280 rfl (lv_at hl 1 rfl) ?_
                                                        refine lv_iload_n hx hb dX0_lay_281 rfl (lv_at hl 2 rfl) ?_
                                                        refine lv_iload_n hx hb dX0_lay_282 rfl (lv_at hl 3 rfl) ?_
                                                        refine cu_v (rn_Vk (n := 3) (As := [.int pa, .int pb, .int pc1]) (rest := []) hx hb hml hown ht hKK hFx hP hD hS hA (c_x_X0_layPlace l dC dI cI cB cZ cJ cR tb s.heap.size ad pr N L1 L2 v pa pb pc1 ps (show (N : Int) ≤ 4096 from (om_1c2c49c46c zNN)) (show L1.length = 40 from hL1) (show L2.length = 60 from hL2) (show RP v from rp) (show pr ps = ad 908 from hps) (show (v.1 0 334) = ps from es334) (show 0 ≤ (v.1 0 337).toInt ∧ (v.1 0 337).toInt + 8 ≤ 7000000 from (om_224332967b zs))) tw_726 tw_727 (by decide +kernel) rfl rfl ⟨Nat.le_of_ble_eq_true rfl, Nat.le_of_ble_eq_true rfl⟩ (List.range (cW ad pr N cI cR L1 L2 v).length) (rg_map _) (nd_range _) 4 rfl rfl rfl rfl hl.1 rfl (Nat.le_of_ble_eq_true rfl) dX0_lay_283 ⟨Nat.le_of_ble_eq_true rfl, Nat.le_of_ble_eq_true rfl⟩) hP hD hS hA (fun u205 H locs hw204 hP hD hS => ?_)
                                                        obtain ⟨fr204, ex204, pz204, rs204⟩ := hw204
                                                        refine W.widen (k := 0) (n := 0) (Nat.le_refl _) (Nat.le_refl _) ?_
                                                        exact W.vret hx hb hr (fun t ht9 hW => ⟨⟨u205, rfl, ⟨(FC.tr (FC.rf _) (FC.up fr204 (by decide) (by decide))), ⟨zs, (Or.inr (⟨h1, (Or.inr (⟨h7, (Or.inr (⟨h13, (Or.inr (⟨h19, (Or.inr (⟨h25, (Or.inr (⟨h31, (Or.inr (⟨h40, (Or.inr (⟨h49, (Or.inr (⟨h58, (Or.inr (⟨h67, (Or.inr (⟨h76, (Or.inr (⟨h85, (Or.inr (⟨h94, (Or.inr (⟨h100, (Or.inr (⟨h106, (Or.inr (⟨h112, (Or.inr (⟨h118, (Or.inr (⟨h130, (Or.inr (⟨h142, (Or.inr (⟨h154, (Or.inr (⟨h166, (Or.inr (⟨h175, (Or.inr (⟨h181, (Or.inr (⟨h187, (Or.inr (⟨h193, (Or.inr (⟨z201, z203, u205, ex204, ⟨fr204, pz204, rs204⟩, rfl⟩))⟩))⟩))⟩))⟩))⟩))⟩))⟩))⟩))⟩))⟩))⟩))⟩))⟩))⟩))⟩))⟩))⟩))⟩))⟩))⟩))⟩))⟩))⟩))⟩))⟩))⟩, (show (v.1 0 337).toInt ≤ (u205.1 0 337).toInt ∧ (u205.1 0 337).toInt ≤ (v.1 0 337).toInt + 2010 from (om_c54ed27d5e pz204))⟩, by rw [ht9]; exact hP, hD⟩, hS.F ht9⟩) hS.2.2 dX0_lay_286
                                                      · have z207 : pa.toInt ≤ (19 : Int) := nlt_z (show (19 : Int32).toInt = (19 : Int) by decide) rfl h202
                                                        exact False.elim (om_2b3160bd27 z129 z141 z153 z165 z201 z207)
set_option maxHeartbeats 4000000 in
set_option maxRecDepth 100000 in
theorem c_x_X0_placeGlobals (l : Launch) (dC : Nat → ClassId) (dI : Nat → Nat → Nat) (cI cB cZ cJ cR : ClassId) (tb : Nat → Nat) (sz : Nat) (ad : Nat → Nat) (pr : Int32 → Nat) (N : Nat) (L1 L2 : List Nat) (v : MS) (ps : Int32) (hL1 : L1.length = 40) (hL2 : L2.length = 60) (rp : RP v) (hps : pr ps = ad 908) (es334 : (v.1 0 334) = ps) : Met l yX0_placeGlobals (Cond.code yX0_placeGlobals cX0_placeGlobals 3 none :: tw_W) ({ frames := 1, cells := 0, slots := 0, locals := 23 }) (pc_ (dC, dI) (tyS cI cB cZ cJ cR) tb (cW ad pr N cI cR L1 L2 v) sz [.ref (ad 904)]) (qv_ (dC, dI) (cW ad pr N cI cR L1 L2 v) sz (fun (u : MS) => FC [384] [0] v u ∧ (Q_x_X0_placeGlobals L1 L2 v u)) (fun (u : MS) => (cW ad pr N cI cR L1 L2 u))) 0 0 (va_A (cW ad pr N cI cR L1 L2 v) sz) := by
  refine Met.ofW (cc := cX0_placeGlobals) (maxL := 3) (ret := none) (by decide) rfl ?_
  intro p e s m args below meth c s₁ B hml hv
  obtain ⟨rfl, hsz, hP, hKK, hD0, hFx⟩ := hv
  have hK := hKK.1
  have hx := B.exec
  have hb := B.bytes
  have hr := B.returns
  have ht : ∀ w ∈ tw_W, w.before _ s = true := fun w h => atoms_spec (ws := Cond.code yX0_placeGlobals cX0_placeGlobals 3 none :: tw_W) B.pre w (List.mem_cons_of_mem _ h)
  have hown : s.vm.findClass RX0 = some m.cls := findClass_of_methodNamed B.named
  have hlocks := B.notSynchronized
  subst hsz
  unfold qv_
  have hD := hD0.self (sz := s.heap.size)
  generalize hAe : va_A (cW ad pr N cI cR L1 L2 v) s.heap.size = A at hD hFx ⊢
  have hA : ∀ q : Nat, s.heap.size ≤ q → A q := fun q h => by rw [← hAe]; exact Or.inr h
  have hS : va_S A s.heap s.heap [] := va_S.rf
  have hl := lv_entry ([.ref (ad 904)]) (n := 3) (Nat.le_of_ble_eq_true rfl)
  rw [lg_entry_eq]
  generalize (lg_sl ([.ref (ad 904)]) ++ List.replicate (3 - (lg_sl ([.ref (ad 904)])).length) Slot.unset).toArray = ls at hl ⊢
  have hl : lv_has ls 3 [(0, .ref (ad 904))] := hl
  refine lv_iconst (v := 4) hx hb dX0_placeGlobals_0 (by decide) ?_
  refine lv_aload_n hx hb dX0_placeGlobals_1 rfl (lv_at hl 0 rfl) ?_
  refine va_get (D := (dC, dI)) (ci := 4) (fs := oF_X0 ad pr v) (v := .int (v.1 0 337)) (C := RX0) (T := TX0) (N := 9) hx hb ht itX0 hown hK hP 4 rfl rfl 3 (by decide) (ht _ tw_673) (fun _ h9 => h9) rfl dX0_placeGlobals_2 ?_
  refine lv_imul hx hb dX0_placeGlobals_5 ?_
  refine lv_istore_n (lv' := [(1, .int ((4 : Int32) * (v.1 0 337))), (0, .ref (ad 904))]) hx hb dX0_placeGlobals_6 rfl hl (by decide) rfl (fun ls hl => ?_)
  refine lv_iconst (v := 0) hx hb dX0_placeGlobals_7 (by decide) ?_
  refine lv_istore_n (lv' := [(2, .int 0), (1, .int ((4 : Int32) * (v.1 0 337))), (0, .ref (ad 904))]) hx hb dX0_placeGlobals_8 rfl hl (by decide) rfl (fun ls hl => ?_)
  refine lpm_ (X := Int32 × Int32 × MS) (P := (fun (x9 : Int32 × Int32 × MS) (H : Heap) (locs : List Loc) (ls : Array Slot) => (FC [384] [0] v x9.2.2) ∧ (0 ≤ x9.2.1.toInt) ∧ (RT (Q_x_X0_placeGlobals_L0 L1 L2 v) (((4 : Int32) * (v.1 0 337)), 0, v) (x9.1, x9.2.1, x9.2.2)) ∧ va_P (dC, dI) vwCl (cW ad pr N cI cR L1 L2 x9.2.2) H ∧ va_D A (cW ad pr N cI cR L1 L2 x9.2.2) ∧ va_S A s.heap H locs ∧ lv_has ls 3 [(2, .int x9.2.1), (1, .int x9.1), (0, .ref (ad 904))])) (fun x9 => ((v.1 0 377).toInt - x9.2.1.toInt).toNat) 9 (fun x9 H locs ls hh ih9 => ?_) (((4 : Int32) * (v.1 0 337)), 0, v) _ _ _ ⟨(show FC [384] [0] v v from (FC.rf _)), (show 0 ≤ (0 : Int) from om_342087eeda), RT.rf, hP, hD, hS, lv_sub hl [0, 1, 2] rfl⟩
  obtain ⟨ad9, ka, w9⟩ := x9
  obtain ⟨fwL9, f1L9, exL9, hP, hD, hS, hl⟩ := hh
  have fwL9 : FC [384] [0] v w9 := fwL9
  have f1L9 : 0 ≤ ka.toInt := f1L9
  have hP : va_P (dC, dI) vwCl (cW ad pr N cI cR L1 L2 w9) H := hP
  have hD : va_D A (cW ad pr N cI cR L1 L2 w9) := hD
  have hl : lv_has ls 3 [(2, .int ka), (1, .int ad9), (0, .ref (ad 904))] := hl
  refine lv_iload_n hx hb dX0_placeGlobals_9 rfl (lv_at hl 0 rfl) ?_
  refine lv_aload_n hx hb dX0_placeGlobals_10 rfl (lv_at hl 2 rfl) ?_
  refine va_get (D := (dC, dI)) (ci := 4) (fs := oF_X0 ad pr w9) (v := .ref (pr (w9.1 0 334))) (C := RX0) (T := TX0) (N := 9) hx hb ht itX0 hown hK hP 4 rfl rfl 0 (by decide) (ht _ tw_674) (fun _ h9 => h9) rfl dX0_placeGlobals_11 ?_
  refine W.eq (g2 := F0 m 14 ls [.ref (ad 908), .int ka]) (by rw [show pr (w9.1 0 334) = (ad 908) from (by rw [show (w9.1 0 334) = ps from (Eq.trans (fwL9.2.1 334 (by decide)) es334)]; exact hps)]) ?_
  refine va_get (D := (dC, dI)) (ci := 10) (fs := oF_X7 ad pr w9) (v := .int (w9.1 0 377)) (C := RX7) (T := TX7) (N := 13) hx hb ht itX7 hown hK hP 8 rfl rfl 5 (by decide) (ht _ tw_736) (fun _ h9 => h9) rfl dX0_placeGlobals_14 ?_
  refine lv_icmp_ge (tgt := 50) hx hb dX0_placeGlobals_17 (by decide) (fun h1 => ?_) (fun h1 => ?_)
  · have z2 : (w9.1 0 377).toInt ≤ ka.toInt := le_z rfl rfl h1
    refine lv_aload_n hx hb dX0_placeGlobals_50 rfl (lv_at hl 2 rfl) ?_
    refine va_get (D := (dC, dI)) (ci := 4) (fs := oF_X0 ad pr w9) (v := .ref (pr (w9.1 0 334))) (C := RX0) (T := TX0) (N := 9) hx hb ht itX0 hown hK hP 4 rfl rfl 0 (by decide) (ht _ tw_674) (fun _ h9 => h9) rfl dX0_placeGlobals_51 ?_
    refine lv_iload_n hx hb dX0_placeGlobals_54 rfl (lv_at hl 1 rfl) ?_
    refine W.eq (g2 := F0 m 55 ls [.int ad9, .ref (ad 908)]) (by rw [show pr (w9.1 0 334) = (ad 908) from (by rw [show (w9.1 0 334) = ps from (Eq.trans (fwL9.2.1 334 (by decide)) es334)]; exact hps)]) ?_
    refine va_put (D := (dC, dI)) (ci := 10) (fs := oF_X7 ad pr w9) (v := .int ad9) (ty := .int) (C := RX7) (T := TX7) (N := 13) hx hb ht itX7 tyX7 tyX7_ok nmX7 hown hK hP hD hS 8 rfl rfl 12 (by decide) (ht _ tw_719) (fun _ h9 => h9) rfl (by decide +kernel) rfl rfl (Nat.le_of_ble_eq_true rfl) dX0_placeGlobals_55 (fun H locs hP hD hS => ?_)
    have hP := cP_ (cw_384 ad pr N cI cR L1 L2 w9 ad9) hP
    have hD := cD_ (cw_384 ad pr N cI cR L1 L2 w9 ad9) hD
    exact W.vret hx hb hr (fun t ht9 hW => ⟨⟨(wA w9 0 384 ad9), rfl, ⟨(FC.f (FC.tr (FC.rf _) (FC.up fwL9 (by decide) (by decide))) ad9 (by decide)), ⟨ad9, ka, w9, exL9, fwL9, f1L9, z2, rfl⟩⟩, by rw [ht9]; exact hP, hD⟩, hS.F ht9⟩) hS.2.2 dX0_placeGlobals_58
  · have z3 : ka.toInt < (w9.1 0 377).toInt := nle_z rfl rfl h1
    refine lv_aload_n hx hb dX0_placeGlobals_20 rfl (lv_at hl 2 rfl) ?_
    refine va_get (D := (dC, dI)) (ci := 4) (fs := oF_X0 ad pr w9) (v := .ref (pr (w9.1 0 334))) (C := RX0) (T := TX0) (N := 9) hx hb ht itX0 hown hK hP 4 rfl rfl 0 (by decide) (ht _ tw_674) (fun _ h9 => h9) rfl dX0_placeGlobals_21 ?_
    refine lv_iload_n hx hb dX0_placeGlobals_24 rfl (lv_at hl 0 rfl) ?_
    refine lv_iconst (v := 1) hx hb dX0_placeGlobals_25 (by decide) ?_
    refine lv_iload_n hx hb dX0_placeGlobals_26 rfl (lv_at hl 1 rfl) ?_
    refine W.eq (g2 := F0 m 27 ls [.int ad9, .int 1, .int ka, .ref (ad 908)]) (by rw [show pr (w9.1 0 334) = (ad 908) from (by rw [show (w9.1 0 334) = ps from (Eq.trans (fwL9.2.1 334 (by decide)) es334)]; exact hps)]) ?_
    refine cu_v (rn_Vk (n := 3) (As := [.int ka, .int 1, .int ad9]) (rest := []) hx hb hml hown ht hKK hFx hP hD hS hA (c_x_X7_changeGlobal l dC dI cI cB cZ cJ cR tb H.size ad pr N L1 L2 w9 ka (1 : Int32) ad9 (show L1.length = 40 from hL1) (show L2.length = 60 from hL2) (show RP w9 from ((show FC [384] [0] v w9 from (FC.tr (FC.rf _) (FC.up fwL9 (by decide) (by decide)))).1 rp)) (show (1 : Int) ≠ 0 ∨ ad9.toInt ≤ 1000 from om_975f8fa04c)) tw_599 tw_737 (by decide +kernel) rfl rfl ⟨Nat.le_of_ble_eq_true rfl, Nat.le_of_ble_eq_true rfl⟩ (List.range (cW ad pr N cI cR L1 L2 w9).length) (rg_map _) (nd_range _) 8 rfl rfl rfl rfl hl.1 rfl (Nat.le_of_ble_eq_true rfl) dX0_placeGlobals_27 ⟨Nat.le_of_ble_eq_true rfl, Nat.le_of_ble_eq_true rfl⟩) hP hD hS hA (fun u5 H locs hw4 hP hD hS => ?_)
    obtain ⟨fr4, ex4⟩ := hw4
    refine W.widen (k := 0) (n := 0) (Nat.le_refl _) (Nat.le_refl _) ?_
    refine lv_iload_n hx hb dX0_placeGlobals_30 rfl (lv_at hl 1 rfl) ?_
    refine lv_iconst (v := 4) hx hb dX0_placeGlobals_31 (by decide) ?_
    refine lv_aload_n hx hb dX0_placeGlobals_32 rfl (lv_at hl 2 rfl) ?_
    refine va_get (D := (dC, dI)) (ci := 4) (fs := oF_X0 ad pr u5) (v := .ref (pr (u5.1 0 334))) (C := RX0) (T := TX0) (N := 9) hx hb ht itX0 hown hK hP 4 rfl rfl 0 (by decide) (ht _ tw_674) (fun _ h9 => h9) rfl dX0_placeGlobals_33 ?_
    refine lv_iload_n hx hb dX0_placeGlobals_36 rfl (lv_at hl 0 rfl) ?_
    refine lv_iconst (v := 0) hx hb dX0_placeGlobals_37 (by decide) ?_
    refine W.eq (g2 := F0 m 38 ls [.int 0, .int ka, .ref (ad 908), .int 4, .int ad9]) (by rw [show pr (u5.1 0 334) = (ad 908) from (by rw [show (u5.1 0 334) = ps from (Eq.trans (fr4.2.1 334 (by decide)) (Eq.trans (fwL9.2.1 334 (by decide)) es334))]; exact hps)]) ?_
    refine cu_i (rn_Vk (n := 2) (As := [.int ka, .int 0]) (rest := [.int 4, .int ad9]) hx hb hml hown ht hKK hFx hP hD hS hA (c_x_X7_globalFact l dC dI cI cB cZ cJ cR tb H.size ad pr N L1 L2 u5 ka (0 : Int32) (show L1.length = 40 from hL1) (show L2.length = 60 from hL2) (show RP u5 from ((show FC [384] [0] v u5 from (FC.tr (FC.tr (FC.rf _) (FC.up fwL9 (by decide) (by decide))) (FC.up fr4 (by decide) (by decide)))).1 rp))) tw_402 tw_685 (by decide +kernel) rfl rfl ⟨Nat.le_of_ble_eq_true rfl, Nat.le_of_ble_eq_true rfl⟩ (List.range (cW ad pr N cI cR L1 L2 u5).length) (rg_map _) (nd_range _) 8 rfl rfl rfl rfl hl.1 rfl (Nat.le_of_ble_eq_true rfl) dX0_placeGlobals_38 ⟨Nat.le_of_ble_eq_true rfl, Nat.le_of_ble_eq_true rfl⟩) hP hD hS hA (fun r9 u8 H locs hw7 hP hD hS => ?_)
    obtain ⟨rfl, ex7, c7, d7⟩ := hw7
    have c7 : ((0 : Int) ≠ 0 ∨ r9.toInt ≤ 1000) := c7
    have d7 : (r9.toInt ≤ 2147483647) := d7
    refine W.widen (k := 0) (n := 0) (Nat.le_refl _) (Nat.le_refl _) ?_
    refine lv_imul hx hb dX0_placeGlobals_41 ?_
    refine lv_iadd hx hb dX0_placeGlobals_42 ?_
    refine lv_istore_n (lv' := [(1, .int (ad9 + ((4 : Int32) * r9))), (2, .int ka), (0, .ref (ad 904))]) hx hb dX0_placeGlobals_43 rfl hl (by decide) rfl (fun ls hl => ?_)
    refine lv_iinc (v := (ka + (1 : Int32))) (lv' := [(2, .int (ka + (1 : Int32))), (1, .int (ad9 + ((4 : Int32) * r9))), (0, .ref (ad 904))]) hx hb dX0_placeGlobals_44 hl (k := 1) rfl (rfl) (by decide) rfl (fun ls hl => ?_)
    have z10 : (ka + (1 : Int32)).toInt = ka.toInt + 1 := inc_lt z3
    refine lv_goto (tgt := 9) hx hb dX0_placeGlobals_47 (by decide) ?_
    have q11 : (w9.1 0 377).toInt = (v.1 0 377).toInt := congrArg Int32.toInt ((fwL9.2.1 377 (by decide)).trans (show v.1 0 377 = (v.1 0 377) by rfl))
    exact ih9 ((ad9 + ((4 : Int32) * r9)), (ka + (1 : Int32)), u5) _ _ _ (show ((v.1 0 377).toInt - (ka + (1 : Int32)).toInt).toNat < ((v.1 0 377).toInt - ka.toInt).toNat from tn_z (om_7310d536e1 z10) (om_6b3904b74d q11 z3)) ⟨(show FC [384] [0] v u5 from (FC.tr (FC.tr (FC.rf _) (FC.up fwL9 (by decide) (by decide))) (FC.up fr4 (by decide) (by decide)))), (show 0 ≤ (ka + (1 : Int32)).toInt from (om_db977a0953 f1L9 z10)), (RT.st exL9 ⟨fwL9, f1L9, z3, u5, ex4, fr4, r9, ex7, ⟨c7, d7⟩, rfl⟩), hP, hD, hS, lv_sub hl [0, 1, 2] rfl⟩
theorem om_a476789b7f : 0 ≤ (0 : Int) ∧ (0 : Int) + 1 ≤ 7000000 := by omega
theorem om_2f72f6629e {x0 : Int} (h0 : x0 = (0 : Int) + 1) : 0 ≤ x0 ∧ x0 + 1 ≤ 7000000 := by omega
theorem om_7aba0abe8a {x0 x1 : Int} (h0 : x0 = (0 : Int) + 1) (h1 : x1 = x0 + 1) : 0 ≤ x1 ∧ x1 ≤ 2 + 2010 * (0 : Int) := by omega
theorem om_12585c1ed3 {x0 x1 : Int} (h0 : 0 ≤ x0 ∧ x0 ≤ 2 + 2010 * x1) : -2147483648 ≤ (4 : Int) * (x0) := by omega
theorem om_5d7a1f4dde {x0 x1 : Int} (h0 : 0 ≤ x0 ∧ x0 ≤ 3008) (h1 : 0 ≤ x1 ∧ x1 ≤ 2 + 2010 * x0) : (4 : Int) * (x1) < 2147483648 := by omega
theorem om_347b622c0c {x0 x1 : Int} (h0 : 0 ≤ x0 ∧ x0 ≤ 3008) (h1 : 0 ≤ x1 ∧ x1 ≤ 2 + 2010 * x0) : 0 ≤ x1 ∧ x1 + 26 ≤ 7000000 := by omega
theorem om_d7e1a62757 {x0 x1 : Int} (h0 : 0 ≤ x0 ∧ x0 ≤ 3008) (h1 : 0 ≤ x1 ∧ x1 ≤ 2 + 2010 * x0) : 0 ≤ x1 ∧ x1 + 10 ≤ 7000000 := by omega
theorem om_c3473b29ca {x0 x1 x2 : Int} (h0 : 0 ≤ x0 ∧ x0 ≤ 2 + 2010 * x1) (h1 : x2 = x0 + 10) : -2147483648 ≤ (4 : Int) * (x2) := by omega
theorem om_f2aa6c9487 {x0 x1 x2 : Int} (h0 : 0 ≤ x0 ∧ x0 ≤ 3008) (h1 : 0 ≤ x1 ∧ x1 ≤ 2 + 2010 * x0) (h2 : x2 = x1 + 10) : (4 : Int) * (x2) < 2147483648 := by omega
theorem om_2669eaade5 {x0 x1 x2 : Int} (h0 : 0 ≤ x0 ∧ x0 ≤ 3008) (h1 : 0 ≤ x1 ∧ x1 ≤ 2 + 2010 * x0) (h2 : x2 = x1 + 10) : 0 ≤ x2 ∧ x2 + 26 ≤ 7000000 := by omega
theorem om_b18b6b65e7 {x0 x1 x2 : Int} (h0 : 0 ≤ x0 ∧ x0 ≤ 3008) (h1 : x1 = x0) (h2 : x2 < x1) (h3 : (3008 : Int) ≤ x2) : False := by omega
theorem om_8433a586ce {x0 x1 : Int} (h0 : 0 ≤ x0 ∧ x0 ≤ 2 + 2010 * x1) (h1 : x1 < (3008 : Int)) : (4 : Int) * (x0) < 2147483648 := by omega
theorem om_5f8c0f5829 {x0 x1 : Int} (h0 : 0 ≤ x0 ∧ x0 ≤ 2 + 2010 * x1) : 0 ≤ x1 := by omega
theorem om_6e21229777 {x0 : Int} (h0 : x0 < (3008 : Int)) : x0 < 3009 := by omega
theorem om_f17a454137 {x0 : Int} (h0 : x0 < (3008 : Int)) : x0 < 3008 := by omega
theorem om_3d033abc8c {x0 x1 : Int} (h0 : 0 ≤ x0 ∧ x0 ≤ 2 + 2010 * x1) (h1 : x1 < (3008 : Int)) : 0 ≤ x0 ∧ x0 + 2010 ≤ 7000000 := by omega
theorem om_b9c6f78032 {x0 x1 x2 : Int} (h0 : 0 ≤ x0 ∧ x0 ≤ 2 + 2010 * x1) (h1 : x1 < (3008 : Int)) (h2 : x2 = x1 + 1) : 0 ≤ x2 ∧ x2 ≤ 3008 := by omega
theorem om_b018d53db6 {x0 x1 x2 x3 : Int} (h0 : 0 ≤ x0 ∧ x0 ≤ 2 + 2010 * x1) (h1 : x0 ≤ x2 ∧ x2 ≤ x0 + 2010) (h2 : x3 = x1 + 1) : 0 ≤ x2 ∧ x2 ≤ 2 + 2010 * x3 := by omega
theorem om_138df3c7f1 {x0 : Int} (h0 : x0 < (3008 : Int)) : 0 < 3008 - x0 := by omega
set_option maxHeartbeats 4000000 in
set_option maxRecDepth 100000 in
theorem c_x_X0_layAll (l : Launch) (dC : Nat → ClassId) (dI : Nat → Nat → Nat) (cI cB cZ cJ cR : ClassId) (tb : Nat → Nat) (sz : Nat) (ad : Nat → Nat) (pr : Int32 → Nat) (N : Nat) (L1 L2 : List Nat) (v : MS) (ps : Int32) (z381 : 0 ≤ (v.1 0 381).toInt ∧ (v.1 0 381).toInt ≤ 3008) (zNN : (N : Int) ≤ 4096) (hL1 : L1.length = 40) (hL2 : L2.length = 60) (rp : RP v) (hps : pr ps = ad 908) (es334 : (v.1 0 334) = ps) : Met l yX0_layAll (Cond.code yX0_layAll cX0_layAll 2 none :: tw_W) ({ frames := 5, cells := 0, slots := 0, locals := 114 }) (pc_ (dC, dI) (tyS cI cB cZ cJ cR) tb (cW ad pr N cI cR L1 L2 v) sz [.ref (ad 904)]) (qv_ (dC, dI) (cW ad pr N cI cR L1 L2 v) sz (fun (u : MS) => FC [337, 339, 340, 341, 342, 383, 384] [0, 336, 382] v u ∧ (Q_x_X0_layAll L1 L2 N v u)) (fun (u : MS) => (cW ad pr N cI cR L1 L2 u))) 0 0 (va_A (cW ad pr N cI cR L1 L2 v) sz) := by
  refine Met.ofW (cc := cX0_layAll) (maxL := 2) (ret := none) (by decide) rfl ?_
  intro p e s m args below meth c s₁ B hml hv
  obtain ⟨rfl, hsz, hP, hKK, hD0, hFx⟩ := hv
  have hK := hKK.1
  have hx := B.exec
  have hb := B.bytes
  have hr := B.returns
  have ht : ∀ w ∈ tw_W, w.before _ s = true := fun w h => atoms_spec (ws := Cond.code yX0_layAll cX0_layAll 2 none :: tw_W) B.pre w (List.mem_cons_of_mem _ h)
  have hown : s.vm.findClass RX0 = some m.cls := findClass_of_methodNamed B.named
  have hlocks := B.notSynchronized
  subst hsz
  unfold qv_
  have hD := hD0.self (sz := s.heap.size)
  generalize hAe : va_A (cW ad pr N cI cR L1 L2 v) s.heap.size = A at hD hFx ⊢
  have hA : ∀ q : Nat, s.heap.size ≤ q → A q := fun q h => by rw [← hAe]; exact Or.inr h
  have hS : va_S A s.heap s.heap [] := va_S.rf
  have hl := lv_entry ([.ref (ad 904)]) (n := 2) (Nat.le_of_ble_eq_true rfl)
  rw [lg_entry_eq]
  generalize (lg_sl ([.ref (ad 904)]) ++ List.replicate (2 - (lg_sl ([.ref (ad 904)])).length) Slot.unset).toArray = ls at hl ⊢
  have hl : lv_has ls 2 [(0, .ref (ad 904))] := hl
  refine lv_aload_n hx hb dX0_layAll_0 rfl (lv_at hl 0 rfl) ?_
  refine lv_iconst (v := 0) hx hb dX0_layAll_1 (by decide) ?_
  refine va_put (D := (dC, dI)) (ci := 4) (fs := oF_X0 ad pr v) (v := .int 0) (ty := .int) (C := RX0) (T := TX0) (N := 9) hx hb ht itX0 tyX0 tyX0_ok nmX0 hown hK hP hD hS 4 rfl rfl 3 (by decide) (ht _ tw_673) (fun _ h9 => h9) rfl (by decide +kernel) rfl rfl (Nat.le_of_ble_eq_true rfl) dX0_layAll_2 (fun H locs hP hD hS => ?_)
  have hP := cP_ (cw_337 ad pr N cI cR L1 L2 v 0) hP
  have hD := cD_ (cw_337 ad pr N cI cR L1 L2 v 0) hD
  refine lv_aload_n hx hb dX0_layAll_5 rfl (lv_at hl 0 rfl) ?_
  refine lv_iconst (v := 0) hx hb dX0_layAll_6 (by decide) ?_
  refine va_put (D := (dC, dI)) (ci := 4) (fs := oF_X0 ad pr (wA v 0 337 0)) (v := .int 0) (ty := .boolean) (C := RX0) (T := TX0) (N := 9) hx hb ht itX0 tyX0 tyX0_ok nmX0 hown hK hP hD hS 4 rfl rfl 5 (by decide) (ht _ tw_701) (fun _ h9 => h9) rfl (by decide +kernel) rfl rfl (Nat.le_of_ble_eq_true rfl) dX0_layAll_7 (fun H locs hP hD hS => ?_)
  have hP := cP_ (cw_339 ad pr N cI cR L1 L2 (wA v 0 337 0) 0) hP
  have hD := cD_ (cw_339 ad pr N cI cR L1 L2 (wA v 0 337 0) 0) hD
  refine lv_aload_n hx hb dX0_layAll_10 rfl (lv_at hl 0 rfl) ?_
  refine lv_iconst (v := 0) hx hb dX0_layAll_11 (by decide) ?_
  refine va_put (D := (dC, dI)) (ci := 4) (fs := oF_X0 ad pr (wA (wA v 0 337 0) 0 339 0)) (v := .int 0) (ty := .boolean) (C := RX0) (T := TX0) (N := 9) hx hb ht itX0 tyX0 tyX0_ok nmX0 hown hK hP hD hS 4 rfl rfl 6 (by decide) (ht _ tw_703) (fun _ h9 => h9) rfl (by decide +kernel) rfl rfl (Nat.le_of_ble_eq_true rfl) dX0_layAll_12 (fun H locs hP hD hS => ?_)
  have hP := cP_ (cw_340 ad pr N cI cR L1 L2 (wA (wA v 0 337 0) 0 339 0) 0) hP
  have hD := cD_ (cw_340 ad pr N cI cR L1 L2 (wA (wA v 0 337 0) 0 339 0) 0) hD
  refine lv_aload_n hx hb dX0_layAll_15 rfl (lv_at hl 0 rfl) ?_
  refine lv_bipush (v := 19) hx hb dX0_layAll_16 (by decide) ?_
  refine lv_bipush (v := 17) hx hb dX0_layAll_18 (by decide) ?_
  refine lv_iconst (v := 0) hx hb dX0_layAll_20 (by decide) ?_
  refine lv_iconst (v := 0) hx hb dX0_layAll_21 (by decide) ?_
  refine cu_v (rn_Vk (n := 4) (As := [.int 19, .int 17, .int 0, .int 0]) (rest := []) hx hb hml hown ht hKK hFx hP hD hS hA (c_x_X0_immediate l dC dI cI cB cZ cJ cR tb H.size ad pr N L1 L2 (wA (wA (wA v 0 337 0) 0 339 0) 0 340 0) (19 : Int32) (17 : Int32) (0 : Int32) (0 : Int32) ps (show (N : Int) ≤ 4096 from (om_1c2c49c46c zNN)) (show pr ps = ad 908 from hps) (show (v.1 0 334) = ps from es334) (show 0 ≤ (0 : Int) ∧ (0 : Int) + 1 ≤ 7000000 from om_a476789b7f)) tw_678 tw_679 (by decide +kernel) rfl rfl ⟨Nat.le_of_ble_eq_true rfl, Nat.le_of_ble_eq_true rfl⟩ (List.range (cW ad pr N cI cR L1 L2 (wA (wA (wA v 0 337 0) 0 339 0) 0 340 0)).length) (rg_map _) (nd_range _) 4 rfl rfl rfl rfl hl.1 rfl (Nat.le_of_ble_eq_true rfl) dX0_layAll_22 ⟨Nat.le_of_ble_eq_true rfl, Nat.le_of_ble_eq_true rfl⟩) hP hD hS hA (fun u2 H locs hw1 hP hD hS => ?_)
  obtain ⟨fr1, ex1, pz1, rs1⟩ := hw1
  have pz1 : (u2.1 0 337).toInt = (0 : Int) + 1 := pz1
  have rs1 : RS (wA (wA (wA v 0 337 0) 0 339 0) 0 340 0) u2 := rs1
  refine W.widen (k := 0) (n := 0) (Nat.le_refl _) (Nat.le_refl _) ?_
  refine lv_aload_n hx hb dX0_layAll_25 rfl (lv_at hl 0 rfl) ?_
  refine lv_ldc (v := 1048691) hx hb hown (ht _ tw_680) dX0_layAll_26 ?_
  refine cu_v (rn_Vk (n := 1) (As := [.int 1048691]) (rest := []) hx hb hml hown ht hKK hFx hP hD hS hA (c_x_X0_emit l dC dI cI cB cZ cJ cR tb H.size ad pr N L1 L2 u2 (1048691 : Int32) ps (show (N : Int) ≤ 4096 from (om_1c2c49c46c zNN)) (show pr ps = ad 908 from hps) (show (u2.1 0 334) = ps from (Eq.trans (fr1.2.1 334 (by decide)) es334)) (show 0 ≤ (u2.1 0 337).toInt ∧ (u2.1 0 337).toInt + 1 ≤ 7000000 from (om_2f72f6629e pz1))) tw_676 tw_677 (by decide +kernel) rfl rfl ⟨Nat.le_of_ble_eq_true rfl, Nat.le_of_ble_eq_true rfl⟩ (List.range (cW ad pr N cI cR L1 L2 u2).length) (rg_map _) (nd_range _) 4 rfl rfl rfl rfl hl.1 rfl (Nat.le_of_ble_eq_true rfl) dX0_layAll_28 ⟨Nat.le_of_ble_eq_true rfl, Nat.le_of_ble_eq_true rfl⟩) hP hD hS hA (fun u5 H locs hw4 hP hD hS => ?_)
  obtain ⟨fr4, ex4, pz4, rs4⟩ := hw4
  have pz4 : (u5.1 0 337).toInt = (u2.1 0 337).toInt + 1 := pz4
  have rs4 : RS u2 u5 := rs4
  refine W.widen (k := 0) (n := 0) (Nat.le_refl _) (Nat.le_refl _) ?_
  refine lv_iconst (v := 0) hx hb dX0_layAll_31 (by decide) ?_
  refine lv_istore_n (lv' := [(1, .int 0), (0, .ref (ad 904))]) hx hb dX0_layAll_32 rfl hl (by decide) rfl (fun ls hl => ?_)
  refine lpm_ (X := Int32 × MS) (P := (fun (x9 : Int32 × MS) (H : Heap) (locs : List Loc) (ls : Array Slot) => (FC [337, 339, 340, 341, 342, 383, 384] [0, 336, 382] v x9.2) ∧ (0 ≤ x9.1.toInt ∧ x9.1.toInt ≤ 3008) ∧ (0 ≤ (x9.2.1 0 337).toInt ∧ (x9.2.1 0 337).toInt ≤ 2 + 2010 * x9.1.toInt) ∧ (RT (Q_x_X0_layAll_L0 L1 L2 N v) (0, u5) (x9.1, x9.2)) ∧ va_P (dC, dI) vwCl (cW ad pr N cI cR L1 L2 x9.2) H ∧ va_D A (cW ad pr N cI cR L1 L2 x9.2) ∧ va_S A s.heap H locs ∧ lv_has ls 2 [(1, .int x9.1), (0, .ref (ad 904))])) (fun x9 => (3008 - x9.1.toInt).toNat) 33 (fun x9 H locs ls hh ih33 => ?_) (0, u5) _ _ _ ⟨(show FC [337, 339, 340, 341, 342, 383, 384] [0, 336, 382] v u5 from (FC.tr (FC.tr (FC.f (FC.f (FC.f (FC.rf _) 0 (by decide)) 0 (by decide)) 0 (by decide)) (FC.up fr1 (by decide) (by decide))) (FC.up fr4 (by decide) (by decide)))), (show 0 ≤ (0 : Int) ∧ (0 : Int) ≤ 3008 from om_bf0998abe5), (show 0 ≤ (u5.1 0 337).toInt ∧ (u5.1 0 337).toInt ≤ 2 + 2010 * (0 : Int) from (om_7aba0abe8a pz1 pz4)), RT.rf, hP, hD, hS, lv_sub hl [0, 1] rfl⟩
  obtain ⟨ka, w33⟩ := x9
  obtain ⟨fwL33, f1L33, f2L33, exL33, hP, hD, hS, hl⟩ := hh
  have fwL33 : FC [337, 339, 340, 341, 342, 383, 384] [0, 336, 382] v w33 := fwL33
  have f1L33 : 0 ≤ ka.toInt ∧ ka.toInt ≤ 3008 := f1L33
  have f2L33 : 0 ≤ (w33.1 0 337).toInt ∧ (w33.1 0 337).toInt ≤ 2 + 2010 * ka.toInt := f2L33
  have hP : va_P (dC, dI) vwCl (cW ad pr N cI cR L1 L2 w33) H := hP
  have hD : va_D A (cW ad pr N cI cR L1 L2 w33) := hD
  have hl : lv_has ls 2 [(1, .int ka), (0, .ref (ad 904))] := hl
  refine lv_iload_n hx hb dX0_layAll_33 rfl (lv_at hl 0 rfl) ?_
  refine lv_aload_n hx hb dX0_layAll_34 rfl (lv_at hl 1 rfl) ?_
  refine va_get (D := (dC, dI)) (ci := 4) (fs := oF_X0 ad pr w33) (v := .ref (pr (w33.1 0 334))) (C := RX0) (T := TX0) (N := 9) hx hb ht itX0 hown hK hP 4 rfl rfl 0 (by decide) (ht _ tw_674) (fun _ h9 => h9) rfl dX0_layAll_35 ?_
  refine W.eq (g2 := F0 m 38 ls [.ref (ad 908), .int ka]) (by rw [show pr (w33.1 0 334) = (ad 908) from (by rw [show (w33.1 0 334) = ps from (Eq.trans (fwL33.2.1 334 (by decide)) es334)]; exact hps)]) ?_
  refine va_get (D := (dC, dI)) (ci := 10) (fs := oF_X7 ad pr w33) (v := .int (w33.1 0 381)) (C := RX7) (T := TX7) (N := 13) hx hb ht itX7 hown hK hP 8 rfl rfl 9 (by decide) (ht _ tw_738) (fun _ h9 => h9) rfl dX0_layAll_38 ?_
  refine lv_icmp_ge (tgt := 100) hx hb dX0_layAll_41 (by decide) (fun h7 => ?_) (fun h7 => ?_)
  · have z8 : (w33.1 0 381).toInt ≤ ka.toInt := le_z rfl rfl h7
    refine lv_aload_n hx hb dX0_layAll_100 rfl (lv_at hl 1 rfl) ?_
    refine lv_iconst (v := 4) hx hb dX0_layAll_101 (by decide) ?_
    refine lv_aload_n hx hb dX0_layAll_102 rfl (lv_at hl 1 rfl) ?_
    refine va_get (D := (dC, dI)) (ci := 4) (fs := oF_X0 ad pr w33) (v := .int (w33.1 0 337)) (C := RX0) (T := TX0) (N := 9) hx hb ht itX0 hown hK hP 4 rfl rfl 3 (by decide) (ht _ tw_673) (fun _ h9 => h9) rfl dX0_layAll_103 ?_
    refine lv_imul hx hb dX0_layAll_106 ?_
    have z9 : ((4 : Int32) * (w33.1 0 337)).toInt = (4 : Int) * ((w33.1 0 337).toInt) := mul_z (show (4 : Int32).toInt = (4 : Int) by decide) rfl (om_12585c1ed3 f2L33) (om_5d7a1f4dde f1L33 f2L33)
    refine va_put (D := (dC, dI)) (ci := 4) (fs := oF_X0 ad pr w33) (v := .int ((4 : Int32) * (w33.1 0 337))) (ty := .int) (C := RX0) (T := TX0) (N := 9) hx hb ht itX0 tyX0 tyX0_ok nmX0 hown hK hP hD hS 4 rfl rfl 7 (by decide) (ht _ tw_702) (fun _ h9 => h9) rfl (by decide +kernel) rfl rfl (Nat.le_of_ble_eq_true rfl) dX0_layAll_107 (fun H locs hP hD hS => ?_)
    have hP := cP_ (cw_341 ad pr N cI cR L1 L2 w33 ((4 : Int32) * (w33.1 0 337))) hP
    have hD := cD_ (cw_341 ad pr N cI cR L1 L2 w33 ((4 : Int32) * (w33.1 0 337))) hD
    refine lv_aload_n hx hb dX0_layAll_110 rfl (lv_at hl 1 rfl) ?_
    refine va_get (D := (dC, dI)) (ci := 4) (fs := oF_X0 ad pr (wA w33 0 341 ((4 : Int32) * (w33.1 0 337)))) (v := .int (w33.1 0 339)) (C := RX0) (T := TX0) (N := 9) hx hb ht itX0 hown hK hP 4 rfl rfl 5 (by decide) (ht _ tw_701) (fun _ h9 => h9) rfl dX0_layAll_111 ?_
    refine lv_if_eq (tgt := 121) hx hb dX0_layAll_114 (by decide) (fun h10 => ?_) (fun h10 => ?_)
    · have z11 : (w33.1 0 339).toInt = (0 : Int) := eq_z rfl (show (0 : Int32).toInt = (0 : Int) by decide) h10
      refine lv_aload_n hx hb dX0_layAll_121 rfl (lv_at hl 1 rfl) ?_
      refine lv_iconst (v := 4) hx hb dX0_layAll_122 (by decide) ?_
      refine lv_aload_n hx hb dX0_layAll_123 rfl (lv_at hl 1 rfl) ?_
      refine va_get (D := (dC, dI)) (ci := 4) (fs := oF_X0 ad pr (wA w33 0 341 ((4 : Int32) * (w33.1 0 337)))) (v := .int (w33.1 0 337)) (C := RX0) (T := TX0) (N := 9) hx hb ht itX0 hown hK hP 4 rfl rfl 3 (by decide) (ht _ tw_673) (fun _ h9 => h9) rfl dX0_layAll_124 ?_
      refine lv_imul hx hb dX0_layAll_127 ?_
      have z12 : ((4 : Int32) * (w33.1 0 337)).toInt = (4 : Int) * ((w33.1 0 337).toInt) := mul_z (show (4 : Int32).toInt = (4 : Int) by decide) rfl (om_12585c1ed3 f2L33) (om_5d7a1f4dde f1L33 f2L33)
      refine va_put (D := (dC, dI)) (ci := 4) (fs := oF_X0 ad pr (wA w33 0 341 ((4 : Int32) * (w33.1 0 337)))) (v := .int ((4 : Int32) * (w33.1 0 337))) (ty := .int) (C := RX0) (T := TX0) (N := 9) hx hb ht itX0 tyX0 tyX0_ok nmX0 hown hK hP hD hS 4 rfl rfl 8 (by decide) (ht _ tw_704) (fun _ h9 => h9) rfl (by decide +kernel) rfl rfl (Nat.le_of_ble_eq_true rfl) dX0_layAll_128 (fun H locs hP hD hS => ?_)
      have hP := cP_ (cw_342 ad pr N cI cR L1 L2 (wA w33 0 341 ((4 : Int32) * (w33.1 0 337))) ((4 : Int32) * (w33.1 0 337))) hP
      have hD := cD_ (cw_342 ad pr N cI cR L1 L2 (wA w33 0 341 ((4 : Int32) * (w33.1 0 337))) ((4 : Int32) * (w33.1 0 337))) hD
      refine lv_aload_n hx hb dX0_layAll_131 rfl (lv_at hl 1 rfl) ?_
      refine va_get (D := (dC, dI)) (ci := 4) (fs := oF_X0 ad pr (wA (wA w33 0 341 ((4 : Int32) * (w33.1 0 337))) 0 342 ((4 : Int32) * (w33.1 0 337)))) (v := .int (w33.1 0 340)) (C := RX0) (T := TX0) (N := 9) hx hb ht itX0 hown hK hP 4 rfl rfl 6 (by decide) (ht _ tw_703) (fun _ h9 => h9) rfl dX0_layAll_132 ?_
      refine lv_if_eq (tgt := 142) hx hb dX0_layAll_135 (by decide) (fun h13 => ?_) (fun h13 => ?_)
      · have z14 : (w33.1 0 340).toInt = (0 : Int) := eq_z rfl (show (0 : Int32).toInt = (0 : Int) by decide) h13
        refine lv_aload_n hx hb dX0_layAll_142 rfl (lv_at hl 1 rfl) ?_
        refine va_get (D := (dC, dI)) (ci := 4) (fs := oF_X0 ad pr (wA (wA w33 0 341 ((4 : Int32) * (w33.1 0 337))) 0 342 ((4 : Int32) * (w33.1 0 337)))) (v := .ref (pr (w33.1 0 334))) (C := RX0) (T := TX0) (N := 9) hx hb ht itX0 hown hK hP 4 rfl rfl 0 (by decide) (ht _ tw_674) (fun _ h9 => h9) rfl dX0_layAll_143 ?_
        refine lv_aload_n hx hb dX0_layAll_146 rfl (lv_at hl 1 rfl) ?_
        refine va_get (D := (dC, dI)) (ci := 4) (fs := oF_X0 ad pr (wA (wA w33 0 341 ((4 : Int32) * (w33.1 0 337))) 0 342 ((4 : Int32) * (w33.1 0 337)))) (v := .int (w33.1 0 337)) (C := RX0) (T := TX0) (N := 9) hx hb ht itX0 hown hK hP 4 rfl rfl 3 (by decide) (ht _ tw_673) (fun _ h9 => h9) rfl dX0_layAll_147 ?_
        refine W.eq (g2 := F0 m 150 ls [.int (w33.1 0 337), .ref (ad 908)]) (by rw [show pr (w33.1 0 334) = (ad 908) from (by rw [show (w33.1 0 334) = ps from (Eq.trans (fwL33.2.1 334 (by decide)) es334)]; exact hps)]) ?_
        refine va_put (D := (dC, dI)) (ci := 10) (fs := oF_X7 ad pr (wA (wA w33 0 341 ((4 : Int32) * (w33.1 0 337))) 0 342 ((4 : Int32) * (w33.1 0 337)))) (v := .int (w33.1 0 337)) (ty := .int) (C := RX7) (T := TX7) (N := 13) hx hb ht itX7 tyX7 tyX7_ok nmX7 hown hK hP hD hS 8 rfl rfl 11 (by decide) (ht _ tw_739) (fun _ h9 => h9) rfl (by decide +kernel) rfl rfl (Nat.le_of_ble_eq_true rfl) dX0_layAll_150 (fun H locs hP hD hS => ?_)
        have hP := cP_ (cw_383 ad pr N cI cR L1 L2 (wA (wA w33 0 341 ((4 : Int32) * (w33.1 0 337))) 0 342 ((4 : Int32) * (w33.1 0 337))) (w33.1 0 337)) hP
        have hD := cD_ (cw_383 ad pr N cI cR L1 L2 (wA (wA w33 0 341 ((4 : Int32) * (w33.1 0 337))) 0 342 ((4 : Int32) * (w33.1 0 337))) (w33.1 0 337)) hD
        refine lv_aload_n hx hb dX0_layAll_153 rfl (lv_at hl 1 rfl) ?_
        refine cu_v (rn_Vk (n := 0) (As := []) (rest := []) hx hb hml hown ht hKK hFx hP hD hS hA (c_x_X0_placeGlobals l dC dI cI cB cZ cJ cR tb H.size ad pr N L1 L2 (wA (wA (wA w33 0 341 ((4 : Int32) * (w33.1 0 337))) 0 342 ((4 : Int32) * (w33.1 0 337))) 0 383 (w33.1 0 337)) ps (show L1.length = 40 from hL1) (show L2.length = 60 from hL2) (show RP (wA (wA (wA w33 0 341 ((4 : Int32) * (w33.1 0 337))) 0 342 ((4 : Int32) * (w33.1 0 337))) 0 383 (w33.1 0 337)) from ((show FC [337, 339, 340, 341, 342, 383, 384] [0, 336, 382] v (wA (wA (wA w33 0 341 ((4 : Int32) * (w33.1 0 337))) 0 342 ((4 : Int32) * (w33.1 0 337))) 0 383 (w33.1 0 337)) from (FC.f (FC.f (FC.f (FC.tr (FC.rf _) (FC.up fwL33 (by decide) (by decide))) ((4 : Int32) * (w33.1 0 337)) (by decide)) ((4 : Int32) * (w33.1 0 337)) (by decide)) (w33.1 0 337) (by decide))).1 rp)) (show pr ps = ad 908 from hps) (show (w33.1 0 334) = ps from (Eq.trans (fwL33.2.1 334 (by decide)) es334))) tw_740 tw_741 (by decide +kernel) rfl rfl ⟨Nat.le_of_ble_eq_true rfl, Nat.le_of_ble_eq_true rfl⟩ (List.range (cW ad pr N cI cR L1 L2 (wA (wA (wA w33 0 341 ((4 : Int32) * (w33.1 0 337))) 0 342 ((4 : Int32) * (w33.1 0 337))) 0 383 (w33.1 0 337))).length) (rg_map _) (nd_range _) 4 rfl rfl rfl rfl hl.1 rfl (Nat.le_of_ble_eq_true rfl) dX0_layAll_154 ⟨Nat.le_of_ble_eq_true rfl, Nat.le_of_ble_eq_true rfl⟩) hP hD hS hA (fun u16 H locs hw15 hP hD hS => ?_)
        obtain ⟨fr15, ex15⟩ := hw15
        refine W.widen (k := 0) (n := 0) (Nat.le_refl _) (Nat.le_refl _) ?_
        exact W.vret hx hb hr (fun t ht9 hW => ⟨⟨u16, rfl, ⟨(FC.tr (FC.f (FC.f (FC.f (FC.tr (FC.rf _) (FC.up fwL33 (by decide) (by decide))) ((4 : Int32) * (w33.1 0 337)) (by decide)) ((4 : Int32) * (w33.1 0 337)) (by decide)) (w33.1 0 337) (by decide)) (FC.up fr15 (by decide) (by decide))), ⟨z381, u2, ex1, ⟨fr1, pz1, rs1⟩, u5, ex4, ⟨fr4, pz4, rs4⟩, ka, w33, exL33, fwL33, f1L33, f2L33, z8, (Or.inl ⟨z11, (Or.inl ⟨z14, u16, ex15, fr15, rfl⟩)⟩)⟩⟩, by rw [ht9]; exact hP, hD⟩, hS.F ht9⟩) hS.2.2 dX0_layAll_157
      · have z18 : (w33.1 0 340).toInt ≠ (0 : Int) := ne_z rfl (show (0 : Int32).toInt = (0 : Int) by decide) h13
        refine lv_aload_n hx hb dX0_layAll_138 rfl (lv_at hl 1 rfl) ?_
        refine cu_v (rn_Vk (n := 0) (As := []) (rest := []) hx hb hml hown ht hKK hFx hP hD hS hA (c_x_X0_layOver l dC dI cI cB cZ cJ cR tb H.size ad pr N L1 L2 (wA (wA w33 0 341 ((4 : Int32) * (w33.1 0 337))) 0 342 ((4 : Int32) * (w33.1 0 337))) ps (show (N : Int) ≤ 4096 from (om_1c2c49c46c zNN)) (show pr ps = ad 908 from hps) (show (w33.1 0 334) = ps from (Eq.trans (fwL33.2.1 334 (by decide)) es334)) (show 0 ≤ (w33.1 0 337).toInt ∧ (w33.1 0 337).toInt + 26 ≤ 7000000 from (om_347b622c0c f1L33 f2L33))) tw_742 tw_743 (by decide +kernel) rfl rfl ⟨Nat.le_of_ble_eq_true rfl, Nat.le_of_ble_eq_true rfl⟩ (List.range (cW ad pr N cI cR L1 L2 (wA (wA w33 0 341 ((4 : Int32) * (w33.1 0 337))) 0 342 ((4 : Int32) * (w33.1 0 337)))).length) (rg_map _) (nd_range _) 4 rfl rfl rfl rfl hl.1 rfl (Nat.le_of_ble_eq_true rfl) dX0_layAll_139 ⟨Nat.le_of_ble_eq_true rfl, Nat.le_of_ble_eq_true rfl⟩) hP hD hS hA (fun u20 H locs hw19 hP hD hS => ?_)
        obtain ⟨fr19, ex19, pz19, rs19⟩ := hw19
        have pz19 : (u20.1 0 337).toInt = (w33.1 0 337).toInt + 26 := pz19
        have rs19 : RS (wA (wA w33 0 341 ((4 : Int32) * (w33.1 0 337))) 0 342 ((4 : Int32) * (w33.1 0 337))) u20 := rs19
        refine W.widen (k := 0) (n := 0) (Nat.le_refl _) (Nat.le_refl _) ?_
        refine lv_aload_n hx hb dX0_layAll_142 rfl (lv_at hl 1 rfl) ?_
        refine va_get (D := (dC, dI)) (ci := 4) (fs := oF_X0 ad pr u20) (v := .ref (pr (u20.1 0 334))) (C := RX0) (T := TX0) (N := 9) hx hb ht itX0 hown hK hP 4 rfl rfl 0 (by decide) (ht _ tw_674) (fun _ h9 => h9) rfl dX0_layAll_143 ?_
        refine lv_aload_n hx hb dX0_layAll_146 rfl (lv_at hl 1 rfl) ?_
        refine va_get (D := (dC, dI)) (ci := 4) (fs := oF_X0 ad pr u20) (v := .int (u20.1 0 337)) (C := RX0) (T := TX0) (N := 9) hx hb ht itX0 hown hK hP 4 rfl rfl 3 (by decide) (ht _ tw_673) (fun _ h9 => h9) rfl dX0_layAll_147 ?_
        refine W.eq (g2 := F0 m 150 ls [.int (u20.1 0 337), .ref (ad 908)]) (by rw [show pr (u20.1 0 334) = (ad 908) from (by rw [show (u20.1 0 334) = ps from (Eq.trans (fr19.2.1 334 (by decide)) (Eq.trans (fwL33.2.1 334 (by decide)) es334))]; exact hps)]) ?_
        refine va_put (D := (dC, dI)) (ci := 10) (fs := oF_X7 ad pr u20) (v := .int (u20.1 0 337)) (ty := .int) (C := RX7) (T := TX7) (N := 13) hx hb ht itX7 tyX7 tyX7_ok nmX7 hown hK hP hD hS 8 rfl rfl 11 (by decide) (ht _ tw_739) (fun _ h9 => h9) rfl (by decide +kernel) rfl rfl (Nat.le_of_ble_eq_true rfl) dX0_layAll_150 (fun H locs hP hD hS => ?_)
        have hP := cP_ (cw_383 ad pr N cI cR L1 L2 u20 (u20.1 0 337)) hP
        have hD := cD_ (cw_383 ad pr N cI cR L1 L2 u20 (u20.1 0 337)) hD
        refine lv_aload_n hx hb dX0_layAll_153 rfl (lv_at hl 1 rfl) ?_
        refine cu_v (rn_Vk (n := 0) (As := []) (rest := []) hx hb hml hown ht hKK hFx hP hD hS hA (c_x_X0_placeGlobals l dC dI cI cB cZ cJ cR tb H.size ad pr N L1 L2 (wA u20 0 383 (u20.1 0 337)) ps (show L1.length = 40 from hL1) (show L2.length = 60 from hL2) (show RP (wA u20 0 383 (u20.1 0 337)) from ((show FC [337, 339, 340, 341, 342, 383, 384] [0, 336, 382] v (wA u20 0 383 (u20.1 0 337)) from (FC.f (FC.tr (FC.f (FC.f (FC.tr (FC.rf _) (FC.up fwL33 (by decide) (by decide))) ((4 : Int32) * (w33.1 0 337)) (by decide)) ((4 : Int32) * (w33.1 0 337)) (by decide)) (FC.up fr19 (by decide) (by decide))) (u20.1 0 337) (by decide))).1 rp)) (show pr ps = ad 908 from hps) (show (u20.1 0 334) = ps from (Eq.trans (fr19.2.1 334 (by decide)) (Eq.trans (fwL33.2.1 334 (by decide)) es334)))) tw_740 tw_741 (by decide +kernel) rfl rfl ⟨Nat.le_of_ble_eq_true rfl, Nat.le_of_ble_eq_true rfl⟩ (List.range (cW ad pr N cI cR L1 L2 (wA u20 0 383 (u20.1 0 337))).length) (rg_map _) (nd_range _) 4 rfl rfl rfl rfl hl.1 rfl (Nat.le_of_ble_eq_true rfl) dX0_layAll_154 ⟨Nat.le_of_ble_eq_true rfl, Nat.le_of_ble_eq_true rfl⟩) hP hD hS hA (fun u23 H locs hw22 hP hD hS => ?_)
        obtain ⟨fr22, ex22⟩ := hw22
        refine W.widen (k := 0) (n := 0) (Nat.le_refl _) (Nat.le_refl _) ?_
        exact W.vret hx hb hr (fun t ht9 hW => ⟨⟨u23, rfl, ⟨(FC.tr (FC.f (FC.tr (FC.f (FC.f (FC.tr (FC.rf _) (FC.up fwL33 (by decide) (by decide))) ((4 : Int32) * (w33.1 0 337)) (by decide)) ((4 : Int32) * (w33.1 0 337)) (by decide)) (FC.up fr19 (by decide) (by decide))) (u20.1 0 337) (by decide)) (FC.up fr22 (by decide) (by decide))), ⟨z381, u2, ex1, ⟨fr1, pz1, rs1⟩, u5, ex4, ⟨fr4, pz4, rs4⟩, ka, w33, exL33, fwL33, f1L33, f2L33, z8, (Or.inl ⟨z11, (Or.inr (⟨z18, u20, ex19, ⟨fr19, pz19, rs19⟩, u23, ex22, fr22, rfl⟩))⟩)⟩⟩, by rw [ht9]; exact hP, hD⟩, hS.F ht9⟩) hS.2.2 dX0_layAll_157
    · have z25 : (w33.1 0 339).toInt ≠ (0 : Int) := ne_z rfl (show (0 : Int32).toInt = (0 : Int) by decide) h10
      refine lv_aload_n hx hb dX0_layAll_117 rfl (lv_at hl 1 rfl) ?_
      refine cu_v (rn_Vk (n := 0) (As := []) (rest := []) hx hb hml hown ht hKK hFx hP hD hS hA (c_x_X0_layTimes l dC dI cI cB cZ cJ cR tb H.size ad pr N L1 L2 (wA w33 0 341 ((4 : Int32) * (w33.1 0 337))) ps (show (N : Int) ≤ 4096 from (om_1c2c49c46c zNN)) (show pr ps = ad 908 from hps) (show (w33.1 0 334) = ps from (Eq.trans (fwL33.2.1 334 (by decide)) es334)) (show 0 ≤ (w33.1 0 337).toInt ∧ (w33.1 0 337).toInt + 10 ≤ 7000000 from (om_d7e1a62757 f1L33 f2L33))) tw_744 tw_745 (by decide +kernel) rfl rfl ⟨Nat.le_of_ble_eq_true rfl, Nat.le_of_ble_eq_true rfl⟩ (List.range (cW ad pr N cI cR L1 L2 (wA w33 0 341 ((4 : Int32) * (w33.1 0 337)))).length) (rg_map _) (nd_range _) 4 rfl rfl rfl rfl hl.1 rfl (Nat.le_of_ble_eq_true rfl) dX0_layAll_118 ⟨Nat.le_of_ble_eq_true rfl, Nat.le_of_ble_eq_true rfl⟩) hP hD hS hA (fun u27 H locs hw26 hP hD hS => ?_)
      obtain ⟨fr26, ex26, pz26, rs26⟩ := hw26
      have pz26 : (u27.1 0 337).toInt = (w33.1 0 337).toInt + 10 := pz26
      have rs26 : RS (wA w33 0 341 ((4 : Int32) * (w33.1 0 337))) u27 := rs26
      refine W.widen (k := 0) (n := 0) (Nat.le_refl _) (Nat.le_refl _) ?_
      refine lv_aload_n hx hb dX0_layAll_121 rfl (lv_at hl 1 rfl) ?_
      refine lv_iconst (v := 4) hx hb dX0_layAll_122 (by decide) ?_
      refine lv_aload_n hx hb dX0_layAll_123 rfl (lv_at hl 1 rfl) ?_
      refine va_get (D := (dC, dI)) (ci := 4) (fs := oF_X0 ad pr u27) (v := .int (u27.1 0 337)) (C := RX0) (T := TX0) (N := 9) hx hb ht itX0 hown hK hP 4 rfl rfl 3 (by decide) (ht _ tw_673) (fun _ h9 => h9) rfl dX0_layAll_124 ?_
      refine lv_imul hx hb dX0_layAll_127 ?_
      have z29 : ((4 : Int32) * (u27.1 0 337)).toInt = (4 : Int) * ((u27.1 0 337).toInt) := mul_z (show (4 : Int32).toInt = (4 : Int) by decide) rfl (om_c3473b29ca f2L33 pz26) (om_f2aa6c9487 f1L33 f2L33 pz26)
      refine va_put (D := (dC, dI)) (ci := 4) (fs := oF_X0 ad pr u27) (v := .int ((4 : Int32) * (u27.1 0 337))) (ty := .int) (C := RX0) (T := TX0) (N := 9) hx hb ht itX0 tyX0 tyX0_ok nmX0 hown hK hP hD hS 4 rfl rfl 8 (by decide) (ht _ tw_704) (fun _ h9 => h9) rfl (by decide +kernel) rfl rfl (Nat.le_of_ble_eq_true rfl) dX0_layAll_128 (fun H locs hP hD hS => ?_)
      have hP := cP_ (cw_342 ad pr N cI cR L1 L2 u27 ((4 : Int32) * (u27.1 0 337))) hP
      have hD := cD_ (cw_342 ad pr N cI cR L1 L2 u27 ((4 : Int32) * (u27.1 0 337))) hD
      refine lv_aload_n hx hb dX0_layAll_131 rfl (lv_at hl 1 rfl) ?_
      refine va_get (D := (dC, dI)) (ci := 4) (fs := oF_X0 ad pr (wA u27 0 342 ((4 : Int32) * (u27.1 0 337)))) (v := .int (u27.1 0 340)) (C := RX0) (T := TX0) (N := 9) hx hb ht itX0 hown hK hP 4 rfl rfl 6 (by decide) (ht _ tw_703) (fun _ h9 => h9) rfl dX0_layAll_132 ?_
      refine lv_if_eq (tgt := 142) hx hb dX0_layAll_135 (by decide) (fun h30 => ?_) (fun h30 => ?_)
      · have z31 : (u27.1 0 340).toInt = (0 : Int) := eq_z rfl (show (0 : Int32).toInt = (0 : Int) by decide) h30
        refine lv_aload_n hx hb dX0_layAll_142 rfl (lv_at hl 1 rfl) ?_
        refine va_get (D := (dC, dI)) (ci := 4) (fs := oF_X0 ad pr (wA u27 0 342 ((4 : Int32) * (u27.1 0 337)))) (v := .ref (pr (u27.1 0 334))) (C := RX0) (T := TX0) (N := 9) hx hb ht itX0 hown hK hP 4 rfl rfl 0 (by decide) (ht _ tw_674) (fun _ h9 => h9) rfl dX0_layAll_143 ?_
        refine lv_aload_n hx hb dX0_layAll_146 rfl (lv_at hl 1 rfl) ?_
        refine va_get (D := (dC, dI)) (ci := 4) (fs := oF_X0 ad pr (wA u27 0 342 ((4 : Int32) * (u27.1 0 337)))) (v := .int (u27.1 0 337)) (C := RX0) (T := TX0) (N := 9) hx hb ht itX0 hown hK hP 4 rfl rfl 3 (by decide) (ht _ tw_673) (fun _ h9 => h9) rfl dX0_layAll_147 ?_
        refine W.eq (g2 := F0 m 150 ls [.int (u27.1 0 337), .ref (ad 908)]) (by rw [show pr (u27.1 0 334) = (ad 908) from (by rw [show (u27.1 0 334) = ps from (Eq.trans (fr26.2.1 334 (by decide)) (Eq.trans (fwL33.2.1 334 (by decide)) es334))]; exact hps)]) ?_
        refine va_put (D := (dC, dI)) (ci := 10) (fs := oF_X7 ad pr (wA u27 0 342 ((4 : Int32) * (u27.1 0 337)))) (v := .int (u27.1 0 337)) (ty := .int) (C := RX7) (T := TX7) (N := 13) hx hb ht itX7 tyX7 tyX7_ok nmX7 hown hK hP hD hS 8 rfl rfl 11 (by decide) (ht _ tw_739) (fun _ h9 => h9) rfl (by decide +kernel) rfl rfl (Nat.le_of_ble_eq_true rfl) dX0_layAll_150 (fun H locs hP hD hS => ?_)
        have hP := cP_ (cw_383 ad pr N cI cR L1 L2 (wA u27 0 342 ((4 : Int32) * (u27.1 0 337))) (u27.1 0 337)) hP
        have hD := cD_ (cw_383 ad pr N cI cR L1 L2 (wA u27 0 342 ((4 : Int32) * (u27.1 0 337))) (u27.1 0 337)) hD
        refine lv_aload_n hx hb dX0_layAll_153 rfl (lv_at hl 1 rfl) ?_
        refine cu_v (rn_Vk (n := 0) (As := []) (rest := []) hx hb hml hown ht hKK hFx hP hD hS hA (c_x_X0_placeGlobals l dC dI cI cB cZ cJ cR tb H.size ad pr N L1 L2 (wA (wA u27 0 342 ((4 : Int32) * (u27.1 0 337))) 0 383 (u27.1 0 337)) ps (show L1.length = 40 from hL1) (show L2.length = 60 from hL2) (show RP (wA (wA u27 0 342 ((4 : Int32) * (u27.1 0 337))) 0 383 (u27.1 0 337)) from ((show FC [337, 339, 340, 341, 342, 383, 384] [0, 336, 382] v (wA (wA u27 0 342 ((4 : Int32) * (u27.1 0 337))) 0 383 (u27.1 0 337)) from (FC.f (FC.f (FC.tr (FC.f (FC.tr (FC.rf _) (FC.up fwL33 (by decide) (by decide))) ((4 : Int32) * (w33.1 0 337)) (by decide)) (FC.up fr26 (by decide) (by decide))) ((4 : Int32) * (u27.1 0 337)) (by decide)) (u27.1 0 337) (by decide))).1 rp)) (show pr ps = ad 908 from hps) (show (u27.1 0 334) = ps from (Eq.trans (fr26.2.1 334 (by decide)) (Eq.trans (fwL33.2.1 334 (by decide)) es334)))) tw_740 tw_741 (by decide +kernel) rfl rfl ⟨Nat.le_of_ble_eq_true rfl, Nat.le_of_ble_eq_true rfl⟩ (List.range (cW ad pr N cI cR L1 L2 (wA (wA u27 0 342 ((4 : Int32) * (u27.1 0 337))) 0 383 (u27.1 0 337))).length) (rg_map _) (nd_range _) 4 rfl rfl rfl rfl hl.1 rfl (Nat.le_of_ble_eq_true rfl) dX0_layAll_154 ⟨Nat.le_of_ble_eq_true rfl, Nat.le_of_ble_eq_true rfl⟩) hP hD hS hA (fun u33 H locs hw32 hP hD hS => ?_)
        obtain ⟨fr32, ex32⟩ := hw32
        refine W.widen (k := 0) (n := 0) (Nat.le_refl _) (Nat.le_refl _) ?_
        exact W.vret hx hb hr (fun t ht9 hW => ⟨⟨u33, rfl, ⟨(FC.tr (FC.f (FC.f (FC.tr (FC.f (FC.tr (FC.rf _) (FC.up fwL33 (by decide) (by decide))) ((4 : Int32) * (w33.1 0 337)) (by decide)) (FC.up fr26 (by decide) (by decide))) ((4 : Int32) * (u27.1 0 337)) (by decide)) (u27.1 0 337) (by decide)) (FC.up fr32 (by decide) (by decide))), ⟨z381, u2, ex1, ⟨fr1, pz1, rs1⟩, u5, ex4, ⟨fr4, pz4, rs4⟩, ka, w33, exL33, fwL33, f1L33, f2L33, z8, (Or.inr (⟨z25, u27, ex26, ⟨fr26, pz26, rs26⟩, (Or.inl ⟨z31, u33, ex32, fr32, rfl⟩)⟩))⟩⟩, by rw [ht9]; exact hP, hD⟩, hS.F ht9⟩) hS.2.2 dX0_layAll_157
      · have z35 : (u27.1 0 340).toInt ≠ (0 : Int) := ne_z rfl (show (0 : Int32).toInt = (0 : Int) by decide) h30
        refine lv_aload_n hx hb dX0_layAll_138 rfl (lv_at hl 1 rfl) ?_
        refine cu_v (rn_Vk (n := 0) (As := []) (rest := []) hx hb hml hown ht hKK hFx hP hD hS hA (c_x_X0_layOver l dC dI cI cB cZ cJ cR tb H.size ad pr N L1 L2 (wA u27 0 342 ((4 : Int32) * (u27.1 0 337))) ps (show (N : Int) ≤ 4096 from (om_1c2c49c46c zNN)) (show pr ps = ad 908 from hps) (show (u27.1 0 334) = ps from (Eq.trans (fr26.2.1 334 (by decide)) (Eq.trans (fwL33.2.1 334 (by decide)) es334))) (show 0 ≤ (u27.1 0 337).toInt ∧ (u27.1 0 337).toInt + 26 ≤ 7000000 from (om_2669eaade5 f1L33 f2L33 pz26))) tw_742 tw_743 (by decide +kernel) rfl rfl ⟨Nat.le_of_ble_eq_true rfl, Nat.le_of_ble_eq_true rfl⟩ (List.range (cW ad pr N cI cR L1 L2 (wA u27 0 342 ((4 : Int32) * (u27.1 0 337)))).length) (rg_map _) (nd_range _) 4 rfl rfl rfl rfl hl.1 rfl (Nat.le_of_ble_eq_true rfl) dX0_layAll_139 ⟨Nat.le_of_ble_eq_true rfl, Nat.le_of_ble_eq_true rfl⟩) hP hD hS hA (fun u37 H locs hw36 hP hD hS => ?_)
        obtain ⟨fr36, ex36, pz36, rs36⟩ := hw36
        have pz36 : (u37.1 0 337).toInt = (u27.1 0 337).toInt + 26 := pz36
        have rs36 : RS (wA u27 0 342 ((4 : Int32) * (u27.1 0 337))) u37 := rs36
        refine W.widen (k := 0) (n := 0) (Nat.le_refl _) (Nat.le_refl _) ?_
        refine lv_aload_n hx hb dX0_layAll_142 rfl (lv_at hl 1 rfl) ?_
        refine va_get (D := (dC, dI)) (ci := 4) (fs := oF_X0 ad pr u37) (v := .ref (pr (u37.1 0 334))) (C := RX0) (T := TX0) (N := 9) hx hb ht itX0 hown hK hP 4 rfl rfl 0 (by decide) (ht _ tw_674) (fun _ h9 => h9) rfl dX0_layAll_143 ?_
        refine lv_aload_n hx hb dX0_layAll_146 rfl (lv_at hl 1 rfl) ?_
        refine va_get (D := (dC, dI)) (ci := 4) (fs := oF_X0 ad pr u37) (v := .int (u37.1 0 337)) (C := RX0) (T := TX0) (N := 9) hx hb ht itX0 hown hK hP 4 rfl rfl 3 (by decide) (ht _ tw_673) (fun _ h9 => h9) rfl dX0_layAll_147 ?_
        refine W.eq (g2 := F0 m 150 ls [.int (u37.1 0 337), .ref (ad 908)]) (by rw [show pr (u37.1 0 334) = (ad 908) from (by rw [show (u37.1 0 334) = ps from (Eq.trans (fr36.2.1 334 (by decide)) (Eq.trans (fr26.2.1 334 (by decide)) (Eq.trans (fwL33.2.1 334 (by decide)) es334)))]; exact hps)]) ?_
        refine va_put (D := (dC, dI)) (ci := 10) (fs := oF_X7 ad pr u37) (v := .int (u37.1 0 337)) (ty := .int) (C := RX7) (T := TX7) (N := 13) hx hb ht itX7 tyX7 tyX7_ok nmX7 hown hK hP hD hS 8 rfl rfl 11 (by decide) (ht _ tw_739) (fun _ h9 => h9) rfl (by decide +kernel) rfl rfl (Nat.le_of_ble_eq_true rfl) dX0_layAll_150 (fun H locs hP hD hS => ?_)
        have hP := cP_ (cw_383 ad pr N cI cR L1 L2 u37 (u37.1 0 337)) hP
        have hD := cD_ (cw_383 ad pr N cI cR L1 L2 u37 (u37.1 0 337)) hD
        refine lv_aload_n hx hb dX0_layAll_153 rfl (lv_at hl 1 rfl) ?_
        refine cu_v (rn_Vk (n := 0) (As := []) (rest := []) hx hb hml hown ht hKK hFx hP hD hS hA (c_x_X0_placeGlobals l dC dI cI cB cZ cJ cR tb H.size ad pr N L1 L2 (wA u37 0 383 (u37.1 0 337)) ps (show L1.length = 40 from hL1) (show L2.length = 60 from hL2) (show RP (wA u37 0 383 (u37.1 0 337)) from ((show FC [337, 339, 340, 341, 342, 383, 384] [0, 336, 382] v (wA u37 0 383 (u37.1 0 337)) from (FC.f (FC.tr (FC.f (FC.tr (FC.f (FC.tr (FC.rf _) (FC.up fwL33 (by decide) (by decide))) ((4 : Int32) * (w33.1 0 337)) (by decide)) (FC.up fr26 (by decide) (by decide))) ((4 : Int32) * (u27.1 0 337)) (by decide)) (FC.up fr36 (by decide) (by decide))) (u37.1 0 337) (by decide))).1 rp)) (show pr ps = ad 908 from hps) (show (u37.1 0 334) = ps from (Eq.trans (fr36.2.1 334 (by decide)) (Eq.trans (fr26.2.1 334 (by decide)) (Eq.trans (fwL33.2.1 334 (by decide)) es334))))) tw_740 tw_741 (by decide +kernel) rfl rfl ⟨Nat.le_of_ble_eq_true rfl, Nat.le_of_ble_eq_true rfl⟩ (List.range (cW ad pr N cI cR L1 L2 (wA u37 0 383 (u37.1 0 337))).length) (rg_map _) (nd_range _) 4 rfl rfl rfl rfl hl.1 rfl (Nat.le_of_ble_eq_true rfl) dX0_layAll_154 ⟨Nat.le_of_ble_eq_true rfl, Nat.le_of_ble_eq_true rfl⟩) hP hD hS hA (fun u40 H locs hw39 hP hD hS => ?_)
        obtain ⟨fr39, ex39⟩ := hw39
        refine W.widen (k := 0) (n := 0) (Nat.le_refl _) (Nat.le_refl _) ?_
        exact W.vret hx hb hr (fun t ht9 hW => ⟨⟨u40, rfl, ⟨(FC.tr (FC.f (FC.tr (FC.f (FC.tr (FC.f (FC.tr (FC.rf _) (FC.up fwL33 (by decide) (by decide))) ((4 : Int32) * (w33.1 0 337)) (by decide)) (FC.up fr26 (by decide) (by decide))) ((4 : Int32) * (u27.1 0 337)) (by decide)) (FC.up fr36 (by decide) (by decide))) (u37.1 0 337) (by decide)) (FC.up fr39 (by decide) (by decide))), ⟨z381, u2, ex1, ⟨fr1, pz1, rs1⟩, u5, ex4, ⟨fr4, pz4, rs4⟩, ka, w33, exL33, fwL33, f1L33, f2L33, z8, (Or.inr (⟨z25, u27, ex26, ⟨fr26, pz26, rs26⟩, (Or.inr (⟨z35, u37, ex36, ⟨fr36, pz36, rs36⟩, u40, ex39, fr39, rfl⟩))⟩))⟩⟩, by rw [ht9]; exact hP, hD⟩, hS.F ht9⟩) hS.2.2 dX0_layAll_157
  · have z42 : ka.toInt < (w33.1 0 381).toInt := nle_z rfl rfl h7
    refine lv_iload_n hx hb dX0_layAll_44 rfl (lv_at hl 0 rfl) ?_
    refine lv_sipush (v := 3008) hx hb dX0_layAll_45 (by decide) ?_
    refine lv_icmp_ge (tgt := 100) hx hb dX0_layAll_48 (by decide) (fun h43 => ?_) (fun h43 => ?_)
    · have z44 : (3008 : Int) ≤ ka.toInt := le_z (show (3008 : Int32).toInt = (3008 : Int) by decide) rfl h43
      have q45 : (w33.1 0 381).toInt = (v.1 0 381).toInt := congrArg Int32.toInt ((fwL33.2.1 381 (by decide)).trans (show v.1 0 381 = (v.1 0 381) by rfl))
      exact False.elim (om_b18b6b65e7 z381 q45 z42 z44)
    · have z46 : ka.toInt < (3008 : Int) := nle_z (show (3008 : Int32).toInt = (3008 : Int) by decide) rfl h43
      refine lv_aload_n hx hb dX0_layAll_51 rfl (lv_at hl 1 rfl) ?_
      refine va_get (D := (dC, dI)) (ci := 4) (fs := oF_X0 ad pr w33) (v := .ref (ad 336)) (C := RX0) (T := TX0) (N := 9) hx hb ht itX0 hown hK hP 4 rfl rfl 2 (by decide) (ht _ tw_686) (fun _ h9 => h9) rfl dX0_layAll_52 ?_
      refine lv_iload_n hx hb dX0_layAll_55 rfl (lv_at hl 0 rfl) ?_
      refine lv_iconst (v := 4) hx hb dX0_layAll_56 (by decide) ?_
      refine lv_aload_n hx hb dX0_layAll_57 rfl (lv_at hl 1 rfl) ?_
      refine va_get (D := (dC, dI)) (ci := 4) (fs := oF_X0 ad pr w33) (v := .int (w33.1 0 337)) (C := RX0) (T := TX0) (N := 9) hx hb ht itX0 hown hK hP 4 rfl rfl 3 (by decide) (ht _ tw_673) (fun _ h9 => h9) rfl dX0_layAll_58 ?_
      refine lv_imul hx hb dX0_layAll_61 ?_
      have z47 : ((4 : Int32) * (w33.1 0 337)).toInt = (4 : Int) * ((w33.1 0 337).toInt) := mul_z (show (4 : Int32).toInt = (4 : Int) by decide) rfl (om_12585c1ed3 f2L33) (om_8433a586ce f2L33 z46)
      refine va_iast (D := (dC, dI)) (f := (w33.1 336)) hx hb hK hP hD hS 20 0 rfl rfl (in_y (a := ka.toInt) (b := 3009) rfl (om_5f8c0f5829 f2L33) (om_6e21229777 z46) rfl) dX0_layAll_62 (fun H locs hP hD hS => ?_)
      have hP := cP_ (cq_336 ad pr N cI cR L1 L2 w33 ka.toNatClampNeg ((4 : Int32) * (w33.1 0 337))) hP
      have hD := cD_ (cq_336 ad pr N cI cR L1 L2 w33 ka.toNatClampNeg ((4 : Int32) * (w33.1 0 337))) hD
      refine lv_aload_n hx hb dX0_layAll_63 rfl (lv_at hl 1 rfl) ?_
      refine lv_aload_n hx hb dX0_layAll_64 rfl (lv_at hl 1 rfl) ?_
      refine va_get (D := (dC, dI)) (ci := 4) (fs := oF_X0 ad pr (wA w33 336 ka.toNatClampNeg ((4 : Int32) * (w33.1 0 337)))) (v := .ref (pr (w33.1 0 334))) (C := RX0) (T := TX0) (N := 9) hx hb ht itX0 hown hK hP 4 rfl rfl 0 (by decide) (ht _ tw_674) (fun _ h9 => h9) rfl dX0_layAll_65 ?_
      refine W.eq (g2 := F0 m 68 ls [.ref (ad 908), .ref (ad 904)]) (by rw [show pr (w33.1 0 334) = (ad 908) from (by rw [show (w33.1 0 334) = ps from (Eq.trans (fwL33.2.1 334 (by decide)) es334)]; exact hps)]) ?_
      refine va_get (D := (dC, dI)) (ci := 10) (fs := oF_X7 ad pr (wA w33 336 ka.toNatClampNeg ((4 : Int32) * (w33.1 0 337)))) (v := .ref (ad 378)) (C := RX7) (T := TX7) (N := 13) hx hb ht itX7 hown hK hP 8 rfl rfl 6 (by decide) (ht _ tw_746) (fun _ h9 => h9) rfl dX0_layAll_68 ?_
      refine lv_iload_n hx hb dX0_layAll_71 rfl (lv_at hl 0 rfl) ?_
      refine va_iald (D := (dC, dI)) (f := (w33.1 378)) hx hb hK hP 29 0 rfl rfl (in_y (a := ka.toInt) (b := 3008) rfl (om_5f8c0f5829 f2L33) (om_f17a454137 z46) rfl) dX0_layAll_72 ?_
      refine lv_aload_n hx hb dX0_layAll_73 rfl (lv_at hl 1 rfl) ?_
      refine va_get (D := (dC, dI)) (ci := 4) (fs := oF_X0 ad pr (wA w33 336 ka.toNatClampNeg ((4 : Int32) * (w33.1 0 337)))) (v := .ref (pr (w33.1 0 334))) (C := RX0) (T := TX0) (N := 9) hx hb ht itX0 hown hK hP 4 rfl rfl 0 (by decide) (ht _ tw_674) (fun _ h9 => h9) rfl dX0_layAll_74 ?_
      refine W.eq (g2 := F0 m 77 ls [.ref (ad 908), .int ((w33.1 378) ka.toNatClampNeg), .ref (ad 904)]) (by rw [show pr (w33.1 0 334) = (ad 908) from (by rw [show (w33.1 0 334) = ps from (Eq.trans (fwL33.2.1 334 (by decide)) es334)]; exact hps)]) ?_
      refine va_get (D := (dC, dI)) (ci := 10) (fs := oF_X7 ad pr (wA w33 336 ka.toNatClampNeg ((4 : Int32) * (w33.1 0 337)))) (v := .ref (ad 379)) (C := RX7) (T := TX7) (N := 13) hx hb ht itX7 hown hK hP 8 rfl rfl 7 (by decide) (ht _ tw_747) (fun _ h9 => h9) rfl dX0_layAll_77 ?_
      refine lv_iload_n hx hb dX0_layAll_80 rfl (lv_at hl 0 rfl) ?_
      refine va_iald (D := (dC, dI)) (f := (w33.1 379)) hx hb hK hP 30 0 rfl rfl (in_y (a := ka.toInt) (b := 3008) rfl (om_5f8c0f5829 f2L33) (om_f17a454137 z46) rfl) dX0_layAll_81 ?_
      refine lv_aload_n hx hb dX0_layAll_82 rfl (lv_at hl 1 rfl) ?_
      refine va_get (D := (dC, dI)) (ci := 4) (fs := oF_X0 ad pr (wA w33 336 ka.toNatClampNeg ((4 : Int32) * (w33.1 0 337)))) (v := .ref (pr (w33.1 0 334))) (C := RX0) (T := TX0) (N := 9) hx hb ht itX0 hown hK hP 4 rfl rfl 0 (by decide) (ht _ tw_674) (fun _ h9 => h9) rfl dX0_layAll_83 ?_
      refine W.eq (g2 := F0 m 86 ls [.ref (ad 908), .int ((w33.1 379) ka.toNatClampNeg), .int ((w33.1 378) ka.toNatClampNeg), .ref (ad 904)]) (by rw [show pr (w33.1 0 334) = (ad 908) from (by rw [show (w33.1 0 334) = ps from (Eq.trans (fwL33.2.1 334 (by decide)) es334)]; exact hps)]) ?_
      refine va_get (D := (dC, dI)) (ci := 10) (fs := oF_X7 ad pr (wA w33 336 ka.toNatClampNeg ((4 : Int32) * (w33.1 0 337)))) (v := .ref (ad 380)) (C := RX7) (T := TX7) (N := 13) hx hb ht itX7 hown hK hP 8 rfl rfl 8 (by decide) (ht _ tw_748) (fun _ h9 => h9) rfl dX0_layAll_86 ?_
      refine lv_iload_n hx hb dX0_layAll_89 rfl (lv_at hl 0 rfl) ?_
      refine va_iald (D := (dC, dI)) (f := (w33.1 380)) hx hb hK hP 31 0 rfl rfl (in_y (a := ka.toInt) (b := 3008) rfl (om_5f8c0f5829 f2L33) (om_f17a454137 z46) rfl) dX0_layAll_90 ?_
      refine cu_v (rn_Vk (n := 3) (As := [.int ((w33.1 378) ka.toNatClampNeg), .int ((w33.1 379) ka.toNatClampNeg), .int ((w33.1 380) ka.toNatClampNeg)]) (rest := []) hx hb hml hown ht hKK hFx hP hD hS hA (c_x_X0_lay l dC dI cI cB cZ cJ cR tb H.size ad pr N L1 L2 (wA w33 336 ka.toNatClampNeg ((4 : Int32) * (w33.1 0 337))) ((w33.1 378) ka.toNatClampNeg) ((w33.1 379) ka.toNatClampNeg) ((w33.1 380) ka.toNatClampNeg) ps (show (N : Int) ≤ 4096 from (om_1c2c49c46c zNN)) (show L1.length = 40 from hL1) (show L2.length = 60 from hL2) (show RP (wA w33 336 ka.toNatClampNeg ((4 : Int32) * (w33.1 0 337))) from ((show FC [337, 339, 340, 341, 342, 383, 384] [0, 336, 382] v (wA w33 336 ka.toNatClampNeg ((4 : Int32) * (w33.1 0 337))) from (FC.a (FC.tr (FC.rf _) (FC.up fwL33 (by decide) (by decide))) ka.toNatClampNeg ((4 : Int32) * (w33.1 0 337)) (by decide) (by decide))).1 rp)) (show pr ps = ad 908 from hps) (show (w33.1 0 334) = ps from (Eq.trans (fwL33.2.1 334 (by decide)) es334)) (show 0 ≤ (w33.1 0 337).toInt ∧ (w33.1 0 337).toInt + 2010 ≤ 7000000 from (om_3d033abc8c f2L33 z46))) tw_749 tw_750 (by decide +kernel) rfl rfl ⟨Nat.le_of_ble_eq_true rfl, Nat.le_of_ble_eq_true rfl⟩ (List.range (cW ad pr N cI cR L1 L2 (wA w33 336 ka.toNatClampNeg ((4 : Int32) * (w33.1 0 337)))).length) (rg_map _) (nd_range _) 4 rfl rfl rfl rfl hl.1 rfl (Nat.le_of_ble_eq_true rfl) dX0_layAll_91 ⟨Nat.le_of_ble_eq_true rfl, Nat.le_of_ble_eq_true rfl⟩) hP hD hS hA (fun u49 H locs hw48 hP hD hS => ?_)
      obtain ⟨fr48, ex48, pz48⟩ := hw48
      have pz48 : (w33.1 0 337).toInt ≤ (u49.1 0 337).toInt ∧ (u49.1 0 337).toInt ≤ (w33.1 0 337).toInt + 2010 := pz48
      refine W.widen (k := 0) (n := 0) (Nat.le_refl _) (Nat.le_refl _) ?_
      refine lv_iinc (v := (ka + (1 : Int32))) (lv' := [(1, .int (ka + (1 : Int32))), (0, .ref (ad 904))]) hx hb dX0_layAll_94 hl (k := 0) rfl (rfl) (by decide) rfl (fun ls hl => ?_)
      have z51 : (ka + (1 : Int32)).toInt = ka.toInt + 1 := inc_lt z42
      refine lv_goto (tgt := 33) hx hb dX0_layAll_97 (by decide) ?_
      exact ih33 ((ka + (1 : Int32)), u49) _ _ _ (show (3008 - (ka + (1 : Int32)).toInt).toNat < (3008 - ka.toInt).toNat from tn_z (om_d3176bca75 z51) (om_138df3c7f1 z46)) ⟨(show FC [337, 339, 340, 341, 342, 383, 384] [0, 336, 382] v u49 from (FC.tr (FC.a (FC.tr (FC.rf _) (FC.up fwL33 (by decide) (by decide))) ka.toNatClampNeg ((4 : Int32) * (w33.1 0 337)) (by decide) (by decide)) (FC.up fr48 (by decide) (by decide)))), (show 0 ≤ (ka + (1 : Int32)).toInt ∧ (ka + (1 : Int32)).toInt ≤ 3008 from (om_b9c6f78032 f2L33 z46 z51)), (show 0 ≤ (u49.1 0 337).toInt ∧ (u49.1 0 337).toInt ≤ 2 + 2010 * (ka + (1 : Int32)).toInt from (om_b018d53db6 f2L33 pz48 z51)), (RT.st exL33 ⟨fwL33, f1L33, f2L33, z42, z46, u49, ex48, ⟨fr48, pz48⟩, rfl⟩), hP, hD, hS, lv_sub hl [0, 1] rfl⟩
set_option maxHeartbeats 4000000 in
set_option maxRecDepth 100000 in
theorem c_x_X0_assemble (l : Launch) (dC : Nat → ClassId) (dI : Nat → Nat → Nat) (cI cB cZ cJ cR : ClassId) (tb : Nat → Nat) (sz : Nat) (ad : Nat → Nat) (pr : Int32 → Nat) (N : Nat) (L1 L2 : List Nat) (v : MS) (ps : Int32) (z381 : 0 ≤ (v.1 0 381).toInt ∧ (v.1 0 381).toInt ≤ 3008) (zNN : (N : Int) ≤ 4096) (hL1 : L1.length = 40) (hL2 : L2.length = 60) (rp : RP v) (hps : pr ps = ad 908) : Met l yX0_assemble (Cond.code yX0_assemble cX0_assemble 2 (some .boolean) :: tw_W) ({ frames := 6, cells := 0, slots := 0, locals := 135 }) (pc_ (dC, dI) (tyS cI cB cZ cJ cR) tb (cW ad pr N cI cR L1 L2 v) sz [.ref (ad 904), .ref (pr ps)]) (qi_ (dC, dI) (cW ad pr N cI cR L1 L2 v) sz (fun (r : Int32) (u : MS) => FC [334, 337, 338, 339, 340, 341, 342, 383, 384] [0, 336, 382] v u ∧ (Q_x_X0_assemble L1 L2 N v ps r u) ∧ (r = 0 ∨ r = 1)) (fun (u : MS) => (cW ad pr N cI cR L1 L2 u))) 0 0 (va_A (cW ad pr N cI cR L1 L2 v) sz) := by
  refine Met.ofW (cc := cX0_assemble) (maxL := 2) (ret := (some .boolean)) (by decide) rfl ?_
  intro p e s m args below meth c s₁ B hml hv
  obtain ⟨rfl, hsz, hP, hKK, hD0, hFx⟩ := hv
  have hK := hKK.1
  have hx := B.exec
  have hb := B.bytes
  have hr := B.returns
  have ht : ∀ w ∈ tw_W, w.before _ s = true := fun w h => atoms_spec (ws := Cond.code yX0_assemble cX0_assemble 2 (some .boolean) :: tw_W) B.pre w (List.mem_cons_of_mem _ h)
  have hown : s.vm.findClass RX0 = some m.cls := findClass_of_methodNamed B.named
  have hlocks := B.notSynchronized
  subst hsz
  unfold qi_
  have hD := hD0.self (sz := s.heap.size)
  generalize hAe : va_A (cW ad pr N cI cR L1 L2 v) s.heap.size = A at hD hFx ⊢
  have hA : ∀ q : Nat, s.heap.size ≤ q → A q := fun q h => by rw [← hAe]; exact Or.inr h
  have hS : va_S A s.heap s.heap [] := va_S.rf
  have hl := lv_entry ([.ref (ad 904), .ref (pr ps)]) (n := 2) (Nat.le_of_ble_eq_true rfl)
  rw [lg_entry_eq]
  generalize (lg_sl ([.ref (ad 904), .ref (pr ps)]) ++ List.replicate (2 - (lg_sl ([.ref (ad 904), .ref (pr ps)])).length) Slot.unset).toArray = ls at hl ⊢
  have hl : lv_has ls 2 [(0, .ref (ad 904)), (1, .ref (pr ps))] := hl
  refine lv_aload_n hx hb dX0_assemble_0 rfl (lv_at hl 0 rfl) ?_
  refine lv_aload_n hx hb dX0_assemble_1 rfl (lv_at hl 1 rfl) ?_
  refine va_put (D := (dC, dI)) (ci := 4) (fs := oF_X0 ad pr v) (v := .ref (pr ps)) (ty := .object "PocketCompiler$Program") (C := RX0) (T := TX0) (N := 9) hx hb ht itX0 tyX0 tyX0_ok nmX0 hown hK hP hD hS 4 rfl rfl 0 (by decide) (ht _ tw_674) (fun _ h9 => h9) rfl (by decide +kernel) rfl rfl (Nat.le_of_ble_eq_true rfl) dX0_assemble_2 (fun H locs hP hD hS => ?_)
  have hP := cP_ (cw_334 ad pr N cI cR L1 L2 v ps) hP
  have hD := cD_ (cw_334 ad pr N cI cR L1 L2 v ps) hD
  refine lv_aload_n hx hb dX0_assemble_5 rfl (lv_at hl 0 rfl) ?_
  refine lv_iconst (v := 0) hx hb dX0_assemble_6 (by decide) ?_
  refine va_put (D := (dC, dI)) (ci := 4) (fs := oF_X0 ad pr (wA v 0 334 ps)) (v := .int 0) (ty := .boolean) (C := RX0) (T := TX0) (N := 9) hx hb ht itX0 tyX0 tyX0_ok nmX0 hown hK hP hD hS 4 rfl rfl 4 (by decide) (ht _ tw_672) (fun _ h9 => h9) rfl (by decide +kernel) rfl rfl (Nat.le_of_ble_eq_true rfl) dX0_assemble_7 (fun H locs hP hD hS => ?_)
  have hP := cP_ (cw_338 ad pr N cI cR L1 L2 (wA v 0 334 ps) 0) hP
  have hD := cD_ (cw_338 ad pr N cI cR L1 L2 (wA v 0 334 ps) 0) hD
  refine lv_aload_n hx hb dX0_assemble_10 rfl (lv_at hl 0 rfl) ?_
  refine cu_v (rn_Vk (n := 0) (As := []) (rest := []) hx hb hml hown ht hKK hFx hP hD hS hA (c_x_X0_layAll l dC dI cI cB cZ cJ cR tb H.size ad pr N L1 L2 (wA (wA v 0 334 ps) 0 338 0) ps (show 0 ≤ (v.1 0 381).toInt ∧ (v.1 0 381).toInt ≤ 3008 from (om_e78eec72e1 z381)) (show (N : Int) ≤ 4096 from (om_1c2c49c46c zNN)) (show L1.length = 40 from hL1) (show L2.length = 60 from hL2) (show RP (wA (wA v 0 334 ps) 0 338 0) from ((show FC [334, 337, 338, 339, 340, 341, 342, 383, 384] [0, 336, 382] v (wA (wA v 0 334 ps) 0 338 0) from (FC.f (FC.f (FC.rf _) ps (by decide)) 0 (by decide))).1 rp)) (show pr ps = ad 908 from hps) (show ps = ps from rfl)) tw_751 tw_752 (by decide +kernel) rfl rfl ⟨Nat.le_of_ble_eq_true rfl, Nat.le_of_ble_eq_true rfl⟩ (List.range (cW ad pr N cI cR L1 L2 (wA (wA v 0 334 ps) 0 338 0)).length) (rg_map _) (nd_range _) 4 rfl rfl rfl rfl hl.1 rfl (Nat.le_of_ble_eq_true rfl) dX0_assemble_11 ⟨Nat.le_of_ble_eq_true rfl, Nat.le_of_ble_eq_true rfl⟩) hP hD hS hA (fun u2 H locs hw1 hP hD hS => ?_)
  obtain ⟨fr1, ex1⟩ := hw1
  refine W.widen (k := 0) (n := 0) (Nat.le_refl _) (Nat.le_refl _) ?_
  refine lv_aload_n hx hb dX0_assemble_14 rfl (lv_at hl 0 rfl) ?_
  refine va_get (D := (dC, dI)) (ci := 4) (fs := oF_X0 ad pr u2) (v := .ref (pr (u2.1 0 334))) (C := RX0) (T := TX0) (N := 9) hx hb ht itX0 hown hK hP 4 rfl rfl 0 (by decide) (ht _ tw_674) (fun _ h9 => h9) rfl dX0_assemble_15 ?_
  refine W.eq (g2 := F0 m 18 ls [.ref (ad 908)]) (by rw [show pr (u2.1 0 334) = (ad 908) from (by rw [show (u2.1 0 334) = ps from (fr1.2.1 334 (by decide))]; exact hps)]) ?_
  refine va_get (D := (dC, dI)) (ci := 10) (fs := oF_X7 ad pr u2) (v := .int (u2.1 0 384)) (C := RX7) (T := TX7) (N := 13) hx hb ht itX7 hown hK hP 8 rfl rfl 12 (by decide) (ht _ tw_719) (fun _ h9 => h9) rfl dX0_assemble_18 ?_
  refine lv_bipush (v := 64) hx hb dX0_assemble_21 (by decide) ?_
  refine lv_iadd hx hb dX0_assemble_23 ?_
  refine lv_aload_n hx hb dX0_assemble_24 rfl (lv_at hl 0 rfl) ?_
  refine va_get (D := (dC, dI)) (ci := 4) (fs := oF_X0 ad pr u2) (v := .int (u2.1 0 335)) (C := RX0) (T := TX0) (N := 9) hx hb ht itX0 hown hK hP 4 rfl rfl 1 (by decide) (ht _ tw_753) (fun _ h9 => h9) rfl dX0_assemble_25 ?_
  refine lv_icmp_le (tgt := 33) hx hb dX0_assemble_28 (by decide) (fun h4 => ?_) (fun h4 => ?_)
  · have z5 : ((u2.1 0 384) + (64 : Int32)).toInt ≤ (u2.1 0 335).toInt := le_z rfl rfl h4
    refine lv_aload_n hx hb dX0_assemble_33 rfl (lv_at hl 0 rfl) ?_
    refine lv_iconst (v := 1) hx hb dX0_assemble_34 (by decide) ?_
    refine va_put (D := (dC, dI)) (ci := 4) (fs := oF_X0 ad pr u2) (v := .int 1) (ty := .boolean) (C := RX0) (T := TX0) (N := 9) hx hb ht itX0 tyX0 tyX0_ok nmX0 hown hK hP hD hS 4 rfl rfl 4 (by decide) (ht _ tw_672) (fun _ h9 => h9) rfl (by decide +kernel) rfl rfl (Nat.le_of_ble_eq_true rfl) dX0_assemble_35 (fun H locs hP hD hS => ?_)
    have hP := cP_ (cw_338 ad pr N cI cR L1 L2 u2 1) hP
    have hD := cD_ (cw_338 ad pr N cI cR L1 L2 u2 1) hD
    refine lv_aload_n hx hb dX0_assemble_38 rfl (lv_at hl 0 rfl) ?_
    have q6 : (u2.1 0 381).toInt = (v.1 0 381).toInt := congrArg Int32.toInt ((fr1.2.1 381 (by decide)).trans (show (wA (wA v 0 334 ps) 0 338 0).1 0 381 = (v.1 0 381) by rfl))
    refine cu_v (rn_Vk (n := 0) (As := []) (rest := []) hx hb hml hown ht hKK hFx hP hD hS hA (c_x_X0_layAll l dC dI cI cB cZ cJ cR tb H.size ad pr N L1 L2 (wA u2 0 338 1) ps (show 0 ≤ (u2.1 0 381).toInt ∧ (u2.1 0 381).toInt ≤ 3008 from (om_6e4eb11ad3 z381 q6)) (show (N : Int) ≤ 4096 from (om_1c2c49c46c zNN)) (show L1.length = 40 from hL1) (show L2.length = 60 from hL2) (show RP (wA u2 0 338 1) from ((show FC [334, 337, 338, 339, 340, 341, 342, 383, 384] [0, 336, 382] v (wA u2 0 338 1) from (FC.f (FC.tr (FC.f (FC.f (FC.rf _) ps (by decide)) 0 (by decide)) (FC.up fr1 (by decide) (by decide))) 1 (by decide))).1 rp)) (show pr ps = ad 908 from hps) (show (u2.1 0 334) = ps from (fr1.2.1 334 (by decide)))) tw_751 tw_752 (by decide +kernel) rfl rfl ⟨Nat.le_of_ble_eq_true rfl, Nat.le_of_ble_eq_true rfl⟩ (List.range (cW ad pr N cI cR L1 L2 (wA u2 0 338 1)).length) (rg_map _) (nd_range _) 4 rfl rfl rfl rfl hl.1 rfl (Nat.le_of_ble_eq_true rfl) dX0_assemble_39 ⟨Nat.le_of_ble_eq_true rfl, Nat.le_of_ble_eq_true rfl⟩) hP hD hS hA (fun u8 H locs hw7 hP hD hS => ?_)
    obtain ⟨fr7, ex7⟩ := hw7
    refine W.widen (k := 0) (n := 0) (Nat.le_refl _) (Nat.le_refl _) ?_
    refine lv_iconst (v := 1) hx hb dX0_assemble_42 (by decide) ?_
    exact W.zret (v := 1) hx hb hr rfl (fun t ht9 hW => ⟨⟨1, u8, rfl, ⟨(FC.tr (FC.f (FC.tr (FC.f (FC.f (FC.rf _) ps (by decide)) 0 (by decide)) (FC.up fr1 (by decide) (by decide))) 1 (by decide)) (FC.up fr7 (by decide) (by decide))), ⟨z381, u2, ex1, fr1, (Or.inl ⟨z5, u8, ex7, fr7, rfl, rfl⟩)⟩, (Or.inr rfl)⟩, by rw [ht9]; exact hP, hD⟩, hS.F ht9⟩) hS.2.2 dX0_assemble_43
  · have z10 : (u2.1 0 335).toInt < ((u2.1 0 384) + (64 : Int32)).toInt := nle_z rfl rfl h4
    refine lv_iconst (v := 0) hx hb dX0_assemble_31 (by decide) ?_
    exact W.zret (v := 0) hx hb hr rfl (fun t ht9 hW => ⟨⟨0, u2, rfl, ⟨(FC.tr (FC.f (FC.f (FC.rf _) ps (by decide)) 0 (by decide)) (FC.up fr1 (by decide) (by decide))), ⟨z381, u2, ex1, fr1, (Or.inr (⟨z10, rfl, rfl⟩))⟩, (Or.inl rfl)⟩, by rw [ht9]; exact hP, hD⟩, hS.F ht9⟩) hS.2.2 dX0_assemble_32
