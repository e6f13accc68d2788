theorem dX6_service_0 : decode cX6_service 0 = .ok (.aload_n 0, 1) := by decide +kernel
theorem dX6_service_1 : decode cX6_service 1 = .ok (.bipush 17, 2) := by decide +kernel
theorem dX6_service_3 : decode cX6_service 3 = .ok (.invokevirtual 87, 3) := by decide +kernel
theorem tw_798 : (.code yX6_valueOf cX6_valueOf 2 (some .int) : Cond) ∈ tw_W := tw_in (t8_6 (List.mem_of_getElem? (i := 77) rfl)) rfl
theorem tw_799 : ∀ w ∈ ([.methodLink RX6 87 yX6_valueOf, .instanceMethod yX6_valueOf, .selects RX6 yX6_valueOf yX6_valueOf, .initialized RX6] : List Cond), w ∈ tw_W := al_c (tw_in (t8_6 (List.mem_of_getElem? (i := 74) rfl)) rfl) (al_c (tw_in (t8_6 (List.mem_of_getElem? (i := 75) rfl)) rfl) (al_c (tw_in (t8_6 (List.mem_of_getElem? (i := 76) rfl)) rfl) (al_c (tw_in (t8_1 (List.mem_of_getElem? (i := 14) rfl)) rfl) al_n)))
theorem dX6_service_6 : decode cX6_service 6 = .ok (.istore_n 1, 1) := by decide +kernel
theorem dX6_service_7 : decode cX6_service 7 = .ok (.iload_n 1, 1) := by decide +kernel
theorem dX6_service_8 : decode cX6_service 8 = .ok (.iconst 1, 1) := by decide +kernel
theorem dX6_service_9 : decode cX6_service 9 = .ok (.if_icmp .ne 41, 3) := by decide +kernel
theorem dX6_service_50 : decode cX6_service 50 = .ok (.iload_n 1, 1) := by decide +kernel
theorem dX6_service_51 : decode cX6_service 51 = .ok (.iconst 2, 1) := by decide +kernel
theorem dX6_service_52 : decode cX6_service 52 = .ok (.if_icmp .ne 16, 3) := by decide +kernel
theorem dX6_service_68 : decode cX6_service 68 = .ok (.return_, 1) := by decide +kernel
theorem dX6_service_55 : decode cX6_service 55 = .ok (.aload_n 0, 1) := by decide +kernel
theorem dX6_service_56 : decode cX6_service 56 = .ok (.bipush 10, 2) := by decide +kernel
theorem dX6_service_58 : decode cX6_service 58 = .ok (.aload_n 0, 1) := by decide +kernel
theorem dX6_service_59 : decode cX6_service 59 = .ok (.getfield 21, 3) := by decide +kernel
theorem tw_800 : (.fieldLink RX6 21 "PocketCompiler$Processor" "gifts" "LPocketCompiler$Gifts;" : Cond) ∈ tw_W := tw_in (t8_2 (List.mem_of_getElem? (i := 130) rfl)) rfl
theorem dX6_service_62 : decode cX6_service 62 = .ok (.invokevirtual 144, 3) := by decide +kernel
theorem tw_801 : (.code yX3_next cX3_next 1 (some .int) : Cond) ∈ tw_W := tw_in (t8_6 (List.mem_of_getElem? (i := 138) rfl)) rfl
theorem tw_802 : ∀ w ∈ ([.methodLink RX6 144 yX3_next, .instanceMethod yX3_next, .selects RX3 yX3_next yX3_next, .initialized RX3] : List Cond), w ∈ tw_W := al_c (tw_in (t8_6 (List.mem_of_getElem? (i := 135) rfl)) rfl) (al_c (tw_in (t8_6 (List.mem_of_getElem? (i := 136) rfl)) rfl) (al_c (tw_in (t8_6 (List.mem_of_getElem? (i := 137) rfl)) rfl) (al_c (tw_in (t8_1 (List.mem_of_getElem? (i := 2) rfl)) rfl) al_n)))
theorem dX6_service_65 : decode cX6_service 65 = .ok (.invokevirtual 29, 3) := by decide +kernel
theorem dX6_service_12 : decode cX6_service 12 = .ok (.aload_n 0, 1) := by decide +kernel
theorem dX6_service_13 : decode cX6_service 13 = .ok (.getfield 57, 3) := by decide +kernel
theorem tw_803 : (.fieldLink RX6 57 "PocketCompiler$Processor" "putCount" "I" : Cond) ∈ tw_W := tw_in (t8_2 (List.mem_of_getElem? (i := 128) rfl)) rfl
theorem dX6_service_16 : decode cX6_service 16 = .ok (.sipush 200, 3) := by decide +kernel
theorem dX6_service_19 : decode cX6_service 19 = .ok (.if_icmp .ge 18, 3) := by decide +kernel
theorem dX6_service_37 : decode cX6_service 37 = .ok (.aload_n 0, 1) := by decide +kernel
theorem dX6_service_38 : decode cX6_service 38 = .ok (.dup, 1) := by decide +kernel
theorem dX6_service_39 : decode cX6_service 39 = .ok (.getfield 57, 3) := by decide +kernel
theorem dX6_service_42 : decode cX6_service 42 = .ok (.iconst 1, 1) := by decide +kernel
theorem dX6_service_43 : decode cX6_service 43 = .ok (.iadd, 1) := by decide +kernel
theorem dX6_service_44 : decode cX6_service 44 = .ok (.putfield 57, 3) := by decide +kernel
theorem dX6_service_47 : decode cX6_service 47 = .ok (.goto 21, 3) := by decide +kernel
theorem dX6_service_22 : decode cX6_service 22 = .ok (.aload_n 0, 1) := by decide +kernel
theorem dX6_service_23 : decode cX6_service 23 = .ok (.getfield 15, 3) := by decide +kernel
theorem tw_804 : (.fieldLink RX6 15 "PocketCompiler$Processor" "puts" "[I" : Cond) ∈ tw_W := tw_in (t8_2 (List.mem_of_getElem? (i := 126) rfl)) rfl
theorem dX6_service_26 : decode cX6_service 26 = .ok (.aload_n 0, 1) := by decide +kernel
theorem dX6_service_27 : decode cX6_service 27 = .ok (.getfield 57, 3) := by decide +kernel
theorem dX6_service_30 : decode cX6_service 30 = .ok (.aload_n 0, 1) := by decide +kernel
theorem dX6_service_31 : decode cX6_service 31 = .ok (.bipush 10, 2) := by decide +kernel
theorem dX6_service_33 : decode cX6_service 33 = .ok (.invokevirtual 87, 3) := by decide +kernel
theorem dX6_service_36 : decode cX6_service 36 = .ok (.iastore, 1) := by decide +kernel
theorem dX6_perform_0 : decode cX6_perform 0 = .ok (.aload_n 0, 1) := by decide +kernel
theorem dX6_perform_1 : decode cX6_perform 1 = .ok (.iload_n 2, 1) := by decide +kernel
theorem dX6_perform_2 : decode cX6_perform 2 = .ok (.invokestatic 84, 3) := by decide +kernel
theorem tw_805 : (.code yX4_first cX4_first 1 (some .int) : Cond) ∈ tw_W := tw_in (t8_6 (List.mem_of_getElem? (i := 73) rfl)) rfl
theorem tw_806 : ∀ w ∈ ([.methodLink RX6 84 yX4_first, .static yX4_first, .initialized yX4_first.cls] : List Cond), w ∈ tw_W := al_c (tw_in (t8_6 (List.mem_of_getElem? (i := 71) rfl)) rfl) (al_c (tw_in (t8_6 (List.mem_of_getElem? (i := 72) rfl)) rfl) (al_c (tw_in (t8_1 (List.mem_of_getElem? (i := 29) rfl)) rfl) al_n))
theorem dX6_perform_5 : decode cX6_perform 5 = .ok (.invokevirtual 87, 3) := by decide +kernel
theorem dX6_perform_8 : decode cX6_perform 8 = .ok (.istore_n 3, 1) := by decide +kernel
theorem dX6_perform_9 : decode cX6_perform 9 = .ok (.aload_n 0, 1) := by decide +kernel
theorem dX6_perform_10 : decode cX6_perform 10 = .ok (.iload_n 2, 1) := by decide +kernel
theorem dX6_perform_11 : decode cX6_perform 11 = .ok (.invokestatic 90, 3) := by decide +kernel
theorem tw_807 : ∀ w ∈ ([.methodLink RX6 90 yX4_second, .static yX4_second, .initialized yX4_second.cls] : List Cond), w ∈ tw_W := al_c (tw_in (t8_6 (List.mem_of_getElem? (i := 78) rfl)) rfl) (al_c (tw_in (t8_6 (List.mem_of_getElem? (i := 79) rfl)) rfl) (al_c (tw_in (t8_1 (List.mem_of_getElem? (i := 29) rfl)) rfl) al_n))
theorem dX6_perform_14 : decode cX6_perform 14 = .ok (.invokevirtual 87, 3) := by decide +kernel
theorem dX6_perform_17 : decode cX6_perform 17 = .ok (.istore 4, 2) := by decide +kernel
theorem dX6_perform_19 : decode cX6_perform 19 = .ok (.iload_n 2, 1) := by decide +kernel
theorem dX6_perform_20 : decode cX6_perform 20 = .ok (.iload_n 1, 1) := by decide +kernel
theorem dX6_perform_21 : decode cX6_perform 21 = .ok (.invokestatic 93, 3) := by decide +kernel
theorem tw_808 : (.code yX4_number cX4_number 2 (some .int) : Cond) ∈ tw_W := tw_in (t8_6 (List.mem_of_getElem? (i := 83) rfl)) rfl
theorem tw_809 : ∀ w ∈ ([.methodLink RX6 93 yX4_number, .static yX4_number, .initialized yX4_number.cls] : List Cond), w ∈ tw_W := al_c (tw_in (t8_6 (List.mem_of_getElem? (i := 81) rfl)) rfl) (al_c (tw_in (t8_6 (List.mem_of_getElem? (i := 82) rfl)) rfl) (al_c (tw_in (t8_1 (List.mem_of_getElem? (i := 29) rfl)) rfl) al_n))
theorem dX6_perform_24 : decode cX6_perform 24 = .ok (.istore 5, 2) := by decide +kernel
theorem dX6_perform_26 : decode cX6_perform 26 = .ok (.iload_n 2, 1) := by decide +kernel
theorem dX6_perform_27 : decode cX6_perform 27 = .ok (.invokestatic 97, 3) := by decide +kernel
theorem tw_810 : (.code yX4_target cX4_target 1 (some .int) : Cond) ∈ tw_W := tw_in (t8_6 (List.mem_of_getElem? (i := 87) rfl)) rfl
theorem tw_811 : ∀ w ∈ ([.methodLink RX6 97 yX4_target, .static yX4_target, .initialized yX4_target.cls] : List Cond), w ∈ tw_W := al_c (tw_in (t8_6 (List.mem_of_getElem? (i := 85) rfl)) rfl) (al_c (tw_in (t8_6 (List.mem_of_getElem? (i := 86) rfl)) rfl) (al_c (tw_in (t8_1 (List.mem_of_getElem? (i := 29) rfl)) rfl) al_n))
theorem dX6_perform_30 : decode cX6_perform 30 = .ok (.istore 6, 2) := by decide +kernel
theorem dX6_perform_32 : decode cX6_perform 32 = .ok (.iload_n 1, 1) := by decide +kernel
theorem dX6_perform_33 : decode cX6_perform 33 = .ok (.ifCond .ne 14, 3) := by decide +kernel
theorem dX6_perform_47 : decode cX6_perform 47 = .ok (.iload_n 1, 1) := by decide +kernel
theorem dX6_perform_48 : decode cX6_perform 48 = .ok (.iconst 1, 1) := by decide +kernel
theorem dX6_perform_49 : decode cX6_perform 49 = .ok (.if_icmp .ne 19, 3) := by decide +kernel
theorem dX6_perform_68 : decode cX6_perform 68 = .ok (.iload_n 1, 1) := by decide +kernel
theorem dX6_perform_69 : decode cX6_perform 69 = .ok (.iconst 2, 1) := by decide +kernel
theorem dX6_perform_70 : decode cX6_perform 70 = .ok (.if_icmp .ne 19, 3) := by decide +kernel
theorem dX6_perform_89 : decode cX6_perform 89 = .ok (.iload_n 1, 1) := by decide +kernel
theorem dX6_perform_90 : decode cX6_perform 90 = .ok (.iconst 3, 1) := by decide +kernel
theorem dX6_perform_91 : decode cX6_perform 91 = .ok (.if_icmp .ne 19, 3) := by decide +kernel
theorem dX6_perform_110 : decode cX6_perform 110 = .ok (.iload_n 1, 1) := by decide +kernel
theorem dX6_perform_111 : decode cX6_perform 111 = .ok (.bipush 9, 2) := by decide +kernel
theorem dX6_perform_113 : decode cX6_perform 113 = .ok (.if_icmp .gt 24, 3) := by decide +kernel
theorem dX6_perform_137 : decode cX6_perform 137 = .ok (.iload_n 1, 1) := by decide +kernel
theorem dX6_perform_138 : decode cX6_perform 138 = .ok (.bipush 14, 2) := by decide +kernel
theorem dX6_perform_140 : decode cX6_perform 140 = .ok (.if_icmp .gt 17, 3) := by decide +kernel
theorem dX6_perform_157 : decode cX6_perform 157 = .ok (.iload_n 1, 1) := by decide +kernel
theorem dX6_perform_158 : decode cX6_perform 158 = .ok (.bipush 17, 2) := by decide +kernel
theorem dX6_perform_160 : decode cX6_perform 160 = .ok (.if_icmp .gt 17, 3) := by decide +kernel
theorem dX6_perform_177 : decode cX6_perform 177 = .ok (.iload_n 1, 1) := by decide +kernel
theorem dX6_perform_178 : decode cX6_perform 178 = .ok (.bipush 26, 2) := by decide +kernel
theorem dX6_perform_180 : decode cX6_perform 180 = .ok (.if_icmp .gt 19, 3) := by decide +kernel
theorem dX6_perform_199 : decode cX6_perform 199 = .ok (.iload_n 1, 1) := by decide +kernel
theorem dX6_perform_200 : decode cX6_perform 200 = .ok (.bipush 36, 2) := by decide +kernel
theorem dX6_perform_202 : decode cX6_perform 202 = .ok (.if_icmp .gt 19, 3) := by decide +kernel
theorem dX6_perform_221 : decode cX6_perform 221 = .ok (.iload_n 1, 1) := by decide +kernel
theorem dX6_perform_222 : decode cX6_perform 222 = .ok (.bipush 38, 2) := by decide +kernel
theorem dX6_perform_224 : decode cX6_perform 224 = .ok (.if_icmp .ne 10, 3) := by decide +kernel
theorem dX6_perform_234 : decode cX6_perform 234 = .ok (.iload_n 1, 1) := by decide +kernel
theorem dX6_perform_235 : decode cX6_perform 235 = .ok (.bipush 39, 2) := by decide +kernel
theorem dX6_perform_237 : decode cX6_perform 237 = .ok (.if_icmp .ne 11, 3) := by decide +kernel
theorem dX6_perform_248 : decode cX6_perform 248 = .ok (.iload_n 1, 1) := by decide +kernel
theorem dX6_perform_249 : decode cX6_perform 249 = .ok (.bipush 37, 2) := by decide +kernel
theorem dX6_perform_251 : decode cX6_perform 251 = .ok (.if_icmp .eq 8, 3) := by decide +kernel
theorem dX6_perform_259 : decode cX6_perform 259 = .ok (.return_, 1) := by decide +kernel
theorem dX6_perform_254 : decode cX6_perform 254 = .ok (.aload_n 0, 1) := by decide +kernel
theorem dX6_perform_255 : decode cX6_perform 255 = .ok (.iconst 2, 1) := by decide +kernel
theorem dX6_perform_256 : decode cX6_perform 256 = .ok (.putfield 33, 3) := by decide +kernel
theorem dX6_perform_240 : decode cX6_perform 240 = .ok (.aload_n 0, 1) := by decide +kernel
theorem dX6_perform_241 : decode cX6_perform 241 = .ok (.iconst 1, 1) := by decide +kernel
theorem dX6_perform_242 : decode cX6_perform 242 = .ok (.putfield 33, 3) := by decide +kernel
theorem dX6_perform_245 : decode cX6_perform 245 = .ok (.goto 14, 3) := by decide +kernel
theorem dX6_perform_227 : decode cX6_perform 227 = .ok (.aload_n 0, 1) := by decide +kernel
theorem dX6_perform_228 : decode cX6_perform 228 = .ok (.invokevirtual 125, 3) := by decide +kernel
theorem tw_812 : (.code yX6_service cX6_service 2 none : Cond) ∈ tw_W := tw_in (t8_6 (List.mem_of_getElem? (i := 134) rfl)) rfl
theorem tw_813 : ∀ w ∈ ([.methodLink RX6 125 yX6_service, .instanceMethod yX6_service, .selects RX6 yX6_service yX6_service, .initialized RX6] : List Cond), w ∈ tw_W := al_c (tw_in (t8_6 (List.mem_of_getElem? (i := 131) rfl)) rfl) (al_c (tw_in (t8_6 (List.mem_of_getElem? (i := 133) rfl)) rfl) (al_c (tw_in (t7_6 (q := (yX6_service, 9)) (List.mem_of_getElem? (i := 3) rfl)) rfl) (al_c (tw_in (t8_1 (List.mem_of_getElem? (i := 14) rfl)) rfl) al_n)))
theorem dX6_perform_231 : decode cX6_perform 231 = .ok (.goto 28, 3) := by decide +kernel
theorem dX6_perform_205 : decode cX6_perform 205 = .ok (.aload_n 0, 1) := by decide +kernel
theorem dX6_perform_206 : decode cX6_perform 206 = .ok (.iload 6, 2) := by decide +kernel
theorem dX6_perform_208 : decode cX6_perform 208 = .ok (.iload_n 1, 1) := by decide +kernel
theorem dX6_perform_209 : decode cX6_perform 209 = .ok (.iload_n 3, 1) := by decide +kernel
theorem dX6_perform_210 : decode cX6_perform 210 = .ok (.iload 4, 2) := by decide +kernel
theorem dX6_perform_212 : decode cX6_perform 212 = .ok (.invokestatic 122, 3) := by decide +kernel
theorem tw_814 : (.code yX6_joined cX6_joined 3 (some .int) : Cond) ∈ tw_W := tw_in (t8_6 (List.mem_of_getElem? (i := 130) rfl)) rfl
theorem tw_815 : ∀ w ∈ ([.methodLink RX6 122 yX6_joined, .static yX6_joined, .initialized yX6_joined.cls] : List Cond), w ∈ tw_W := al_c (tw_in (t8_6 (List.mem_of_getElem? (i := 128) rfl)) rfl) (al_c (tw_in (t8_6 (List.mem_of_getElem? (i := 129) rfl)) rfl) (al_c (tw_in (t8_1 (List.mem_of_getElem? (i := 14) rfl)) rfl) al_n))
theorem dX6_perform_215 : decode cX6_perform 215 = .ok (.invokevirtual 29, 3) := by decide +kernel
theorem dX6_perform_218 : decode cX6_perform 218 = .ok (.goto 41, 3) := by decide +kernel
theorem dX6_perform_183 : decode cX6_perform 183 = .ok (.aload_n 0, 1) := by decide +kernel
theorem dX6_perform_184 : decode cX6_perform 184 = .ok (.iload 6, 2) := by decide +kernel
theorem dX6_perform_186 : decode cX6_perform 186 = .ok (.iload_n 1, 1) := by decide +kernel
theorem dX6_perform_187 : decode cX6_perform 187 = .ok (.iload_n 3, 1) := by decide +kernel
theorem dX6_perform_188 : decode cX6_perform 188 = .ok (.iload 5, 2) := by decide +kernel
theorem dX6_perform_190 : decode cX6_perform 190 = .ok (.invokestatic 118, 3) := by decide +kernel
theorem tw_816 : (.code yX6_numbered cX6_numbered 3 (some .int) : Cond) ∈ tw_W := tw_in (t8_6 (List.mem_of_getElem? (i := 127) rfl)) rfl
theorem tw_817 : ∀ w ∈ ([.methodLink RX6 118 yX6_numbered, .static yX6_numbered, .initialized yX6_numbered.cls] : List Cond), w ∈ tw_W := al_c (tw_in (t8_6 (List.mem_of_getElem? (i := 125) rfl)) rfl) (al_c (tw_in (t8_6 (List.mem_of_getElem? (i := 126) rfl)) rfl) (al_c (tw_in (t8_1 (List.mem_of_getElem? (i := 14) rfl)) rfl) al_n))
theorem dX6_perform_193 : decode cX6_perform 193 = .ok (.invokevirtual 29, 3) := by decide +kernel
theorem dX6_perform_196 : decode cX6_perform 196 = .ok (.goto 63, 3) := by decide +kernel
theorem dX6_perform_163 : decode cX6_perform 163 = .ok (.aload_n 0, 1) := by decide +kernel
theorem dX6_perform_164 : decode cX6_perform 164 = .ok (.iload_n 1, 1) := by decide +kernel
theorem dX6_perform_165 : decode cX6_perform 165 = .ok (.iload 4, 2) := by decide +kernel
theorem dX6_perform_167 : decode cX6_perform 167 = .ok (.iload_n 3, 1) := by decide +kernel
theorem dX6_perform_168 : decode cX6_perform 168 = .ok (.iload 5, 2) := by decide +kernel
theorem dX6_perform_170 : decode cX6_perform 170 = .ok (.iadd, 1) := by decide +kernel
theorem dX6_perform_171 : decode cX6_perform 171 = .ok (.invokevirtual 115, 3) := by decide +kernel
theorem tw_818 : (.code yX6_store cX6_store 7 none : Cond) ∈ tw_W := tw_in (t8_6 (List.mem_of_getElem? (i := 124) rfl)) rfl
theorem tw_819 : ∀ w ∈ ([.methodLink RX6 115 yX6_store, .instanceMethod yX6_store, .selects RX6 yX6_store yX6_store, .initialized RX6] : List Cond), w ∈ tw_W := al_c (tw_in (t8_6 (List.mem_of_getElem? (i := 121) rfl)) rfl) (al_c (tw_in (t8_6 (List.mem_of_getElem? (i := 123) rfl)) rfl) (al_c (tw_in (t7_6 (q := (yX6_store, 9)) (List.mem_of_getElem? (i := 2) rfl)) rfl) (al_c (tw_in (t8_1 (List.mem_of_getElem? (i := 14) rfl)) rfl) al_n)))
theorem dX6_perform_174 : decode cX6_perform 174 = .ok (.goto 85, 3) := by decide +kernel
theorem dX6_perform_143 : decode cX6_perform 143 = .ok (.aload_n 0, 1) := by decide +kernel
theorem dX6_perform_144 : decode cX6_perform 144 = .ok (.iload_n 1, 1) := by decide +kernel
theorem dX6_perform_145 : decode cX6_perform 145 = .ok (.iload 6, 2) := by decide +kernel
theorem dX6_perform_147 : decode cX6_perform 147 = .ok (.iload_n 3, 1) := by decide +kernel
theorem dX6_perform_148 : decode cX6_perform 148 = .ok (.iload 5, 2) := by decide +kernel
theorem dX6_perform_150 : decode cX6_perform 150 = .ok (.iadd, 1) := by decide +kernel
theorem dX6_perform_151 : decode cX6_perform 151 = .ok (.invokevirtual 111, 3) := by decide +kernel
theorem tw_820 : (.code yX6_fetch cX6_fetch 5 none : Cond) ∈ tw_W := tw_in (t8_6 (List.mem_of_getElem? (i := 112) rfl)) rfl
theorem tw_821 : ∀ w ∈ ([.methodLink RX6 111 yX6_fetch, .instanceMethod yX6_fetch, .selects RX6 yX6_fetch yX6_fetch, .initialized RX6] : List Cond), w ∈ tw_W := al_c (tw_in (t8_6 (List.mem_of_getElem? (i := 109) rfl)) rfl) (al_c (tw_in (t8_6 (List.mem_of_getElem? (i := 111) rfl)) rfl) (al_c (tw_in (t7_6 (q := (yX6_fetch, 9)) (List.mem_of_getElem? (i := 0) rfl)) rfl) (al_c (tw_in (t8_1 (List.mem_of_getElem? (i := 14) rfl)) rfl) al_n)))
theorem dX6_perform_154 : decode cX6_perform 154 = .ok (.goto 105, 3) := by decide +kernel
theorem dX6_perform_116 : decode cX6_perform 116 = .ok (.aload_n 0, 1) := by decide +kernel
theorem dX6_perform_117 : decode cX6_perform 117 = .ok (.iload_n 1, 1) := by decide +kernel
theorem dX6_perform_118 : decode cX6_perform 118 = .ok (.iload_n 3, 1) := by decide +kernel
theorem dX6_perform_119 : decode cX6_perform 119 = .ok (.iload 4, 2) := by decide +kernel
theorem dX6_perform_121 : decode cX6_perform 121 = .ok (.invokestatic 103, 3) := by decide +kernel
theorem tw_822 : (.code yX6_isTaken cX6_isTaken 3 (some .boolean) : Cond) ∈ tw_W := tw_in (t8_6 (List.mem_of_getElem? (i := 98) rfl)) rfl
theorem tw_823 : ∀ w ∈ ([.methodLink RX6 103 yX6_isTaken, .static yX6_isTaken, .initialized yX6_isTaken.cls] : List Cond), w ∈ tw_W := al_c (tw_in (t8_6 (List.mem_of_getElem? (i := 96) rfl)) rfl) (al_c (tw_in (t8_6 (List.mem_of_getElem? (i := 97) rfl)) rfl) (al_c (tw_in (t8_1 (List.mem_of_getElem? (i := 14) rfl)) rfl) al_n))
theorem dX6_perform_124 : decode cX6_perform 124 = .ok (.aload_n 0, 1) := by decide +kernel
theorem dX6_perform_125 : decode cX6_perform 125 = .ok (.getfield 25, 3) := by decide +kernel
theorem dX6_perform_128 : decode cX6_perform 128 = .ok (.iload 5, 2) := by decide +kernel
theorem dX6_perform_130 : decode cX6_perform 130 = .ok (.iadd, 1) := by decide +kernel
theorem dX6_perform_131 : decode cX6_perform 131 = .ok (.invokevirtual 107, 3) := by decide +kernel
theorem dX6_perform_134 : decode cX6_perform 134 = .ok (.goto 125, 3) := by decide +kernel
theorem dX6_perform_94 : decode cX6_perform 94 = .ok (.aload_n 0, 1) := by decide +kernel
theorem dX6_perform_95 : decode cX6_perform 95 = .ok (.iload 6, 2) := by decide +kernel
theorem dX6_perform_97 : decode cX6_perform 97 = .ok (.iload_n 3, 1) := by decide +kernel
theorem dX6_perform_98 : decode cX6_perform 98 = .ok (.iload 5, 2) := by decide +kernel
theorem dX6_perform_100 : decode cX6_perform 100 = .ok (.iadd, 1) := by decide +kernel
theorem dX6_perform_101 : decode cX6_perform 101 = .ok (.bipush (-2), 2) := by decide +kernel
theorem dX6_perform_103 : decode cX6_perform 103 = .ok (.iand, 1) := by decide +kernel
theorem dX6_perform_104 : decode cX6_perform 104 = .ok (.invokevirtual 100, 3) := by decide +kernel
theorem tw_824 : (.code yX6_jump cX6_jump 3 none : Cond) ∈ tw_W := tw_in (t8_6 (List.mem_of_getElem? (i := 91) rfl)) rfl
theorem tw_825 : ∀ w ∈ ([.methodLink RX6 100 yX6_jump, .instanceMethod yX6_jump, .selects RX6 yX6_jump yX6_jump, .initialized RX6] : List Cond), w ∈ tw_W := al_c (tw_in (t8_6 (List.mem_of_getElem? (i := 88) rfl)) rfl) (al_c (tw_in (t8_6 (List.mem_of_getElem? (i := 90) rfl)) rfl) (al_c (tw_in (t7_5 (q := (yX6_jump, 9)) (List.mem_of_getElem? (i := 14) rfl)) rfl) (al_c (tw_in (t8_1 (List.mem_of_getElem? (i := 14) rfl)) rfl) al_n)))
theorem dX6_perform_107 : decode cX6_perform 107 = .ok (.goto 152, 3) := by decide +kernel
theorem dX6_perform_73 : decode cX6_perform 73 = .ok (.aload_n 0, 1) := by decide +kernel
theorem dX6_perform_74 : decode cX6_perform 74 = .ok (.iload 6, 2) := by decide +kernel
theorem dX6_perform_76 : decode cX6_perform 76 = .ok (.aload_n 0, 1) := by decide +kernel
theorem dX6_perform_77 : decode cX6_perform 77 = .ok (.getfield 25, 3) := by decide +kernel
theorem dX6_perform_80 : decode cX6_perform 80 = .ok (.iload 5, 2) := by decide +kernel
theorem dX6_perform_82 : decode cX6_perform 82 = .ok (.iadd, 1) := by decide +kernel
theorem dX6_perform_83 : decode cX6_perform 83 = .ok (.invokevirtual 100, 3) := by decide +kernel
theorem dX6_perform_86 : decode cX6_perform 86 = .ok (.goto 173, 3) := by decide +kernel
theorem dX6_perform_52 : decode cX6_perform 52 = .ok (.aload_n 0, 1) := by decide +kernel
theorem dX6_perform_53 : decode cX6_perform 53 = .ok (.iload 6, 2) := by decide +kernel
theorem dX6_perform_55 : decode cX6_perform 55 = .ok (.aload_n 0, 1) := by decide +kernel
theorem dX6_perform_56 : decode cX6_perform 56 = .ok (.getfield 25, 3) := by decide +kernel
theorem dX6_perform_59 : decode cX6_perform 59 = .ok (.iload 5, 2) := by decide +kernel
theorem dX6_perform_61 : decode cX6_perform 61 = .ok (.iadd, 1) := by decide +kernel
theorem dX6_perform_62 : decode cX6_perform 62 = .ok (.invokevirtual 29, 3) := by decide +kernel
theorem dX6_perform_65 : decode cX6_perform 65 = .ok (.goto 194, 3) := by decide +kernel
theorem dX6_perform_36 : decode cX6_perform 36 = .ok (.aload_n 0, 1) := by decide +kernel
theorem dX6_perform_37 : decode cX6_perform 37 = .ok (.iload 6, 2) := by decide +kernel
theorem dX6_perform_39 : decode cX6_perform 39 = .ok (.iload 5, 2) := by decide +kernel
theorem dX6_perform_41 : decode cX6_perform 41 = .ok (.invokevirtual 29, 3) := by decide +kernel
theorem dX6_perform_44 : decode cX6_perform 44 = .ok (.goto 215, 3) := by decide +kernel
theorem dX6_tick_0 : decode cX6_tick 0 = .ok (.aload_n 0, 1) := by decide +kernel
theorem dX6_tick_1 : decode cX6_tick 1 = .ok (.getfield 33, 3) := by decide +kernel
theorem dX6_tick_4 : decode cX6_tick 4 = .ok (.ifCond .eq 4, 3) := by decide +kernel
theorem dX6_tick_8 : decode cX6_tick 8 = .ok (.aload_n 0, 1) := by decide +kernel
theorem dX6_tick_9 : decode cX6_tick 9 = .ok (.dup, 1) := by decide +kernel
theorem dX6_tick_10 : decode cX6_tick 10 = .ok (.getfield 54, 3) := by decide +kernel
theorem tw_826 : (.fieldLink RX6 54 "PocketCompiler$Processor" "steps" "I" : Cond) ∈ tw_W := tw_in (t8_2 (List.mem_of_getElem? (i := 124) rfl)) rfl
theorem dX6_tick_13 : decode cX6_tick 13 = .ok (.iconst 1, 1) := by decide +kernel
theorem dX6_tick_14 : decode cX6_tick 14 = .ok (.iadd, 1) := by decide +kernel
theorem dX6_tick_15 : decode cX6_tick 15 = .ok (.putfield 54, 3) := by decide +kernel
theorem dX6_tick_18 : decode cX6_tick 18 = .ok (.aload_n 0, 1) := by decide +kernel
theorem dX6_tick_19 : decode cX6_tick 19 = .ok (.aload_n 0, 1) := by decide +kernel
theorem dX6_tick_20 : decode cX6_tick 20 = .ok (.getfield 25, 3) := by decide +kernel
theorem dX6_tick_23 : decode cX6_tick 23 = .ok (.invokevirtual 68, 3) := by decide +kernel
theorem dX6_tick_26 : decode cX6_tick 26 = .ok (.ifCond .ne 9, 3) := by decide +kernel
theorem dX6_tick_35 : decode cX6_tick 35 = .ok (.aload_n 0, 1) := by decide +kernel
theorem dX6_tick_36 : decode cX6_tick 36 = .ok (.aload_n 0, 1) := by decide +kernel
theorem dX6_tick_37 : decode cX6_tick 37 = .ok (.getfield 25, 3) := by decide +kernel
theorem dX6_tick_40 : decode cX6_tick 40 = .ok (.invokevirtual 72, 3) := by decide +kernel
theorem dX6_tick_43 : decode cX6_tick 43 = .ok (.istore_n 1, 1) := by decide +kernel
theorem dX6_tick_44 : decode cX6_tick 44 = .ok (.iload_n 1, 1) := by decide +kernel
theorem dX6_tick_45 : decode cX6_tick 45 = .ok (.invokestatic 73, 3) := by decide +kernel
theorem tw_827 : (.code yX4_kindOf cX4_kindOf 2 (some .int) : Cond) ∈ tw_W := tw_in (t8_6 (List.mem_of_getElem? (i := 49) rfl)) rfl
theorem tw_828 : ∀ w ∈ ([.methodLink RX6 73 yX4_kindOf, .static yX4_kindOf, .initialized yX4_kindOf.cls] : List Cond), w ∈ tw_W := al_c (tw_in (t8_6 (List.mem_of_getElem? (i := 47) rfl)) rfl) (al_c (tw_in (t8_6 (List.mem_of_getElem? (i := 48) rfl)) rfl) (al_c (tw_in (t8_1 (List.mem_of_getElem? (i := 29) rfl)) rfl) al_n))
theorem dX6_tick_48 : decode cX6_tick 48 = .ok (.istore_n 2, 1) := by decide +kernel
theorem dX6_tick_49 : decode cX6_tick 49 = .ok (.aload_n 0, 1) := by decide +kernel
theorem dX6_tick_50 : decode cX6_tick 50 = .ok (.aload_n 0, 1) := by decide +kernel
theorem dX6_tick_51 : decode cX6_tick 51 = .ok (.getfield 25, 3) := by decide +kernel
theorem dX6_tick_54 : decode cX6_tick 54 = .ok (.iconst 4, 1) := by decide +kernel
theorem dX6_tick_55 : decode cX6_tick 55 = .ok (.iadd, 1) := by decide +kernel
theorem dX6_tick_56 : decode cX6_tick 56 = .ok (.putfield 78, 3) := by decide +kernel
theorem dX6_tick_59 : decode cX6_tick 59 = .ok (.aload_n 0, 1) := by decide +kernel
theorem dX6_tick_60 : decode cX6_tick 60 = .ok (.iload_n 2, 1) := by decide +kernel
theorem dX6_tick_61 : decode cX6_tick 61 = .ok (.iload_n 1, 1) := by decide +kernel
theorem dX6_tick_62 : decode cX6_tick 62 = .ok (.invokevirtual 81, 3) := by decide +kernel
theorem tw_829 : (.code yX6_perform cX6_perform 7 none : Cond) ∈ tw_W := tw_in (t8_6 (List.mem_of_getElem? (i := 70) rfl)) rfl
theorem tw_830 : ∀ w ∈ ([.methodLink RX6 81 yX6_perform, .instanceMethod yX6_perform, .selects RX6 yX6_perform yX6_perform, .initialized RX6] : List Cond), w ∈ tw_W := al_c (tw_in (t8_6 (List.mem_of_getElem? (i := 67) rfl)) rfl) (al_c (tw_in (t8_6 (List.mem_of_getElem? (i := 69) rfl)) rfl) (al_c (tw_in (t7_5 (q := (yX6_perform, 9)) (List.mem_of_getElem? (i := 13) rfl)) rfl) (al_c (tw_in (t8_1 (List.mem_of_getElem? (i := 14) rfl)) rfl) al_n)))
theorem dX6_tick_65 : decode cX6_tick 65 = .ok (.aload_n 0, 1) := by decide +kernel
theorem dX6_tick_66 : decode cX6_tick 66 = .ok (.getfield 33, 3) := by decide +kernel
theorem dX6_tick_69 : decode cX6_tick 69 = .ok (.ifCond .ne 11, 3) := by decide +kernel
theorem dX6_tick_80 : decode cX6_tick 80 = .ok (.return_, 1) := by decide +kernel
theorem dX6_tick_72 : decode cX6_tick 72 = .ok (.aload_n 0, 1) := by decide +kernel
theorem dX6_tick_73 : decode cX6_tick 73 = .ok (.aload_n 0, 1) := by decide +kernel
theorem dX6_tick_74 : decode cX6_tick 74 = .ok (.getfield 78, 3) := by decide +kernel
theorem dX6_tick_77 : decode cX6_tick 77 = .ok (.putfield 25, 3) := by decide +kernel
theorem dX6_tick_29 : decode cX6_tick 29 = .ok (.aload_n 0, 1) := by decide +kernel
theorem dX6_tick_30 : decode cX6_tick 30 = .ok (.iconst 3, 1) := by decide +kernel
theorem dX6_tick_31 : decode cX6_tick 31 = .ok (.putfield 33, 3) := by decide +kernel
theorem dX6_tick_34 : decode cX6_tick 34 = .ok (.return_, 1) := by decide +kernel
theorem dX6_tick_7 : decode cX6_tick 7 = .ok (.return_, 1) := by decide +kernel
theorem dX6_begin_0 : decode cX6_begin 0 = .ok (.aload_n 0, 1) := by decide +kernel
theorem dX6_begin_1 : decode cX6_begin 1 = .ok (.getfield 18, 3) := by decide +kernel
theorem dX6_begin_4 : decode cX6_begin 4 = .ok (.iconst 0, 1) := by decide +kernel
theorem dX6_begin_5 : decode cX6_begin 5 = .ok (.invokestatic 36, 3) := by decide +kernel
theorem tw_831 : (.code yJ7_fill_53178 cJ7_fill_53178 4 none : Cond) ∈ tw_W := tw_in (t8_6 (List.mem_of_getElem? (i := 14) rfl)) rfl
theorem tw_832 : ∀ w ∈ ([.methodLink RX6 36 yJ7_fill_53178, .static yJ7_fill_53178, .initialized yJ7_fill_53178.cls] : List Cond), w ∈ tw_W := al_c (tw_in (t8_6 (List.mem_of_getElem? (i := 12) rfl)) rfl) (al_c (tw_in (t8_6 (List.mem_of_getElem? (i := 13) rfl)) rfl) (al_c (tw_in (t8_1 (List.mem_of_getElem? (i := 28) rfl)) rfl) al_n))
theorem dX6_begin_8 : decode cX6_begin 8 = .ok (.iconst 0, 1) := by decide +kernel
theorem dX6_begin_9 : decode cX6_begin 9 = .ok (.istore 5, 2) := by decide +kernel
theorem dX6_begin_11 : decode cX6_begin 11 = .ok (.iload 5, 2) := by decide +kernel
theorem dX6_begin_13 : decode cX6_begin 13 = .ok (.aload_n 1, 1) := by decide +kernel
theorem dX6_begin_14 : decode cX6_begin 14 = .ok (.getfield 42, 3) := by decide +kernel
theorem tw_833 : (.fieldLink RX6 42 "PocketCompiler$Program" "wordCount" "I" : Cond) ∈ tw_W := tw_in (t8_1 (List.mem_of_getElem? (i := 146) rfl)) rfl
theorem dX6_begin_17 : decode cX6_begin 17 = .ok (.if_icmp .ge 23, 3) := by decide +kernel
theorem dX6_begin_40 : decode cX6_begin 40 = .ok (.iconst 4, 1) := by decide +kernel
theorem dX6_begin_41 : decode cX6_begin 41 = .ok (.aload_n 0, 1) := by decide +kernel
theorem dX6_begin_42 : decode cX6_begin 42 = .ok (.getfield 18, 3) := by decide +kernel
theorem dX6_begin_45 : decode cX6_begin 45 = .ok (.arraylength, 1) := by decide +kernel
theorem dX6_begin_46 : decode cX6_begin 46 = .ok (.imul, 1) := by decide +kernel
theorem dX6_begin_47 : decode cX6_begin 47 = .ok (.iconst 4, 1) := by decide +kernel
theorem dX6_begin_48 : decode cX6_begin 48 = .ok (.isub, 1) := by decide +kernel
theorem dX6_begin_49 : decode cX6_begin 49 = .ok (.istore 5, 2) := by decide +kernel
theorem dX6_begin_51 : decode cX6_begin 51 = .ok (.aload_n 0, 1) := by decide +kernel
theorem dX6_begin_52 : decode cX6_begin 52 = .ok (.iload 5, 2) := by decide +kernel
theorem dX6_begin_54 : decode cX6_begin 54 = .ok (.iload_n 3, 1) := by decide +kernel
theorem dX6_begin_55 : decode cX6_begin 55 = .ok (.invokevirtual 51, 3) := by decide +kernel
theorem dX6_begin_58 : decode cX6_begin 58 = .ok (.aload_n 0, 1) := by decide +kernel
theorem dX6_begin_59 : decode cX6_begin 59 = .ok (.iload 5, 2) := by decide +kernel
theorem dX6_begin_61 : decode cX6_begin 61 = .ok (.iconst 4, 1) := by decide +kernel
theorem dX6_begin_62 : decode cX6_begin 62 = .ok (.isub, 1) := by decide +kernel
theorem dX6_begin_63 : decode cX6_begin 63 = .ok (.iload 4, 2) := by decide +kernel
theorem dX6_begin_65 : decode cX6_begin 65 = .ok (.invokevirtual 51, 3) := by decide +kernel
theorem dX6_begin_68 : decode cX6_begin 68 = .ok (.aload_n 0, 1) := by decide +kernel
theorem dX6_begin_69 : decode cX6_begin 69 = .ok (.getfield 9, 3) := by decide +kernel
theorem dX6_begin_72 : decode cX6_begin 72 = .ok (.iconst 0, 1) := by decide +kernel
theorem dX6_begin_73 : decode cX6_begin 73 = .ok (.invokestatic 36, 3) := by decide +kernel
theorem dX6_begin_76 : decode cX6_begin 76 = .ok (.aload_n 0, 1) := by decide +kernel
theorem dX6_begin_77 : decode cX6_begin 77 = .ok (.iconst 5, 1) := by decide +kernel
theorem dX6_begin_78 : decode cX6_begin 78 = .ok (.iload 5, 2) := by decide +kernel
theorem dX6_begin_80 : decode cX6_begin 80 = .ok (.invokevirtual 29, 3) := by decide +kernel
theorem dX6_begin_83 : decode cX6_begin 83 = .ok (.aload_n 0, 1) := by decide +kernel
theorem dX6_begin_84 : decode cX6_begin 84 = .ok (.iconst 2, 1) := by decide +kernel
theorem dX6_begin_85 : decode cX6_begin 85 = .ok (.iload 5, 2) := by decide +kernel
theorem dX6_begin_87 : decode cX6_begin 87 = .ok (.iconst 4, 1) := by decide +kernel
theorem dX6_begin_88 : decode cX6_begin 88 = .ok (.isub, 1) := by decide +kernel
theorem dX6_begin_89 : decode cX6_begin 89 = .ok (.invokevirtual 29, 3) := by decide +kernel
theorem dX6_begin_92 : decode cX6_begin 92 = .ok (.aload_n 0, 1) := by decide +kernel
theorem dX6_begin_93 : decode cX6_begin 93 = .ok (.iload_n 2, 1) := by decide +kernel
theorem dX6_begin_94 : decode cX6_begin 94 = .ok (.putfield 25, 3) := by decide +kernel
theorem dX6_begin_97 : decode cX6_begin 97 = .ok (.aload_n 0, 1) := by decide +kernel
theorem dX6_begin_98 : decode cX6_begin 98 = .ok (.iconst 0, 1) := by decide +kernel
theorem dX6_begin_99 : decode cX6_begin 99 = .ok (.putfield 33, 3) := by decide +kernel
theorem dX6_begin_102 : decode cX6_begin 102 = .ok (.aload_n 0, 1) := by decide +kernel
theorem dX6_begin_103 : decode cX6_begin 103 = .ok (.iconst 0, 1) := by decide +kernel
theorem dX6_begin_104 : decode cX6_begin 104 = .ok (.putfield 54, 3) := by decide +kernel
theorem dX6_begin_107 : decode cX6_begin 107 = .ok (.aload_n 0, 1) := by decide +kernel
theorem dX6_begin_108 : decode cX6_begin 108 = .ok (.iconst 0, 1) := by decide +kernel
theorem dX6_begin_109 : decode cX6_begin 109 = .ok (.putfield 57, 3) := by decide +kernel
theorem dX6_begin_112 : decode cX6_begin 112 = .ok (.aload_n 0, 1) := by decide +kernel
theorem dX6_begin_113 : decode cX6_begin 113 = .ok (.getfield 21, 3) := by decide +kernel
theorem dX6_begin_116 : decode cX6_begin 116 = .ok (.invokevirtual 60, 3) := by decide +kernel
theorem tw_834 : (.code yX3_beginAnew cX3_beginAnew 1 none : Cond) ∈ tw_W := tw_in (t8_6 (List.mem_of_getElem? (i := 30) rfl)) rfl
theorem tw_835 : ∀ w ∈ ([.methodLink RX6 60 yX3_beginAnew, .instanceMethod yX3_beginAnew, .selects RX3 yX3_beginAnew yX3_beginAnew, .initialized RX3] : List Cond), w ∈ tw_W := al_c (tw_in (t8_6 (List.mem_of_getElem? (i := 27) rfl)) rfl) (al_c (tw_in (t8_6 (List.mem_of_getElem? (i := 28) rfl)) rfl) (al_c (tw_in (t8_6 (List.mem_of_getElem? (i := 29) rfl)) rfl) (al_c (tw_in (t8_1 (List.mem_of_getElem? (i := 2) rfl)) rfl) al_n)))
theorem dX6_begin_119 : decode cX6_begin 119 = .ok (.return_, 1) := by decide +kernel
theorem dX6_begin_20 : decode cX6_begin 20 = .ok (.aload_n 0, 1) := by decide +kernel
theorem dX6_begin_21 : decode cX6_begin 21 = .ok (.iconst 4, 1) := by decide +kernel
theorem dX6_begin_22 : decode cX6_begin 22 = .ok (.iload 5, 2) := by decide +kernel
theorem dX6_begin_24 : decode cX6_begin 24 = .ok (.imul, 1) := by decide +kernel
theorem dX6_begin_25 : decode cX6_begin 25 = .ok (.aload_n 1, 1) := by decide +kernel
theorem dX6_begin_26 : decode cX6_begin 26 = .ok (.iload 5, 2) := by decide +kernel
theorem dX6_begin_28 : decode cX6_begin 28 = .ok (.invokevirtual 47, 3) := by decide +kernel
theorem tw_836 : (.code yX7_wordAt cX7_wordAt 2 (some .int) : Cond) ∈ tw_W := tw_in (t8_6 (List.mem_of_getElem? (i := 18) rfl)) rfl
theorem tw_837 : ∀ w ∈ ([.methodLink RX6 47 yX7_wordAt, .instanceMethod yX7_wordAt, .selects RX7 yX7_wordAt yX7_wordAt, .initialized RX7] : List Cond), w ∈ tw_W := al_c (tw_in (t8_6 (List.mem_of_getElem? (i := 15) rfl)) rfl) (al_c (tw_in (t8_6 (List.mem_of_getElem? (i := 16) rfl)) rfl) (al_c (tw_in (t8_6 (List.mem_of_getElem? (i := 17) rfl)) rfl) (al_c (tw_in (t8_1 (List.mem_of_getElem? (i := 8) rfl)) rfl) al_n)))
theorem dX6_begin_31 : decode cX6_begin 31 = .ok (.invokevirtual 51, 3) := by decide +kernel
theorem dX6_begin_34 : decode cX6_begin 34 = .ok (.iinc 5 1, 3) := by decide +kernel
theorem dX6_begin_37 : decode cX6_begin 37 = .ok (.goto (-26), 3) := by decide +kernel
theorem dX6_ticks_0 : decode cX6_ticks 0 = .ok (.aload_n 0, 1) := by decide +kernel
theorem dX6_ticks_1 : decode cX6_ticks 1 = .ok (.getfield 54, 3) := by decide +kernel
theorem dX6_ticks_4 : decode cX6_ticks 4 = .ok (.istore_n 2, 1) := by decide +kernel
theorem dX6_ticks_5 : decode cX6_ticks 5 = .ok (.iconst 0, 1) := by decide +kernel
theorem dX6_ticks_6 : decode cX6_ticks 6 = .ok (.istore_n 3, 1) := by decide +kernel
theorem dX6_ticks_7 : decode cX6_ticks 7 = .ok (.iload_n 3, 1) := by decide +kernel
theorem dX6_ticks_8 : decode cX6_ticks 8 = .ok (.iload_n 1, 1) := by decide +kernel
theorem dX6_ticks_9 : decode cX6_ticks 9 = .ok (.if_icmp .ge 20, 3) := by decide +kernel
theorem dX6_ticks_29 : decode cX6_ticks 29 = .ok (.aload_n 0, 1) := by decide +kernel
theorem dX6_ticks_30 : decode cX6_ticks 30 = .ok (.getfield 54, 3) := by decide +kernel
theorem dX6_ticks_33 : decode cX6_ticks 33 = .ok (.iload_n 2, 1) := by decide +kernel
theorem dX6_ticks_34 : decode cX6_ticks 34 = .ok (.isub, 1) := by decide +kernel
theorem dX6_ticks_35 : decode cX6_ticks 35 = .ok (.ireturn, 1) := by decide +kernel
theorem dX6_ticks_12 : decode cX6_ticks 12 = .ok (.aload_n 0, 1) := by decide +kernel
theorem dX6_ticks_13 : decode cX6_ticks 13 = .ok (.getfield 33, 3) := by decide +kernel
theorem dX6_ticks_16 : decode cX6_ticks 16 = .ok (.ifCond .ne 13, 3) := by decide +kernel
theorem dX6_ticks_19 : decode cX6_ticks 19 = .ok (.aload_n 0, 1) := by decide +kernel
theorem dX6_ticks_20 : decode cX6_ticks 20 = .ok (.invokevirtual 65, 3) := by decide +kernel
theorem tw_838 : (.code yX6_tick cX6_tick 3 none : Cond) ∈ tw_W := tw_in (t8_6 (List.mem_of_getElem? (i := 38) rfl)) rfl
theorem tw_839 : ∀ w ∈ ([.methodLink RX6 65 yX6_tick, .instanceMethod yX6_tick, .selects RX6 yX6_tick yX6_tick, .initialized RX6] : List Cond), w ∈ tw_W := al_c (tw_in (t8_8 (List.mem_of_getElem? (i := 78) rfl)) rfl) (al_c (tw_in (t8_6 (List.mem_of_getElem? (i := 36) rfl)) rfl) (al_c (tw_in (t8_6 (List.mem_of_getElem? (i := 37) rfl)) rfl) (al_c (tw_in (t8_1 (List.mem_of_getElem? (i := 14) rfl)) rfl) al_n)))
theorem dX6_ticks_23 : decode cX6_ticks 23 = .ok (.iinc 3 1, 3) := by decide +kernel
theorem dX6_ticks_26 : decode cX6_ticks 26 = .ok (.goto (-19), 3) := by decide +kernel
theorem om_586c60cc4e {x0 x1 x2 : Int} (h0 : x0 = x1) (h1 : x2 = x0) : x1 ≤ x2 ∧ x2 ≤ x1 + 1 := by omega
theorem om_924eb6d0c2 {x0 : Int} (h0 : 0 ≤ x0 ∧ x0 + 1 ≤ 200000000) : (x0) + (1 : Int) < 2147483648 := by omega
theorem om_83c5bf599a {x0 : Int} (h0 : 0 ≤ x0 ∧ x0 + 1 ≤ 200000000) : 0 ≤ x0 := by omega
theorem om_a4d0a65086 {x0 : Int} (h0 : 0 ≤ x0 ∧ x0 + 1 ≤ 200000000) : -2147483648 ≤ (x0) + (1 : Int) := by omega
set_option maxHeartbeats 4000000 in
set_option maxRecDepth 100000 in
theorem c_x_X6_service (l : Launch) (dC : Nat → ClassId) (dI : Nat → Nat → Nat) (cI cB cZ cJ cR : ClassId) (tb : Nat → Nat) (sz : Nat) (ad : Nat → Nat) (pr : Int32 → Nat) (N : Nat) (L1 L2 : List Nat) (v : MS)  (z344 : 0 ≤ (v.1 0 344).toInt ∧ (v.1 0 344).toInt ≤ 64) (zq : 0 ≤ (v.1 0 353).toInt ∧ (v.1 0 353).toInt + 1 ≤ 200000000) : Met l yX6_service (Cond.code yX6_service cX6_service 2 none :: tw_W) ({ frames := 2, cells := 0, slots := 0, locals := 41 }) (pc_ (dC, dI) (tyS cI cB cZ cJ cR) tb (cW ad pr N cI cR L1 L2 v) sz [.ref (ad 906)]) (qv_ (dC, dI) (cW ad pr N cI cR L1 L2 v) sz (fun (u : MS) => FC [345, 353] [0, 347, 352] v u ∧ ((v.1 0 353).toInt ≤ (u.1 0 353).toInt ∧ (u.1 0 353).toInt ≤ (v.1 0 353).toInt + 1) ∧ (RS0 v u)) (fun (u : MS) => (cW ad pr N cI cR L1 L2 u))) 0 0 (va_A (cW ad pr N cI cR L1 L2 v) sz) := by
  refine Met.ofW (cc := cX6_service) (maxL := 2) (ret := none) (by decide) rfl ?_
  intro p e s m args below meth c s₁ B hml hv
  obtain ⟨rfl, hsz, hP, hKK, hD0, hFx⟩ := hv
  have hK := hKK.1
  have hx := B.exec
  have hb := B.bytes
  have hr := B.returns
  have ht : ∀ w ∈ tw_W, w.before _ s = true := fun w h => atoms_spec (ws := Cond.code yX6_service cX6_service 2 none :: tw_W) B.pre w (List.mem_cons_of_mem _ h)
  have hown : s.vm.findClass RX6 = some m.cls := findClass_of_methodNamed B.named
  have hlocks := B.notSynchronized
  subst hsz
  unfold qv_
  have hD := hD0.self (sz := s.heap.size)
  generalize hAe : va_A (cW ad pr N cI cR L1 L2 v) s.heap.size = A at hD hFx ⊢
  have hA : ∀ q : Nat, s.heap.size ≤ q → A q := fun q h => by rw [← hAe]; exact Or.inr h
  have hS : va_S A s.heap s.heap [] := va_S.rf
  have hl := lv_entry ([.ref (ad 906)]) (n := 2) (Nat.le_of_ble_eq_true rfl)
  rw [lg_entry_eq]
  generalize (lg_sl ([.ref (ad 906)]) ++ List.replicate (2 - (lg_sl ([.ref (ad 906)])).length) Slot.unset).toArray = ls at hl ⊢
  have hl : lv_has ls 2 [(0, .ref (ad 906))] := hl
  refine lv_aload_n hx hb dX6_service_0 rfl (lv_at hl 0 rfl) ?_
  refine lv_bipush (v := 17) hx hb dX6_service_1 (by decide) ?_
  refine cu_i (rn_Vk (n := 1) (As := [.int 17]) (rest := []) hx hb hml hown ht hKK hFx hP hD hS hA (c_x_X6_valueOf l dC dI cI cB cZ cJ cR tb s.heap.size ad pr N L1 L2 v (17 : Int32) ) tw_798 tw_799 (by decide +kernel) rfl rfl ⟨Nat.le_of_ble_eq_true rfl, Nat.le_of_ble_eq_true rfl⟩ (List.range (cW ad pr N cI cR L1 L2 v).length) (rg_map _) (nd_range _) 6 rfl rfl rfl rfl hl.1 rfl (Nat.le_of_ble_eq_true rfl) dX6_service_3 ⟨Nat.le_of_ble_eq_true rfl, Nat.le_of_ble_eq_true rfl⟩) hP hD hS hA (fun r3 u2 H locs hw1 hP hD hS => ?_)
  obtain rfl := hw1
  refine W.widen (k := 0) (n := 0) (Nat.le_refl _) (Nat.le_refl _) ?_
  refine lv_istore_n (lv' := [(1, .int r3), (0, .ref (ad 906))]) hx hb dX6_service_6 rfl hl (by decide) rfl (fun ls hl => ?_)
  refine lv_iload_n hx hb dX6_service_7 rfl (lv_at hl 0 rfl) ?_
  refine lv_iconst (v := 1) hx hb dX6_service_8 (by decide) ?_
  refine lv_icmp_ne (tgt := 50) hx hb dX6_service_9 (by decide) (fun h4 => ?_) (fun h4 => ?_)
  · have z5 : r3.toInt ≠ (1 : Int) := ne_z rfl (show (1 : Int32).toInt = (1 : Int) by decide) h4
    refine lv_iload_n hx hb dX6_service_50 rfl (lv_at hl 0 rfl) ?_
    refine lv_iconst (v := 2) hx hb dX6_service_51 (by decide) ?_
    refine lv_icmp_ne (tgt := 68) hx hb dX6_service_52 (by decide) (fun h6 => ?_) (fun h6 => ?_)
    · have z7 : r3.toInt ≠ (2 : Int) := ne_z rfl (show (2 : Int32).toInt = (2 : Int) by decide) h6
      exact W.vret hx hb hr (fun t ht9 hW => ⟨⟨v, rfl, ⟨(FC.rf _), (show (v.1 0 353).toInt ≤ (v.1 0 353).toInt ∧ (v.1 0 353).toInt ≤ (v.1 0 353).toInt + 1 from om_b79dd2a91d), RS0.rf⟩, by rw [ht9]; exact hP, hD⟩, hS.F ht9⟩) hS.2.2 dX6_service_68
    · have z8 : r3.toInt = (2 : Int) := eq_z rfl (show (2 : Int32).toInt = (2 : Int) by decide) h6
      refine lv_aload_n hx hb dX6_service_55 rfl (lv_at hl 1 rfl) ?_
      refine lv_bipush (v := 10) hx hb dX6_service_56 (by decide) ?_
      refine lv_aload_n hx hb dX6_service_58 rfl (lv_at hl 1 rfl) ?_
      refine va_get (D := (dC, dI)) (ci := 9) (fs := oF_X6 ad pr v) (v := .ref (ad 905)) (C := RX6) (T := TX6) (N := 9) hx hb ht itX6 hown hK hP 6 rfl rfl 8 (by decide) (ht _ tw_800) (fun _ h9 => h9) rfl dX6_service_59 ?_
      refine cu_i (rn_Vk (n := 0) (As := []) (rest := [.int 10, .ref (ad 906)]) hx hb hml hown ht hKK hFx hP hD hS hA (c_x_X3_next l dC dI cI cB cZ cJ cR tb H.size ad pr N L1 L2 v  (show 0 ≤ (v.1 0 344).toInt ∧ (v.1 0 344).toInt ≤ 64 from (om_0522002ca7 z344))) tw_801 tw_802 (by decide +kernel) rfl rfl ⟨Nat.le_of_ble_eq_true rfl, Nat.le_of_ble_eq_true rfl⟩ (List.range (cW ad pr N cI cR L1 L2 v).length) (rg_map _) (nd_range _) 5 rfl rfl rfl rfl hl.1 rfl (Nat.le_of_ble_eq_true rfl) dX6_service_62 ⟨Nat.le_of_ble_eq_true rfl, Nat.le_of_ble_eq_true rfl⟩) hP hD hS hA (fun r11 u10 H locs hw9 hP hD hS => ?_)
      obtain ⟨fr9, rs9⟩ := hw9
      refine W.widen (k := 0) (n := 0) (Nat.le_refl _) (Nat.le_refl _) ?_
      refine cu_v (rn_Vk (n := 2) (As := [.int 10, .int r11]) (rest := []) hx hb hml hown ht hKK hFx hP hD hS hA (c_x_X6_write l dC dI cI cB cZ cJ cR tb H.size ad pr N L1 L2 u10 (10 : Int32) r11 ) tw_776 tw_777 (by decide +kernel) rfl rfl ⟨Nat.le_of_ble_eq_true rfl, Nat.le_of_ble_eq_true rfl⟩ (List.range (cW ad pr N cI cR L1 L2 u10).length) (rg_map _) (nd_range _) 6 rfl rfl rfl rfl hl.1 rfl (Nat.le_of_ble_eq_true rfl) dX6_service_65 ⟨Nat.le_of_ble_eq_true rfl, Nat.le_of_ble_eq_true rfl⟩) hP hD hS hA (fun u13 H locs hw12 hP hD hS => ?_)
      obtain ⟨fr12, rs12⟩ := hw12
      have rs12 : RS0 u10 u13 := rs12
      refine W.widen (k := 0) (n := 0) (Nat.le_refl _) (Nat.le_refl _) ?_
      have q15 : (u10.1 0 353).toInt = (v.1 0 353).toInt := congrArg Int32.toInt ((fr9.2.1 353 (by decide)).trans (show v.1 0 353 = (v.1 0 353) by rfl))
      have q16 : (u13.1 0 353).toInt = (u10.1 0 353).toInt := congrArg Int32.toInt ((fr12.2.1 353 (by decide)).trans (show u10.1 0 353 = (u10.1 0 353) by rfl))
      exact W.vret hx hb hr (fun t ht9 hW => ⟨⟨u13, rfl, ⟨(FC.tr (FC.tr (FC.rf _) (FC.up fr9 (by decide) (by decide))) (FC.up fr12 (by decide) (by decide))), (show (v.1 0 353).toInt ≤ (u13.1 0 353).toInt ∧ (u13.1 0 353).toInt ≤ (v.1 0 353).toInt + 1 from (om_586c60cc4e q15 q16)), (RS0.tr (RS0.tr RS0.rf rs9) rs12)⟩, by rw [ht9]; exact hP, hD⟩, hS.F ht9⟩) hS.2.2 dX6_service_68
  · have z17 : r3.toInt = (1 : Int) := eq_z rfl (show (1 : Int32).toInt = (1 : Int) by decide) h4
    refine lv_aload_n hx hb dX6_service_12 rfl (lv_at hl 1 rfl) ?_
    refine va_get (D := (dC, dI)) (ci := 9) (fs := oF_X6 ad pr v) (v := .int (v.1 0 353)) (C := RX6) (T := TX6) (N := 9) hx hb ht itX6 hown hK hP 6 rfl rfl 7 (by decide) (ht _ tw_803) (fun _ h9 => h9) rfl dX6_service_13 ?_
    refine lv_sipush (v := 200) hx hb dX6_service_16 (by decide) ?_
    refine lv_icmp_ge (tgt := 37) hx hb dX6_service_19 (by decide) (fun h18 => ?_) (fun h18 => ?_)
    · have z19 : (200 : Int) ≤ (v.1 0 353).toInt := le_z (show (200 : Int32).toInt = (200 : Int) by decide) rfl h18
      refine lv_aload_n hx hb dX6_service_37 rfl (lv_at hl 1 rfl) ?_
      refine lv_dup hx hb dX6_service_38 rfl ?_
      refine va_get (D := (dC, dI)) (ci := 9) (fs := oF_X6 ad pr v) (v := .int (v.1 0 353)) (C := RX6) (T := TX6) (N := 9) hx hb ht itX6 hown hK hP 6 rfl rfl 7 (by decide) (ht _ tw_803) (fun _ h9 => h9) rfl dX6_service_39 ?_
      refine lv_iconst (v := 1) hx hb dX6_service_42 (by decide) ?_
      refine lv_iadd hx hb dX6_service_43 ?_
      have z20 : ((v.1 0 353) + (1 : Int32)).toInt = ((v.1 0 353).toInt) + (1 : Int) := add_z rfl (show (1 : Int32).toInt = (1 : Int) by decide) (om_b65f4561e5 z19) (om_924eb6d0c2 zq)
      refine va_put (D := (dC, dI)) (ci := 9) (fs := oF_X6 ad pr v) (v := .int ((v.1 0 353) + (1 : Int32))) (ty := .int) (C := RX6) (T := TX6) (N := 9) hx hb ht itX6 tyX6 tyX6_ok nmX6 hown hK hP hD hS 6 rfl rfl 7 (by decide) (ht _ tw_803) (fun _ h9 => h9) rfl (by decide +kernel) rfl rfl (Nat.le_of_ble_eq_true rfl) dX6_service_44 (fun H locs hP hD hS => ?_)
      have hP := cP_ (cw_353 ad pr N cI cR L1 L2 v ((v.1 0 353) + (1 : Int32))) hP
      have hD := cD_ (cw_353 ad pr N cI cR L1 L2 v ((v.1 0 353) + (1 : Int32))) hD
      refine lv_goto (tgt := 68) hx hb dX6_service_47 (by decide) ?_
      exact W.vret hx hb hr (fun t ht9 hW => ⟨⟨(wA v 0 353 ((v.1 0 353) + (1 : Int32))), rfl, ⟨(FC.f (FC.rf _) ((v.1 0 353) + (1 : Int32)) (by decide)), (show (v.1 0 353).toInt ≤ ((v.1 0 353) + (1 : Int32)).toInt ∧ ((v.1 0 353) + (1 : Int32)).toInt ≤ (v.1 0 353).toInt + 1 from (om_18ed0e1cae z20)), (RS0.w RS0.rf (by decide))⟩, by rw [ht9]; exact hP, hD⟩, hS.F ht9⟩) hS.2.2 dX6_service_68
    · have z21 : (v.1 0 353).toInt < (200 : Int) := nle_z (show (200 : Int32).toInt = (200 : Int) by decide) rfl h18
      refine lv_aload_n hx hb dX6_service_22 rfl (lv_at hl 1 rfl) ?_
      refine va_get (D := (dC, dI)) (ci := 9) (fs := oF_X6 ad pr v) (v := .ref (ad 352)) (C := RX6) (T := TX6) (N := 9) hx hb ht itX6 hown hK hP 6 rfl rfl 6 (by decide) (ht _ tw_804) (fun _ h9 => h9) rfl dX6_service_23 ?_
      refine lv_aload_n hx hb dX6_service_26 rfl (lv_at hl 1 rfl) ?_
      refine va_get (D := (dC, dI)) (ci := 9) (fs := oF_X6 ad pr v) (v := .int (v.1 0 353)) (C := RX6) (T := TX6) (N := 9) hx hb ht itX6 hown hK hP 6 rfl rfl 7 (by decide) (ht _ tw_803) (fun _ h9 => h9) rfl dX6_service_27 ?_
      refine lv_aload_n hx hb dX6_service_30 rfl (lv_at hl 1 rfl) ?_
      refine lv_bipush (v := 10) hx hb dX6_service_31 (by decide) ?_
      refine cu_i (rn_Vk (n := 1) (As := [.int 10]) (rest := [.int (v.1 0 353), .ref (ad 352)]) hx hb hml hown ht hKK hFx hP hD hS hA (c_x_X6_valueOf l dC dI cI cB cZ cJ cR tb H.size ad pr N L1 L2 v (10 : Int32) ) tw_798 tw_799 (by decide +kernel) rfl rfl ⟨Nat.le_of_ble_eq_true rfl, Nat.le_of_ble_eq_true rfl⟩ (List.range (cW ad pr N cI cR L1 L2 v).length) (rg_map _) (nd_range _) 6 rfl rfl rfl rfl hl.1 rfl (Nat.le_of_ble_eq_true rfl) dX6_service_33 ⟨Nat.le_of_ble_eq_true rfl, Nat.le_of_ble_eq_true rfl⟩) hP hD hS hA (fun r24 u23 H locs hw22 hP hD hS => ?_)
      obtain rfl := hw22
      refine W.widen (k := 0) (n := 0) (Nat.le_refl _) (Nat.le_refl _) ?_
      refine va_iast (D := (dC, dI)) (f := (v.1 352)) hx hb hK hP hD hS 24 0 rfl rfl (in_y (a := (v.1 0 353).toInt) (b := 200) rfl (om_83c5bf599a zq) (om_2a12793f64 z21) rfl) dX6_service_36 (fun H locs hP hD hS => ?_)
      have hP := cP_ (cq_352 ad pr N cI cR L1 L2 v ((v.1 0 353).toNatClampNeg) r24) hP
      have hD := cD_ (cq_352 ad pr N cI cR L1 L2 v ((v.1 0 353).toNatClampNeg) r24) hD
      refine lv_aload_n hx hb dX6_service_37 rfl (lv_at hl 1 rfl) ?_
      refine lv_dup hx hb dX6_service_38 rfl ?_
      refine va_get (D := (dC, dI)) (ci := 9) (fs := oF_X6 ad pr (wA v 352 ((v.1 0 353).toNatClampNeg) r24)) (v := .int (v.1 0 353)) (C := RX6) (T := TX6) (N := 9) hx hb ht itX6 hown hK hP 6 rfl rfl 7 (by decide) (ht _ tw_803) (fun _ h9 => h9) rfl dX6_service_39 ?_
      refine lv_iconst (v := 1) hx hb dX6_service_42 (by decide) ?_
      refine lv_iadd hx hb dX6_service_43 ?_
      have z25 : ((v.1 0 353) + (1 : Int32)).toInt = ((v.1 0 353).toInt) + (1 : Int) := add_z rfl (show (1 : Int32).toInt = (1 : Int) by decide) (om_a4d0a65086 zq) (om_924eb6d0c2 zq)
      refine va_put (D := (dC, dI)) (ci := 9) (fs := oF_X6 ad pr (wA v 352 ((v.1 0 353).toNatClampNeg) r24)) (v := .int ((v.1 0 353) + (1 : Int32))) (ty := .int) (C := RX6) (T := TX6) (N := 9) hx hb ht itX6 tyX6 tyX6_ok nmX6 hown hK hP hD hS 6 rfl rfl 7 (by decide) (ht _ tw_803) (fun _ h9 => h9) rfl (by decide +kernel) rfl rfl (Nat.le_of_ble_eq_true rfl) dX6_service_44 (fun H locs hP hD hS => ?_)
      have hP := cP_ (cw_353 ad pr N cI cR L1 L2 (wA v 352 ((v.1 0 353).toNatClampNeg) r24) ((v.1 0 353) + (1 : Int32))) hP
      have hD := cD_ (cw_353 ad pr N cI cR L1 L2 (wA v 352 ((v.1 0 353).toNatClampNeg) r24) ((v.1 0 353) + (1 : Int32))) hD
      refine lv_goto (tgt := 68) hx hb dX6_service_47 (by decide) ?_
      exact W.vret hx hb hr (fun t ht9 hW => ⟨⟨(wA (wA v 352 ((v.1 0 353).toNatClampNeg) r24) 0 353 ((v.1 0 353) + (1 : Int32))), rfl, ⟨(FC.f (FC.a (FC.rf _) ((v.1 0 353).toNatClampNeg) r24 (by decide) (by decide)) ((v.1 0 353) + (1 : Int32)) (by decide)), (show (v.1 0 353).toInt ≤ ((v.1 0 353) + (1 : Int32)).toInt ∧ ((v.1 0 353) + (1 : Int32)).toInt ≤ (v.1 0 353).toInt + 1 from (om_18ed0e1cae z25)), (RS0.w (RS0.w RS0.rf (by decide)) (by decide))⟩, by rw [ht9]; exact hP, hD⟩, hS.F ht9⟩) hS.2.2 dX6_service_68
theorem om_6decde4407 {x0 : Int} (h0 : 0 ≤ x0 ∧ x0 + 1 ≤ 200000000) : 0 ≤ x0 ∧ x0 + 1 ≤ 200000000 := by omega
set_option maxHeartbeats 4000000 in
set_option maxRecDepth 100000 in
theorem c_x_X6_perform (l : Launch) (dC : Nat → ClassId) (dI : Nat → Nat → Nat) (cI cB cZ cJ cR : ClassId) (tb : Nat → Nat) (sz : Nat) (ad : Nat → Nat) (pr : Int32 → Nat) (N : Nat) (L1 L2 : List Nat) (v : MS) (pa : Int32) (pb : Int32) (z344 : 0 ≤ (v.1 0 344).toInt ∧ (v.1 0 344).toInt ≤ 64) (zNN : (N : Int) ≤ 4096) (zq : 0 ≤ (v.1 0 353).toInt ∧ (v.1 0 353).toInt + 1 ≤ 200000000) : Met l yX6_perform (Cond.code yX6_perform cX6_perform 7 none :: tw_W) ({ frames := 4, cells := 0, slots := 0, locals := 85 }) (pc_ (dC, dI) (tyS cI cB cZ cJ cR) tb (cW ad pr N cI cR L1 L2 v) sz [.ref (ad 906), .int pa, .int pb]) (qv_ (dC, dI) (cW ad pr N cI cR L1 L2 v) sz (fun (u : MS) => FC [345, 349, 350, 353] [0, 346, 347, 352] v u ∧ ((v.1 0 353).toInt ≤ (u.1 0 353).toInt ∧ (u.1 0 353).toInt ≤ (v.1 0 353).toInt + 1) ∧ (RS0 v u)) (fun (u : MS) => (cW ad pr N cI cR L1 L2 u))) 0 0 (va_A (cW ad pr N cI cR L1 L2 v) sz) := by
  refine Met.ofW (cc := cX6_perform) (maxL := 7) (ret := none) (by decide) rfl ?_
  intro p e s m args below meth c s₁ B hml hv
  obtain ⟨rfl, hsz, hP, hKK, hD0, hFx⟩ := hv
  have hK := hKK.1
  have hx := B.exec
  have hb := B.bytes
  have hr := B.returns
  have ht : ∀ w ∈ tw_W, w.before _ s = true := fun w h => atoms_spec (ws := Cond.code yX6_perform cX6_perform 7 none :: tw_W) B.pre w (List.mem_cons_of_mem _ h)
  have hown : s.vm.findClass RX6 = some m.cls := findClass_of_methodNamed B.named
  have hlocks := B.notSynchronized
  subst hsz
  unfold qv_
  have hD := hD0.self (sz := s.heap.size)
  generalize hAe : va_A (cW ad pr N cI cR L1 L2 v) s.heap.size = A at hD hFx ⊢
  have hA : ∀ q : Nat, s.heap.size ≤ q → A q := fun q h => by rw [← hAe]; exact Or.inr h
  have hS : va_S A s.heap s.heap [] := va_S.rf
  have hl := lv_entry ([.ref (ad 906), .int pa, .int pb]) (n := 7) (Nat.le_of_ble_eq_true rfl)
  rw [lg_entry_eq]
  generalize (lg_sl ([.ref (ad 906), .int pa, .int pb]) ++ List.replicate (7 - (lg_sl ([.ref (ad 906), .int pa, .int pb])).length) Slot.unset).toArray = ls at hl ⊢
  have hl : lv_has ls 7 [(0, .ref (ad 906)), (1, .int pa), (2, .int pb)] := hl
  refine lv_aload_n hx hb dX6_perform_0 rfl (lv_at hl 0 rfl) ?_
  refine lv_iload_n hx hb dX6_perform_1 rfl (lv_at hl 2 rfl) ?_
  refine cu_s (nd_range _) (rn_S (n := 1) (As := [.int pb]) (rest := [.ref (ad 906)]) hx hb hml hown ht hKK hFx hP hD hS hA (c_x_X4_first l dC dI cI cB cZ cJ cR tb s.heap.size pb ) tw_805 tw_806 (by decide +kernel) rfl rfl ⟨Nat.le_of_ble_eq_true rfl, Nat.le_of_ble_eq_true rfl⟩ [] rfl rfl rfl hl.1 rfl (Nat.le_of_ble_eq_true rfl) dX6_perform_2 ⟨Nat.le_of_ble_eq_true rfl, Nat.le_of_ble_eq_true rfl⟩) hP hD hS hA (fun r3 H locs hw1 hP hD hS => ?_)
  refine W.widen (k := 0) (n := 0) (Nat.le_refl _) (Nat.le_refl _) ?_
  refine cu_i (rn_Vk (n := 1) (As := [.int r3]) (rest := []) hx hb hml hown ht hKK hFx hP hD hS hA (c_x_X6_valueOf l dC dI cI cB cZ cJ cR tb H.size ad pr N L1 L2 v r3 ) tw_798 tw_799 (by decide +kernel) rfl rfl ⟨Nat.le_of_ble_eq_true rfl, Nat.le_of_ble_eq_true rfl⟩ (List.range (cW ad pr N cI cR L1 L2 v).length) (rg_map _) (nd_range _) 6 rfl rfl rfl rfl hl.1 rfl (Nat.le_of_ble_eq_true rfl) dX6_perform_5 ⟨Nat.le_of_ble_eq_true rfl, Nat.le_of_ble_eq_true rfl⟩) hP hD hS hA (fun r6 u5 H locs hw4 hP hD hS => ?_)
  obtain rfl := hw4
  refine W.widen (k := 0) (n := 0) (Nat.le_refl _) (Nat.le_refl _) ?_
  refine lv_istore_n (lv' := [(3, .int r6), (0, .ref (ad 906)), (1, .int pa), (2, .int pb)]) hx hb dX6_perform_8 rfl hl (by decide) rfl (fun ls hl => ?_)
  refine lv_aload_n hx hb dX6_perform_9 rfl (lv_at hl 1 rfl) ?_
  refine lv_iload_n hx hb dX6_perform_10 rfl (lv_at hl 3 rfl) ?_
  refine cu_s (nd_range _) (rn_S (n := 1) (As := [.int pb]) (rest := [.ref (ad 906)]) hx hb hml hown ht hKK hFx hP hD hS hA (c_x_X4_second l dC dI cI cB cZ cJ cR tb H.size pb ) tw_769 tw_807 (by decide +kernel) rfl rfl ⟨Nat.le_of_ble_eq_true rfl, Nat.le_of_ble_eq_true rfl⟩ [] rfl rfl rfl hl.1 rfl (Nat.le_of_ble_eq_true rfl) dX6_perform_11 ⟨Nat.le_of_ble_eq_true rfl, Nat.le_of_ble_eq_true rfl⟩) hP hD hS hA (fun r9 H locs hw7 hP hD hS => ?_)
  refine W.widen (k := 0) (n := 0) (Nat.le_refl _) (Nat.le_refl _) ?_
  refine cu_i (rn_Vk (n := 1) (As := [.int r9]) (rest := []) hx hb hml hown ht hKK hFx hP hD hS hA (c_x_X6_valueOf l dC dI cI cB cZ cJ cR tb H.size ad pr N L1 L2 v r9 ) tw_798 tw_799 (by decide +kernel) rfl rfl ⟨Nat.le_of_ble_eq_true rfl, Nat.le_of_ble_eq_true rfl⟩ (List.range (cW ad pr N cI cR L1 L2 v).length) (rg_map _) (nd_range _) 6 rfl rfl rfl rfl hl.1 rfl (Nat.le_of_ble_eq_true rfl) dX6_perform_14 ⟨Nat.le_of_ble_eq_true rfl, Nat.le_of_ble_eq_true rfl⟩) hP hD hS hA (fun r12 u11 H locs hw10 hP hD hS => ?_)
  obtain rfl := hw10
  refine W.widen (k := 0) (n := 0) (Nat.le_refl _) (Nat.le_refl _) ?_
  refine lv_istore (lv' := [(4, .int r12), (3, .int r6), (0, .ref (ad 906)), (1, .int pa), (2, .int pb)]) hx hb dX6_perform_17 hl (by decide) rfl (fun ls hl => ?_)
  refine lv_iload_n hx hb dX6_perform_19 rfl (lv_at hl 4 rfl) ?_
  refine lv_iload_n hx hb dX6_perform_20 rfl (lv_at hl 3 rfl) ?_
  refine cu_s (nd_range _) (rn_S (n := 2) (As := [.int pb, .int pa]) (rest := []) hx hb hml hown ht hKK hFx hP hD hS hA (c_x_X4_number l dC dI cI cB cZ cJ cR tb H.size pb pa ) tw_808 tw_809 (by decide +kernel) rfl rfl ⟨Nat.le_of_ble_eq_true rfl, Nat.le_of_ble_eq_true rfl⟩ [] rfl rfl rfl hl.1 rfl (Nat.le_of_ble_eq_true rfl) dX6_perform_21 ⟨Nat.le_of_ble_eq_true rfl, Nat.le_of_ble_eq_true rfl⟩) hP hD hS hA (fun r15 H locs hw13 hP hD hS => ?_)
  refine W.widen (k := 0) (n := 0) (Nat.le_refl _) (Nat.le_refl _) ?_
  refine lv_istore (lv' := [(5, .int r15), (4, .int r12), (3, .int r6), (0, .ref (ad 906)), (1, .int pa), (2, .int pb)]) hx hb dX6_perform_24 hl (by decide) rfl (fun ls hl => ?_)
  refine lv_iload_n hx hb dX6_perform_26 rfl (lv_at hl 5 rfl) ?_
  refine cu_s (nd_range _) (rn_S (n := 1) (As := [.int pb]) (rest := []) hx hb hml hown ht hKK hFx hP hD hS hA (c_x_X4_target l dC dI cI cB cZ cJ cR tb H.size pb ) tw_810 tw_811 (by decide +kernel) rfl rfl ⟨Nat.le_of_ble_eq_true rfl, Nat.le_of_ble_eq_true rfl⟩ [] rfl rfl rfl hl.1 rfl (Nat.le_of_ble_eq_true rfl) dX6_perform_27 ⟨Nat.le_of_ble_eq_true rfl, Nat.le_of_ble_eq_true rfl⟩) hP hD hS hA (fun r18 H locs hw16 hP hD hS => ?_)
  refine W.widen (k := 0) (n := 0) (Nat.le_refl _) (Nat.le_refl _) ?_
  refine lv_istore (lv' := [(6, .int r18), (5, .int r15), (4, .int r12), (3, .int r6), (0, .ref (ad 906)), (1, .int pa), (2, .int pb)]) hx hb dX6_perform_30 hl (by decide) rfl (fun ls hl => ?_)
  refine lv_iload_n hx hb dX6_perform_32 rfl (lv_at hl 5 rfl) ?_
  refine lv_if_ne (tgt := 47) hx hb dX6_perform_33 (by decide) (fun h19 => ?_) (fun h19 => ?_)
  · have z20 : pa.toInt ≠ (0 : Int) := ne_z rfl (show (0 : Int32).toInt = (0 : Int) by decide) h19
    refine lv_iload_n hx hb dX6_perform_47 rfl (lv_at hl 5 rfl) ?_
    refine lv_iconst (v := 1) hx hb dX6_perform_48 (by decide) ?_
    refine lv_icmp_ne (tgt := 68) hx hb dX6_perform_49 (by decide) (fun h21 => ?_) (fun h21 => ?_)
    · have z22 : pa.toInt ≠ (1 : Int) := ne_z rfl (show (1 : Int32).toInt = (1 : Int) by decide) h21
      refine lv_iload_n hx hb dX6_perform_68 rfl (lv_at hl 5 rfl) ?_
      refine lv_iconst (v := 2) hx hb dX6_perform_69 (by decide) ?_
      refine lv_icmp_ne (tgt := 89) hx hb dX6_perform_70 (by decide) (fun h23 => ?_) (fun h23 => ?_)
      · have z24 : pa.toInt ≠ (2 : Int) := ne_z rfl (show (2 : Int32).toInt = (2 : Int) by decide) h23
        refine lv_iload_n hx hb dX6_perform_89 rfl (lv_at hl 5 rfl) ?_
        refine lv_iconst (v := 3) hx hb dX6_perform_90 (by decide) ?_
        refine lv_icmp_ne (tgt := 110) hx hb dX6_perform_91 (by decide) (fun h25 => ?_) (fun h25 => ?_)
        · have z26 : pa.toInt ≠ (3 : Int) := ne_z rfl (show (3 : Int32).toInt = (3 : Int) by decide) h25
          refine lv_iload_n hx hb dX6_perform_110 rfl (lv_at hl 5 rfl) ?_
          refine lv_bipush (v := 9) hx hb dX6_perform_111 (by decide) ?_
          refine lv_icmp_gt (tgt := 137) hx hb dX6_perform_113 (by decide) (fun h27 => ?_) (fun h27 => ?_)
          · have z28 : (9 : Int) < pa.toInt := lt_z (show (9 : Int32).toInt = (9 : Int) by decide) rfl h27
            refine lv_iload_n hx hb dX6_perform_137 rfl (lv_at hl 5 rfl) ?_
            refine lv_bipush (v := 14) hx hb dX6_perform_138 (by decide) ?_
            refine lv_icmp_gt (tgt := 157) hx hb dX6_perform_140 (by decide) (fun h29 => ?_) (fun h29 => ?_)
            · have z30 : (14 : Int) < pa.toInt := lt_z (show (14 : Int32).toInt = (14 : Int) by decide) rfl h29
              refine lv_iload_n hx hb dX6_perform_157 rfl (lv_at hl 5 rfl) ?_
              refine lv_bipush (v := 17) hx hb dX6_perform_158 (by decide) ?_
              refine lv_icmp_gt (tgt := 177) hx hb dX6_perform_160 (by decide) (fun h31 => ?_) (fun h31 => ?_)
              · have z32 : (17 : Int) < pa.toInt := lt_z (show (17 : Int32).toInt = (17 : Int) by decide) rfl h31
                refine lv_iload_n hx hb dX6_perform_177 rfl (lv_at hl 5 rfl) ?_
                refine lv_bipush (v := 26) hx hb dX6_perform_178 (by decide) ?_
                refine lv_icmp_gt (tgt := 199) hx hb dX6_perform_180 (by decide) (fun h33 => ?_) (fun h33 => ?_)
                · have z34 : (26 : Int) < pa.toInt := lt_z (show (26 : Int32).toInt = (26 : Int) by decide) rfl h33
                  refine lv_iload_n hx hb dX6_perform_199 rfl (lv_at hl 5 rfl) ?_
                  refine lv_bipush (v := 36) hx hb dX6_perform_200 (by decide) ?_
                  refine lv_icmp_gt (tgt := 221) hx hb dX6_perform_202 (by decide) (fun h35 => ?_) (fun h35 => ?_)
                  · have z36 : (36 : Int) < pa.toInt := lt_z (show (36 : Int32).toInt = (36 : Int) by decide) rfl h35
                    refine lv_iload_n hx hb dX6_perform_221 rfl (lv_at hl 5 rfl) ?_
                    refine lv_bipush (v := 38) hx hb dX6_perform_222 (by decide) ?_
                    refine lv_icmp_ne (tgt := 234) hx hb dX6_perform_224 (by decide) (fun h37 => ?_) (fun h37 => ?_)
                    · have z38 : pa.toInt ≠ (38 : Int) := ne_z rfl (show (38 : Int32).toInt = (38 : Int) by decide) h37
                      refine lv_iload_n hx hb dX6_perform_234 rfl (lv_at hl 5 rfl) ?_
                      refine lv_bipush (v := 39) hx hb dX6_perform_235 (by decide) ?_
                      refine lv_icmp_ne (tgt := 248) hx hb dX6_perform_237 (by decide) (fun h39 => ?_) (fun h39 => ?_)
                      · have z40 : pa.toInt ≠ (39 : Int) := ne_z rfl (show (39 : Int32).toInt = (39 : Int) by decide) h39
                        refine lv_iload_n hx hb dX6_perform_248 rfl (lv_at hl 5 rfl) ?_
                        refine lv_bipush (v := 37) hx hb dX6_perform_249 (by decide) ?_
                        refine lv_icmp_eq (tgt := 259) hx hb dX6_perform_251 (by decide) (fun h41 => ?_) (fun h41 => ?_)
                        · have z42 : pa.toInt = (37 : Int) := eq_z rfl (show (37 : Int32).toInt = (37 : Int) by decide) h41
                          exact W.vret hx hb hr (fun t ht9 hW => ⟨⟨v, rfl, ⟨(FC.rf _), (show (v.1 0 353).toInt ≤ (v.1 0 353).toInt ∧ (v.1 0 353).toInt ≤ (v.1 0 353).toInt + 1 from om_b79dd2a91d), RS0.rf⟩, by rw [ht9]; exact hP, hD⟩, hS.F ht9⟩) hS.2.2 dX6_perform_259
                        · have z43 : pa.toInt ≠ (37 : Int) := ne_z rfl (show (37 : Int32).toInt = (37 : Int) by decide) h41
                          refine lv_aload_n hx hb dX6_perform_254 rfl (lv_at hl 4 rfl) ?_
                          refine lv_iconst (v := 2) hx hb dX6_perform_255 (by decide) ?_
                          refine va_put (D := (dC, dI)) (ci := 9) (fs := oF_X6 ad pr v) (v := .int 2) (ty := .int) (C := RX6) (T := TX6) (N := 9) hx hb ht itX6 tyX6 tyX6_ok nmX6 hown hK hP hD hS 6 rfl rfl 4 (by decide) (ht _ tw_778) (fun _ h9 => h9) rfl (by decide +kernel) rfl rfl (Nat.le_of_ble_eq_true rfl) dX6_perform_256 (fun H locs hP hD hS => ?_)
                          have hP := cP_ (cw_350 ad pr N cI cR L1 L2 v 2) hP
                          have hD := cD_ (cw_350 ad pr N cI cR L1 L2 v 2) hD
                          exact W.vret hx hb hr (fun t ht9 hW => ⟨⟨(wA v 0 350 2), rfl, ⟨(FC.f (FC.rf _) 2 (by decide)), (show (v.1 0 353).toInt ≤ (v.1 0 353).toInt ∧ (v.1 0 353).toInt ≤ (v.1 0 353).toInt + 1 from om_b79dd2a91d), (RS0.w RS0.rf (by decide))⟩, by rw [ht9]; exact hP, hD⟩, hS.F ht9⟩) hS.2.2 dX6_perform_259
                      · have z44 : pa.toInt = (39 : Int) := eq_z rfl (show (39 : Int32).toInt = (39 : Int) by decide) h39
                        refine lv_aload_n hx hb dX6_perform_240 rfl (lv_at hl 4 rfl) ?_
                        refine lv_iconst (v := 1) hx hb dX6_perform_241 (by decide) ?_
                        refine va_put (D := (dC, dI)) (ci := 9) (fs := oF_X6 ad pr v) (v := .int 1) (ty := .int) (C := RX6) (T := TX6) (N := 9) hx hb ht itX6 tyX6 tyX6_ok nmX6 hown hK hP hD hS 6 rfl rfl 4 (by decide) (ht _ tw_778) (fun _ h9 => h9) rfl (by decide +kernel) rfl rfl (Nat.le_of_ble_eq_true rfl) dX6_perform_242 (fun H locs hP hD hS => ?_)
                        have hP := cP_ (cw_350 ad pr N cI cR L1 L2 v 1) hP
                        have hD := cD_ (cw_350 ad pr N cI cR L1 L2 v 1) hD
                        refine lv_goto (tgt := 259) hx hb dX6_perform_245 (by decide) ?_
                        exact W.vret hx hb hr (fun t ht9 hW => ⟨⟨(wA v 0 350 1), rfl, ⟨(FC.f (FC.rf _) 1 (by decide)), (show (v.1 0 353).toInt ≤ (v.1 0 353).toInt ∧ (v.1 0 353).toInt ≤ (v.1 0 353).toInt + 1 from om_b79dd2a91d), (RS0.w RS0.rf (by decide))⟩, by rw [ht9]; exact hP, hD⟩, hS.F ht9⟩) hS.2.2 dX6_perform_259
                    · have z45 : pa.toInt = (38 : Int) := eq_z rfl (show (38 : Int32).toInt = (38 : Int) by decide) h37
                      refine lv_aload_n hx hb dX6_perform_227 rfl (lv_at hl 4 rfl) ?_
                      refine cu_v (rn_Vk (n := 0) (As := []) (rest := []) hx hb hml hown ht hKK hFx hP hD hS hA (c_x_X6_service l dC dI cI cB cZ cJ cR tb H.size ad pr N L1 L2 v  (show 0 ≤ (v.1 0 344).toInt ∧ (v.1 0 344).toInt ≤ 64 from (om_0522002ca7 z344)) (show 0 ≤ (v.1 0 353).toInt ∧ (v.1 0 353).toInt + 1 ≤ 200000000 from (om_6decde4407 zq))) tw_812 tw_813 (by decide +kernel) rfl rfl ⟨Nat.le_of_ble_eq_true rfl, Nat.le_of_ble_eq_true rfl⟩ (List.range (cW ad pr N cI cR L1 L2 v).length) (rg_map _) (nd_range _) 6 rfl rfl rfl rfl hl.1 rfl (Nat.le_of_ble_eq_true rfl) dX6_perform_228 ⟨Nat.le_of_ble_eq_true rfl, Nat.le_of_ble_eq_true rfl⟩) hP hD hS hA (fun u47 H locs hw46 hP hD hS => ?_)
                      obtain ⟨fr46, pq46, rs46⟩ := hw46
                      refine W.widen (k := 0) (n := 0) (Nat.le_refl _) (Nat.le_refl _) ?_
                      refine lv_goto (tgt := 259) hx hb dX6_perform_231 (by decide) ?_
                      exact W.vret hx hb hr (fun t ht9 hW => ⟨⟨u47, rfl, ⟨(FC.tr (FC.rf _) (FC.up fr46 (by decide) (by decide))), (show (v.1 0 353).toInt ≤ (u47.1 0 353).toInt ∧ (u47.1 0 353).toInt ≤ (v.1 0 353).toInt + 1 from (om_e79f107f26 pq46)), (RS0.tr RS0.rf rs46)⟩, by rw [ht9]; exact hP, hD⟩, hS.F ht9⟩) hS.2.2 dX6_perform_259
                  · have z49 : pa.toInt ≤ (36 : Int) := nlt_z (show (36 : Int32).toInt = (36 : Int) by decide) rfl h35
                    refine lv_aload_n hx hb dX6_perform_205 rfl (lv_at hl 4 rfl) ?_
                    refine lv_iload hx hb dX6_perform_206 (lv_at hl 0 rfl) ?_
                    refine lv_iload_n hx hb dX6_perform_208 rfl (lv_at hl 5 rfl) ?_
                    refine lv_iload_n hx hb dX6_perform_209 rfl (lv_at hl 3 rfl) ?_
                    refine lv_iload hx hb dX6_perform_210 (lv_at hl 2 rfl) ?_
                    refine cu_s (nd_range _) (rn_S (n := 3) (As := [.int pa, .int r6, .int r12]) (rest := [.int r18, .ref (ad 906)]) hx hb hml hown ht hKK hFx hP hD hS hA (c_x_X6_joined l dC dI cI cB cZ cJ cR tb H.size pa r6 r12 ) tw_814 tw_815 (by decide +kernel) rfl rfl ⟨Nat.le_of_ble_eq_true rfl, Nat.le_of_ble_eq_true rfl⟩ [] rfl rfl rfl hl.1 rfl (Nat.le_of_ble_eq_true rfl) dX6_perform_212 ⟨Nat.le_of_ble_eq_true rfl, Nat.le_of_ble_eq_true rfl⟩) hP hD hS hA (fun r52 H locs hw50 hP hD hS => ?_)
                    refine W.widen (k := 0) (n := 0) (Nat.le_refl _) (Nat.le_refl _) ?_
                    refine cu_v (rn_Vk (n := 2) (As := [.int r18, .int r52]) (rest := []) hx hb hml hown ht hKK hFx hP hD hS hA (c_x_X6_write l dC dI cI cB cZ cJ cR tb H.size ad pr N L1 L2 v r18 r52 ) tw_776 tw_777 (by decide +kernel) rfl rfl ⟨Nat.le_of_ble_eq_true rfl, Nat.le_of_ble_eq_true rfl⟩ (List.range (cW ad pr N cI cR L1 L2 v).length) (rg_map _) (nd_range _) 6 rfl rfl rfl rfl hl.1 rfl (Nat.le_of_ble_eq_true rfl) dX6_perform_215 ⟨Nat.le_of_ble_eq_true rfl, Nat.le_of_ble_eq_true rfl⟩) hP hD hS hA (fun u54 H locs hw53 hP hD hS => ?_)
                    obtain ⟨fr53, rs53⟩ := hw53
                    refine W.widen (k := 0) (n := 0) (Nat.le_refl _) (Nat.le_refl _) ?_
                    refine lv_goto (tgt := 259) hx hb dX6_perform_218 (by decide) ?_
                    have q56 : (u54.1 0 353).toInt = (v.1 0 353).toInt := congrArg Int32.toInt ((fr53.2.1 353 (by decide)).trans (show v.1 0 353 = (v.1 0 353) by rfl))
                    exact W.vret hx hb hr (fun t ht9 hW => ⟨⟨u54, rfl, ⟨(FC.tr (FC.rf _) (FC.up fr53 (by decide) (by decide))), (show (v.1 0 353).toInt ≤ (u54.1 0 353).toInt ∧ (u54.1 0 353).toInt ≤ (v.1 0 353).toInt + 1 from (om_a5ca429bbe q56)), (RS0.tr RS0.rf rs53)⟩, by rw [ht9]; exact hP, hD⟩, hS.F ht9⟩) hS.2.2 dX6_perform_259
                · have z57 : pa.toInt ≤ (26 : Int) := nlt_z (show (26 : Int32).toInt = (26 : Int) by decide) rfl h33
                  refine lv_aload_n hx hb dX6_perform_183 rfl (lv_at hl 4 rfl) ?_
                  refine lv_iload hx hb dX6_perform_184 (lv_at hl 0 rfl) ?_
                  refine lv_iload_n hx hb dX6_perform_186 rfl (lv_at hl 5 rfl) ?_
                  refine lv_iload_n hx hb dX6_perform_187 rfl (lv_at hl 3 rfl) ?_
                  refine lv_iload hx hb dX6_perform_188 (lv_at hl 1 rfl) ?_
                  refine cu_s (nd_range _) (rn_S (n := 3) (As := [.int pa, .int r6, .int r15]) (rest := [.int r18, .ref (ad 906)]) hx hb hml hown ht hKK hFx hP hD hS hA (c_x_X6_numbered l dC dI cI cB cZ cJ cR tb H.size pa r6 r15 ) tw_816 tw_817 (by decide +kernel) rfl rfl ⟨Nat.le_of_ble_eq_true rfl, Nat.le_of_ble_eq_true rfl⟩ [] rfl rfl rfl hl.1 rfl (Nat.le_of_ble_eq_true rfl) dX6_perform_190 ⟨Nat.le_of_ble_eq_true rfl, Nat.le_of_ble_eq_true rfl⟩) hP hD hS hA (fun r60 H locs hw58 hP hD hS => ?_)
                  refine W.widen (k := 0) (n := 0) (Nat.le_refl _) (Nat.le_refl _) ?_
                  refine cu_v (rn_Vk (n := 2) (As := [.int r18, .int r60]) (rest := []) hx hb hml hown ht hKK hFx hP hD hS hA (c_x_X6_write l dC dI cI cB cZ cJ cR tb H.size ad pr N L1 L2 v r18 r60 ) tw_776 tw_777 (by decide +kernel) rfl rfl ⟨Nat.le_of_ble_eq_true rfl, Nat.le_of_ble_eq_true rfl⟩ (List.range (cW ad pr N cI cR L1 L2 v).length) (rg_map _) (nd_range _) 6 rfl rfl rfl rfl hl.1 rfl (Nat.le_of_ble_eq_true rfl) dX6_perform_193 ⟨Nat.le_of_ble_eq_true rfl, Nat.le_of_ble_eq_true rfl⟩) hP hD hS hA (fun u62 H locs hw61 hP hD hS => ?_)
                  obtain ⟨fr61, rs61⟩ := hw61
                  refine W.widen (k := 0) (n := 0) (Nat.le_refl _) (Nat.le_refl _) ?_
                  refine lv_goto (tgt := 259) hx hb dX6_perform_196 (by decide) ?_
                  have q64 : (u62.1 0 353).toInt = (v.1 0 353).toInt := congrArg Int32.toInt ((fr61.2.1 353 (by decide)).trans (show v.1 0 353 = (v.1 0 353) by rfl))
                  exact W.vret hx hb hr (fun t ht9 hW => ⟨⟨u62, rfl, ⟨(FC.tr (FC.rf _) (FC.up fr61 (by decide) (by decide))), (show (v.1 0 353).toInt ≤ (u62.1 0 353).toInt ∧ (u62.1 0 353).toInt ≤ (v.1 0 353).toInt + 1 from (om_a5ca429bbe q64)), (RS0.tr RS0.rf rs61)⟩, by rw [ht9]; exact hP, hD⟩, hS.F ht9⟩) hS.2.2 dX6_perform_259
              · have z65 : pa.toInt ≤ (17 : Int) := nlt_z (show (17 : Int32).toInt = (17 : Int) by decide) rfl h31
                refine lv_aload_n hx hb dX6_perform_163 rfl (lv_at hl 4 rfl) ?_
                refine lv_iload_n hx hb dX6_perform_164 rfl (lv_at hl 5 rfl) ?_
                refine lv_iload hx hb dX6_perform_165 (lv_at hl 2 rfl) ?_
                refine lv_iload_n hx hb dX6_perform_167 rfl (lv_at hl 3 rfl) ?_
                refine lv_iload hx hb dX6_perform_168 (lv_at hl 1 rfl) ?_
                refine lv_iadd hx hb dX6_perform_170 ?_
                refine cu_v (rn_Vk (n := 3) (As := [.int pa, .int r12, .int (r6 + r15)]) (rest := []) hx hb hml hown ht hKK hFx hP hD hS hA (c_x_X6_store l dC dI cI cB cZ cJ cR tb H.size ad pr N L1 L2 v pa r12 (r6 + r15) (show (N : Int) ≤ 4096 from (om_1c2c49c46c zNN))) tw_818 tw_819 (by decide +kernel) rfl rfl ⟨Nat.le_of_ble_eq_true rfl, Nat.le_of_ble_eq_true rfl⟩ (List.range (cW ad pr N cI cR L1 L2 v).length) (rg_map _) (nd_range _) 6 rfl rfl rfl rfl hl.1 rfl (Nat.le_of_ble_eq_true rfl) dX6_perform_171 ⟨Nat.le_of_ble_eq_true rfl, Nat.le_of_ble_eq_true rfl⟩) hP hD hS hA (fun u67 H locs hw66 hP hD hS => ?_)
                obtain ⟨fr66, rs66⟩ := hw66
                refine W.widen (k := 0) (n := 0) (Nat.le_refl _) (Nat.le_refl _) ?_
                refine lv_goto (tgt := 259) hx hb dX6_perform_174 (by decide) ?_
                have q69 : (u67.1 0 353).toInt = (v.1 0 353).toInt := congrArg Int32.toInt ((fr66.2.1 353 (by decide)).trans (show v.1 0 353 = (v.1 0 353) by rfl))
                exact W.vret hx hb hr (fun t ht9 hW => ⟨⟨u67, rfl, ⟨(FC.tr (FC.rf _) (FC.up fr66 (by decide) (by decide))), (show (v.1 0 353).toInt ≤ (u67.1 0 353).toInt ∧ (u67.1 0 353).toInt ≤ (v.1 0 353).toInt + 1 from (om_a5ca429bbe q69)), (RS0.tr RS0.rf rs66)⟩, by rw [ht9]; exact hP, hD⟩, hS.F ht9⟩) hS.2.2 dX6_perform_259
            · have z70 : pa.toInt ≤ (14 : Int) := nlt_z (show (14 : Int32).toInt = (14 : Int) by decide) rfl h29
              refine lv_aload_n hx hb dX6_perform_143 rfl (lv_at hl 4 rfl) ?_
              refine lv_iload_n hx hb dX6_perform_144 rfl (lv_at hl 5 rfl) ?_
              refine lv_iload hx hb dX6_perform_145 (lv_at hl 0 rfl) ?_
              refine lv_iload_n hx hb dX6_perform_147 rfl (lv_at hl 3 rfl) ?_
              refine lv_iload hx hb dX6_perform_148 (lv_at hl 1 rfl) ?_
              refine lv_iadd hx hb dX6_perform_150 ?_
              refine cu_v (rn_Vk (n := 3) (As := [.int pa, .int r18, .int (r6 + r15)]) (rest := []) hx hb hml hown ht hKK hFx hP hD hS hA (c_x_X6_fetch l dC dI cI cB cZ cJ cR tb H.size ad pr N L1 L2 v pa r18 (r6 + r15) (show (N : Int) ≤ 4096 from (om_1c2c49c46c zNN))) tw_820 tw_821 (by decide +kernel) rfl rfl ⟨Nat.le_of_ble_eq_true rfl, Nat.le_of_ble_eq_true rfl⟩ (List.range (cW ad pr N cI cR L1 L2 v).length) (rg_map _) (nd_range _) 6 rfl rfl rfl rfl hl.1 rfl (Nat.le_of_ble_eq_true rfl) dX6_perform_151 ⟨Nat.le_of_ble_eq_true rfl, Nat.le_of_ble_eq_true rfl⟩) hP hD hS hA (fun u72 H locs hw71 hP hD hS => ?_)
              obtain ⟨fr71, rs71⟩ := hw71
              refine W.widen (k := 0) (n := 0) (Nat.le_refl _) (Nat.le_refl _) ?_
              refine lv_goto (tgt := 259) hx hb dX6_perform_154 (by decide) ?_
              have q74 : (u72.1 0 353).toInt = (v.1 0 353).toInt := congrArg Int32.toInt ((fr71.2.1 353 (by decide)).trans (show v.1 0 353 = (v.1 0 353) by rfl))
              exact W.vret hx hb hr (fun t ht9 hW => ⟨⟨u72, rfl, ⟨(FC.tr (FC.rf _) (FC.up fr71 (by decide) (by decide))), (show (v.1 0 353).toInt ≤ (u72.1 0 353).toInt ∧ (u72.1 0 353).toInt ≤ (v.1 0 353).toInt + 1 from (om_a5ca429bbe q74)), (RS0.tr RS0.rf rs71)⟩, by rw [ht9]; exact hP, hD⟩, hS.F ht9⟩) hS.2.2 dX6_perform_259
          · have z75 : pa.toInt ≤ (9 : Int) := nlt_z (show (9 : Int32).toInt = (9 : Int) by decide) rfl h27
            refine lv_aload_n hx hb dX6_perform_116 rfl (lv_at hl 4 rfl) ?_
            refine lv_iload_n hx hb dX6_perform_117 rfl (lv_at hl 5 rfl) ?_
            refine lv_iload_n hx hb dX6_perform_118 rfl (lv_at hl 3 rfl) ?_
            refine lv_iload hx hb dX6_perform_119 (lv_at hl 2 rfl) ?_
            refine cu_s (nd_range _) (rn_S (n := 3) (As := [.int pa, .int r6, .int r12]) (rest := [.ref (ad 906)]) hx hb hml hown ht hKK hFx hP hD hS hA (c_x_X6_isTaken l dC dI cI cB cZ cJ cR tb H.size pa r6 r12 ) tw_822 tw_823 (by decide +kernel) rfl rfl ⟨Nat.le_of_ble_eq_true rfl, Nat.le_of_ble_eq_true rfl⟩ [] rfl rfl rfl hl.1 rfl (Nat.le_of_ble_eq_true rfl) dX6_perform_121 ⟨Nat.le_of_ble_eq_true rfl, Nat.le_of_ble_eq_true rfl⟩) hP hD hS hA (fun r78 H locs hw76 hP hD hS => ?_)
            obtain ⟨b76, e76⟩ := hw76
            refine W.widen (k := 0) (n := 0) (Nat.le_refl _) (Nat.le_refl _) ?_
            refine lv_aload_n hx hb dX6_perform_124 rfl (lv_at hl 4 rfl) ?_
            refine va_get (D := (dC, dI)) (ci := 9) (fs := oF_X6 ad pr v) (v := .int (v.1 0 348)) (C := RX6) (T := TX6) (N := 9) hx hb ht itX6 hown hK hP 6 rfl rfl 2 (by decide) (ht _ tw_779) (fun _ h9 => h9) rfl dX6_perform_125 ?_
            refine lv_iload hx hb dX6_perform_128 (lv_at hl 1 rfl) ?_
            refine lv_iadd hx hb dX6_perform_130 ?_
            refine cu_v (rn_Vk (n := 2) (As := [.int r78, .int ((v.1 0 348) + r15)]) (rest := []) hx hb hml hown ht hKK hFx hP hD hS hA (c_x_X6_branch l dC dI cI cB cZ cJ cR tb H.size ad pr N L1 L2 v r78 ((v.1 0 348) + r15) ) tw_787 tw_788 (by decide +kernel) rfl rfl ⟨Nat.le_of_ble_eq_true rfl, Nat.le_of_ble_eq_true rfl⟩ (List.range (cW ad pr N cI cR L1 L2 v).length) (rg_map _) (nd_range _) 6 rfl rfl rfl rfl hl.1 rfl (Nat.le_of_ble_eq_true rfl) dX6_perform_131 ⟨Nat.le_of_ble_eq_true rfl, Nat.le_of_ble_eq_true rfl⟩) hP hD hS hA (fun u80 H locs hw79 hP hD hS => ?_)
            obtain ⟨fr79, rs79⟩ := hw79
            refine W.widen (k := 0) (n := 0) (Nat.le_refl _) (Nat.le_refl _) ?_
            refine lv_goto (tgt := 259) hx hb dX6_perform_134 (by decide) ?_
            have q82 : (u80.1 0 353).toInt = (v.1 0 353).toInt := congrArg Int32.toInt ((fr79.2.1 353 (by decide)).trans (show v.1 0 353 = (v.1 0 353) by rfl))
            exact W.vret hx hb hr (fun t ht9 hW => ⟨⟨u80, rfl, ⟨(FC.tr (FC.rf _) (FC.up fr79 (by decide) (by decide))), (show (v.1 0 353).toInt ≤ (u80.1 0 353).toInt ∧ (u80.1 0 353).toInt ≤ (v.1 0 353).toInt + 1 from (om_a5ca429bbe q82)), (RS0.tr RS0.rf rs79)⟩, by rw [ht9]; exact hP, hD⟩, hS.F ht9⟩) hS.2.2 dX6_perform_259
        · have z83 : pa.toInt = (3 : Int) := eq_z rfl (show (3 : Int32).toInt = (3 : Int) by decide) h25
          refine lv_aload_n hx hb dX6_perform_94 rfl (lv_at hl 4 rfl) ?_
          refine lv_iload hx hb dX6_perform_95 (lv_at hl 0 rfl) ?_
          refine lv_iload_n hx hb dX6_perform_97 rfl (lv_at hl 3 rfl) ?_
          refine lv_iload hx hb dX6_perform_98 (lv_at hl 1 rfl) ?_
          refine lv_iadd hx hb dX6_perform_100 ?_
          refine lv_bipush (v := -2) hx hb dX6_perform_101 (by decide) ?_
          refine lv_iand hx hb dX6_perform_103 ?_
          refine cu_v (rn_Vk (n := 2) (As := [.int r18, .int ((r6 + r15) &&& ((-2) : Int32))]) (rest := []) hx hb hml hown ht hKK hFx hP hD hS hA (c_x_X6_jump l dC dI cI cB cZ cJ cR tb H.size ad pr N L1 L2 v r18 ((r6 + r15) &&& ((-2) : Int32)) ) tw_824 tw_825 (by decide +kernel) rfl rfl ⟨Nat.le_of_ble_eq_true rfl, Nat.le_of_ble_eq_true rfl⟩ (List.range (cW ad pr N cI cR L1 L2 v).length) (rg_map _) (nd_range _) 6 rfl rfl rfl rfl hl.1 rfl (Nat.le_of_ble_eq_true rfl) dX6_perform_104 ⟨Nat.le_of_ble_eq_true rfl, Nat.le_of_ble_eq_true rfl⟩) hP hD hS hA (fun u85 H locs hw84 hP hD hS => ?_)
          obtain ⟨fr84, rs84⟩ := hw84
          refine W.widen (k := 0) (n := 0) (Nat.le_refl _) (Nat.le_refl _) ?_
          refine lv_goto (tgt := 259) hx hb dX6_perform_107 (by decide) ?_
          have q87 : (u85.1 0 353).toInt = (v.1 0 353).toInt := congrArg Int32.toInt ((fr84.2.1 353 (by decide)).trans (show v.1 0 353 = (v.1 0 353) by rfl))
          exact W.vret hx hb hr (fun t ht9 hW => ⟨⟨u85, rfl, ⟨(FC.tr (FC.rf _) (FC.up fr84 (by decide) (by decide))), (show (v.1 0 353).toInt ≤ (u85.1 0 353).toInt ∧ (u85.1 0 353).toInt ≤ (v.1 0 353).toInt + 1 from (om_a5ca429bbe q87)), (RS0.tr RS0.rf rs84)⟩, by rw [ht9]; exact hP, hD⟩, hS.F ht9⟩) hS.2.2 dX6_perform_259
      · have z88 : pa.toInt = (2 : Int) := eq_z rfl (show (2 : Int32).toInt = (2 : Int) by decide) h23
        refine lv_aload_n hx hb dX6_perform_73 rfl (lv_at hl 4 rfl) ?_
        refine lv_iload hx hb dX6_perform_74 (lv_at hl 0 rfl) ?_
        refine lv_aload_n hx hb dX6_perform_76 rfl (lv_at hl 4 rfl) ?_
        refine va_get (D := (dC, dI)) (ci := 9) (fs := oF_X6 ad pr v) (v := .int (v.1 0 348)) (C := RX6) (T := TX6) (N := 9) hx hb ht itX6 hown hK hP 6 rfl rfl 2 (by decide) (ht _ tw_779) (fun _ h9 => h9) rfl dX6_perform_77 ?_
        refine lv_iload hx hb dX6_perform_80 (lv_at hl 1 rfl) ?_
        refine lv_iadd hx hb dX6_perform_82 ?_
        refine cu_v (rn_Vk (n := 2) (As := [.int r18, .int ((v.1 0 348) + r15)]) (rest := []) hx hb hml hown ht hKK hFx hP hD hS hA (c_x_X6_jump l dC dI cI cB cZ cJ cR tb H.size ad pr N L1 L2 v r18 ((v.1 0 348) + r15) ) tw_824 tw_825 (by decide +kernel) rfl rfl ⟨Nat.le_of_ble_eq_true rfl, Nat.le_of_ble_eq_true rfl⟩ (List.range (cW ad pr N cI cR L1 L2 v).length) (rg_map _) (nd_range _) 6 rfl rfl rfl rfl hl.1 rfl (Nat.le_of_ble_eq_true rfl) dX6_perform_83 ⟨Nat.le_of_ble_eq_true rfl, Nat.le_of_ble_eq_true rfl⟩) hP hD hS hA (fun u90 H locs hw89 hP hD hS => ?_)
        obtain ⟨fr89, rs89⟩ := hw89
        refine W.widen (k := 0) (n := 0) (Nat.le_refl _) (Nat.le_refl _) ?_
        refine lv_goto (tgt := 259) hx hb dX6_perform_86 (by decide) ?_
        have q92 : (u90.1 0 353).toInt = (v.1 0 353).toInt := congrArg Int32.toInt ((fr89.2.1 353 (by decide)).trans (show v.1 0 353 = (v.1 0 353) by rfl))
        exact W.vret hx hb hr (fun t ht9 hW => ⟨⟨u90, rfl, ⟨(FC.tr (FC.rf _) (FC.up fr89 (by decide) (by decide))), (show (v.1 0 353).toInt ≤ (u90.1 0 353).toInt ∧ (u90.1 0 353).toInt ≤ (v.1 0 353).toInt + 1 from (om_a5ca429bbe q92)), (RS0.tr RS0.rf rs89)⟩, by rw [ht9]; exact hP, hD⟩, hS.F ht9⟩) hS.2.2 dX6_perform_259
    · have z93 : pa.toInt = (1 : Int) := eq_z rfl (show (1 : Int32).toInt = (1 : Int) by decide) h21
      refine lv_aload_n hx hb dX6_perform_52 rfl (lv_at hl 4 rfl) ?_
      refine lv_iload hx hb dX6_perform_53 (lv_at hl 0 rfl) ?_
      refine lv_aload_n hx hb dX6_perform_55 rfl (lv_at hl 4 rfl) ?_
      refine va_get (D := (dC, dI)) (ci := 9) (fs := oF_X6 ad pr v) (v := .int (v.1 0 348)) (C := RX6) (T := TX6) (N := 9) hx hb ht itX6 hown hK hP 6 rfl rfl 2 (by decide) (ht _ tw_779) (fun _ h9 => h9) rfl dX6_perform_56 ?_
      refine lv_iload hx hb dX6_perform_59 (lv_at hl 1 rfl) ?_
      refine lv_iadd hx hb dX6_perform_61 ?_
      refine cu_v (rn_Vk (n := 2) (As := [.int r18, .int ((v.1 0 348) + r15)]) (rest := []) hx hb hml hown ht hKK hFx hP hD hS hA (c_x_X6_write l dC dI cI cB cZ cJ cR tb H.size ad pr N L1 L2 v r18 ((v.1 0 348) + r15) ) tw_776 tw_777 (by decide +kernel) rfl rfl ⟨Nat.le_of_ble_eq_true rfl, Nat.le_of_ble_eq_true rfl⟩ (List.range (cW ad pr N cI cR L1 L2 v).length) (rg_map _) (nd_range _) 6 rfl rfl rfl rfl hl.1 rfl (Nat.le_of_ble_eq_true rfl) dX6_perform_62 ⟨Nat.le_of_ble_eq_true rfl, Nat.le_of_ble_eq_true rfl⟩) hP hD hS hA (fun u95 H locs hw94 hP hD hS => ?_)
      obtain ⟨fr94, rs94⟩ := hw94
      refine W.widen (k := 0) (n := 0) (Nat.le_refl _) (Nat.le_refl _) ?_
      refine lv_goto (tgt := 259) hx hb dX6_perform_65 (by decide) ?_
      have q97 : (u95.1 0 353).toInt = (v.1 0 353).toInt := congrArg Int32.toInt ((fr94.2.1 353 (by decide)).trans (show v.1 0 353 = (v.1 0 353) by rfl))
      exact W.vret hx hb hr (fun t ht9 hW => ⟨⟨u95, rfl, ⟨(FC.tr (FC.rf _) (FC.up fr94 (by decide) (by decide))), (show (v.1 0 353).toInt ≤ (u95.1 0 353).toInt ∧ (u95.1 0 353).toInt ≤ (v.1 0 353).toInt + 1 from (om_a5ca429bbe q97)), (RS0.tr RS0.rf rs94)⟩, by rw [ht9]; exact hP, hD⟩, hS.F ht9⟩) hS.2.2 dX6_perform_259
  · have z98 : pa.toInt = (0 : Int) := eq_z rfl (show (0 : Int32).toInt = (0 : Int) by decide) h19
    refine lv_aload_n hx hb dX6_perform_36 rfl (lv_at hl 4 rfl) ?_
    refine lv_iload hx hb dX6_perform_37 (lv_at hl 0 rfl) ?_
    refine lv_iload hx hb dX6_perform_39 (lv_at hl 1 rfl) ?_
    refine cu_v (rn_Vk (n := 2) (As := [.int r18, .int r15]) (rest := []) hx hb hml hown ht hKK hFx hP hD hS hA (c_x_X6_write l dC dI cI cB cZ cJ cR tb H.size ad pr N L1 L2 v r18 r15 ) tw_776 tw_777 (by decide +kernel) rfl rfl ⟨Nat.le_of_ble_eq_true rfl, Nat.le_of_ble_eq_true rfl⟩ (List.range (cW ad pr N cI cR L1 L2 v).length) (rg_map _) (nd_range _) 6 rfl rfl rfl rfl hl.1 rfl (Nat.le_of_ble_eq_true rfl) dX6_perform_41 ⟨Nat.le_of_ble_eq_true rfl, Nat.le_of_ble_eq_true rfl⟩) hP hD hS hA (fun u100 H locs hw99 hP hD hS => ?_)
    obtain ⟨fr99, rs99⟩ := hw99
    refine W.widen (k := 0) (n := 0) (Nat.le_refl _) (Nat.le_refl _) ?_
    refine lv_goto (tgt := 259) hx hb dX6_perform_44 (by decide) ?_
    have q102 : (u100.1 0 353).toInt = (v.1 0 353).toInt := congrArg Int32.toInt ((fr99.2.1 353 (by decide)).trans (show v.1 0 353 = (v.1 0 353) by rfl))
    exact W.vret hx hb hr (fun t ht9 hW => ⟨⟨u100, rfl, ⟨(FC.tr (FC.rf _) (FC.up fr99 (by decide) (by decide))), (show (v.1 0 353).toInt ≤ (u100.1 0 353).toInt ∧ (u100.1 0 353).toInt ≤ (v.1 0 353).toInt + 1 from (om_a5ca429bbe q102)), (RS0.tr RS0.rf rs99)⟩, by rw [ht9]; exact hP, hD⟩, hS.F ht9⟩) hS.2.2 dX6_perform_259
set_option maxHeartbeats 4000000 in
set_option maxRecDepth 100000 in
theorem c_x_X6_tick (l : Launch) (dC : Nat → ClassId) (dI : Nat → Nat → Nat) (cI cB cZ cJ cR : ClassId) (tb : Nat → Nat) (sz : Nat) (ad : Nat → Nat) (pr : Int32 → Nat) (N : Nat) (L1 L2 : List Nat) (v : MS)  (z344 : 0 ≤ (v.1 0 344).toInt ∧ (v.1 0 344).toInt ≤ 64) (zNN : (N : Int) ≤ 4096) (zq : 0 ≤ (v.1 0 353).toInt ∧ (v.1 0 353).toInt + 1 ≤ 200000000) : Met l yX6_tick (Cond.code yX6_tick cX6_tick 3 none :: tw_W) ({ frames := 5, cells := 0, slots := 0, locals := 111 }) (pc_ (dC, dI) (tyS cI cB cZ cJ cR) tb (cW ad pr N cI cR L1 L2 v) sz [.ref (ad 906)]) (qv_ (dC, dI) (cW ad pr N cI cR L1 L2 v) sz (fun (u : MS) => FC [345, 348, 349, 350, 351, 353] [0, 346, 347, 352] v u ∧ ((v.1 0 353).toInt ≤ (u.1 0 353).toInt ∧ (u.1 0 353).toInt ≤ (v.1 0 353).toInt + 1) ∧ (RS0 v u)) (fun (u : MS) => (cW ad pr N cI cR L1 L2 u))) 0 0 (va_A (cW ad pr N cI cR L1 L2 v) sz) := by
  refine Met.ofW (cc := cX6_tick) (maxL := 3) (ret := none) (by decide) rfl ?_
  intro p e s m args below meth c s₁ B hml hv
  obtain ⟨rfl, hsz, hP, hKK, hD0, hFx⟩ := hv
  have hK := hKK.1
  have hx := B.exec
  have hb := B.bytes
  have hr := B.returns
  have ht : ∀ w ∈ tw_W, w.before _ s = true := fun w h => atoms_spec (ws := Cond.code yX6_tick cX6_tick 3 none :: tw_W) B.pre w (List.mem_cons_of_mem _ h)
  have hown : s.vm.findClass RX6 = some m.cls := findClass_of_methodNamed B.named
  have hlocks := B.notSynchronized
  subst hsz
  unfold qv_
  have hD := hD0.self (sz := s.heap.size)
  generalize hAe : va_A (cW ad pr N cI cR L1 L2 v) s.heap.size = A at hD hFx ⊢
  have hA : ∀ q : Nat, s.heap.size ≤ q → A q := fun q h => by rw [← hAe]; exact Or.inr h
  have hS : va_S A s.heap s.heap [] := va_S.rf
  have hl := lv_entry ([.ref (ad 906)]) (n := 3) (Nat.le_of_ble_eq_true rfl)
  rw [lg_entry_eq]
  generalize (lg_sl ([.ref (ad 906)]) ++ List.replicate (3 - (lg_sl ([.ref (ad 906)])).length) Slot.unset).toArray = ls at hl ⊢
  have hl : lv_has ls 3 [(0, .ref (ad 906))] := hl
  refine lv_aload_n hx hb dX6_tick_0 rfl (lv_at hl 0 rfl) ?_
  refine va_get (D := (dC, dI)) (ci := 9) (fs := oF_X6 ad pr v) (v := .int (v.1 0 350)) (C := RX6) (T := TX6) (N := 9) hx hb ht itX6 hown hK hP 6 rfl rfl 4 (by decide) (ht _ tw_778) (fun _ h9 => h9) rfl dX6_tick_1 ?_
  refine lv_if_eq (tgt := 8) hx hb dX6_tick_4 (by decide) (fun h1 => ?_) (fun h1 => ?_)
  · have z2 : (v.1 0 350).toInt = (0 : Int) := eq_z rfl (show (0 : Int32).toInt = (0 : Int) by decide) h1
    refine lv_aload_n hx hb dX6_tick_8 rfl (lv_at hl 0 rfl) ?_
    refine lv_dup hx hb dX6_tick_9 rfl ?_
    refine va_get (D := (dC, dI)) (ci := 9) (fs := oF_X6 ad pr v) (v := .int (v.1 0 351)) (C := RX6) (T := TX6) (N := 9) hx hb ht itX6 hown hK hP 6 rfl rfl 5 (by decide) (ht _ tw_826) (fun _ h9 => h9) rfl dX6_tick_10 ?_
    refine lv_iconst (v := 1) hx hb dX6_tick_13 (by decide) ?_
    refine lv_iadd hx hb dX6_tick_14 ?_
    refine va_put (D := (dC, dI)) (ci := 9) (fs := oF_X6 ad pr v) (v := .int ((v.1 0 351) + (1 : Int32))) (ty := .int) (C := RX6) (T := TX6) (N := 9) hx hb ht itX6 tyX6 tyX6_ok nmX6 hown hK hP hD hS 6 rfl rfl 5 (by decide) (ht _ tw_826) (fun _ h9 => h9) rfl (by decide +kernel) rfl rfl (Nat.le_of_ble_eq_true rfl) dX6_tick_15 (fun H locs hP hD hS => ?_)
    have hP := cP_ (cw_351 ad pr N cI cR L1 L2 v ((v.1 0 351) + (1 : Int32))) hP
    have hD := cD_ (cw_351 ad pr N cI cR L1 L2 v ((v.1 0 351) + (1 : Int32))) hD
    refine lv_aload_n hx hb dX6_tick_18 rfl (lv_at hl 0 rfl) ?_
    refine lv_aload_n hx hb dX6_tick_19 rfl (lv_at hl 0 rfl) ?_
    refine va_get (D := (dC, dI)) (ci := 9) (fs := oF_X6 ad pr (wA v 0 351 ((v.1 0 351) + (1 : Int32)))) (v := .int (v.1 0 348)) (C := RX6) (T := TX6) (N := 9) hx hb ht itX6 hown hK hP 6 rfl rfl 2 (by decide) (ht _ tw_779) (fun _ h9 => h9) rfl dX6_tick_20 ?_
    refine cu_i (rn_Vk (n := 1) (As := [.int (v.1 0 348)]) (rest := []) hx hb hml hown ht hKK hFx hP hD hS hA (c_x_X6_hasWord l dC dI cI cB cZ cJ cR tb H.size ad pr N L1 L2 (wA v 0 351 ((v.1 0 351) + (1 : Int32))) (v.1 0 348) (show (N : Int) ≤ 4096 from (om_1c2c49c46c zNN))) tw_784 tw_785 (by decide +kernel) rfl rfl ⟨Nat.le_of_ble_eq_true rfl, Nat.le_of_ble_eq_true rfl⟩ (List.range (cW ad pr N cI cR L1 L2 (wA v 0 351 ((v.1 0 351) + (1 : Int32)))).length) (rg_map _) (nd_range _) 6 rfl rfl rfl rfl hl.1 rfl (Nat.le_of_ble_eq_true rfl) dX6_tick_23 ⟨Nat.le_of_ble_eq_true rfl, Nat.le_of_ble_eq_true rfl⟩) hP hD hS hA (fun r5 u4 H locs hw3 hP hD hS => ?_)
    obtain ⟨rfl, b3, e3, c3⟩ := hw3
    have b3 : (r5 = 0 ∨ r5 = 1) := b3
    have e3 : (0 ≤ r5.toInt ∧ r5.toInt ≤ 1) := e3
    have c3 : ((r5.toInt = 1 ∧ (((v.1 0 348) &&& (3 : Int32)).toInt = 0 ∧ (((v.1 0 348).toUInt32 >>> ((2 : Int32).toUInt32 &&& Int32.toUInt32 31)).toInt32).toInt < (N : Int))) ∨ (r5.toInt = 0 ∧ (((v.1 0 348) &&& (3 : Int32)).toInt ≠ 0 ∨ (N : Int) ≤ (((v.1 0 348).toUInt32 >>> ((2 : Int32).toUInt32 &&& Int32.toUInt32 31)).toInt32).toInt))) := c3
    refine W.widen (k := 0) (n := 0) (Nat.le_refl _) (Nat.le_refl _) ?_
    refine lv_if_ne (tgt := 35) hx hb dX6_tick_26 (by decide) (fun h6 => ?_) (fun h6 => ?_)
    · have z7 : r5.toInt ≠ (0 : Int) := ne_z rfl (show (0 : Int32).toInt = (0 : Int) by decide) h6
      refine lv_aload_n hx hb dX6_tick_35 rfl (lv_at hl 0 rfl) ?_
      refine lv_aload_n hx hb dX6_tick_36 rfl (lv_at hl 0 rfl) ?_
      refine va_get (D := (dC, dI)) (ci := 9) (fs := oF_X6 ad pr (wA v 0 351 ((v.1 0 351) + (1 : Int32)))) (v := .int (v.1 0 348)) (C := RX6) (T := TX6) (N := 9) hx hb ht itX6 hown hK hP 6 rfl rfl 2 (by decide) (ht _ tw_779) (fun _ h9 => h9) rfl dX6_tick_37 ?_
      refine cu_i (rn_Vk (n := 1) (As := [.int (v.1 0 348)]) (rest := []) hx hb hml hown ht hKK hFx hP hD hS hA (c_x_X6_wordAt l dC dI cI cB cZ cJ cR tb H.size ad pr N L1 L2 (wA v 0 351 ((v.1 0 351) + (1 : Int32))) (v.1 0 348) (show (N : Int) ≤ 4096 from (om_1c2c49c46c zNN))) tw_793 tw_794 (by decide +kernel) rfl rfl ⟨Nat.le_of_ble_eq_true rfl, Nat.le_of_ble_eq_true rfl⟩ (List.range (cW ad pr N cI cR L1 L2 (wA v 0 351 ((v.1 0 351) + (1 : Int32)))).length) (rg_map _) (nd_range _) 6 rfl rfl rfl rfl hl.1 rfl (Nat.le_of_ble_eq_true rfl) dX6_tick_40 ⟨Nat.le_of_ble_eq_true rfl, Nat.le_of_ble_eq_true rfl⟩) hP hD hS hA (fun r11 u10 H locs hw8 hP hD hS => ?_)
      obtain rfl := hw8
      refine W.widen (k := 0) (n := 0) (Nat.le_refl _) (Nat.le_refl _) ?_
      refine lv_istore_n (lv' := [(1, .int r11), (0, .ref (ad 906))]) hx hb dX6_tick_43 rfl hl (by decide) rfl (fun ls hl => ?_)
      refine lv_iload_n hx hb dX6_tick_44 rfl (lv_at hl 0 rfl) ?_
      refine cu_s (nd_range _) (rn_S (n := 1) (As := [.int r11]) (rest := []) hx hb hml hown ht hKK hFx hP hD hS hA (c_x_X4_kindOf l dC dI cI cB cZ cJ cR tb H.size r11 ) tw_827 tw_828 (by decide +kernel) rfl rfl ⟨Nat.le_of_ble_eq_true rfl, Nat.le_of_ble_eq_true rfl⟩ [] rfl rfl rfl hl.1 rfl (Nat.le_of_ble_eq_true rfl) dX6_tick_45 ⟨Nat.le_of_ble_eq_true rfl, Nat.le_of_ble_eq_true rfl⟩) hP hD hS hA (fun r14 H locs hw12 hP hD hS => ?_)
      refine W.widen (k := 0) (n := 0) (Nat.le_refl _) (Nat.le_refl _) ?_
      refine lv_istore_n (lv' := [(2, .int r14), (1, .int r11), (0, .ref (ad 906))]) hx hb dX6_tick_48 rfl hl (by decide) rfl (fun ls hl => ?_)
      refine lv_aload_n hx hb dX6_tick_49 rfl (lv_at hl 2 rfl) ?_
      refine lv_aload_n hx hb dX6_tick_50 rfl (lv_at hl 2 rfl) ?_
      refine va_get (D := (dC, dI)) (ci := 9) (fs := oF_X6 ad pr (wA v 0 351 ((v.1 0 351) + (1 : Int32)))) (v := .int (v.1 0 348)) (C := RX6) (T := TX6) (N := 9) hx hb ht itX6 hown hK hP 6 rfl rfl 2 (by decide) (ht _ tw_779) (fun _ h9 => h9) rfl dX6_tick_51 ?_
      refine lv_iconst (v := 4) hx hb dX6_tick_54 (by decide) ?_
      refine lv_iadd hx hb dX6_tick_55 ?_
      refine va_put (D := (dC, dI)) (ci := 9) (fs := oF_X6 ad pr (wA v 0 351 ((v.1 0 351) + (1 : Int32)))) (v := .int ((v.1 0 348) + (4 : Int32))) (ty := .int) (C := RX6) (T := TX6) (N := 9) hx hb ht itX6 tyX6 tyX6_ok nmX6 hown hK hP hD hS 6 rfl rfl 3 (by decide) (ht _ tw_786) (fun _ h9 => h9) rfl (by decide +kernel) rfl rfl (Nat.le_of_ble_eq_true rfl) dX6_tick_56 (fun H locs hP hD hS => ?_)
      have hP := cP_ (cw_349 ad pr N cI cR L1 L2 (wA v 0 351 ((v.1 0 351) + (1 : Int32))) ((v.1 0 348) + (4 : Int32))) hP
      have hD := cD_ (cw_349 ad pr N cI cR L1 L2 (wA v 0 351 ((v.1 0 351) + (1 : Int32))) ((v.1 0 348) + (4 : Int32))) hD
      refine lv_aload_n hx hb dX6_tick_59 rfl (lv_at hl 2 rfl) ?_
      refine lv_iload_n hx hb dX6_tick_60 rfl (lv_at hl 0 rfl) ?_
      refine lv_iload_n hx hb dX6_tick_61 rfl (lv_at hl 1 rfl) ?_
      refine cu_v (rn_Vk (n := 2) (As := [.int r14, .int r11]) (rest := []) hx hb hml hown ht hKK hFx hP hD hS hA (c_x_X6_perform l dC dI cI cB cZ cJ cR tb H.size ad pr N L1 L2 (wA (wA v 0 351 ((v.1 0 351) + (1 : Int32))) 0 349 ((v.1 0 348) + (4 : Int32))) r14 r11 (show 0 ≤ (v.1 0 344).toInt ∧ (v.1 0 344).toInt ≤ 64 from (om_0522002ca7 z344)) (show (N : Int) ≤ 4096 from (om_1c2c49c46c zNN)) (show 0 ≤ (v.1 0 353).toInt ∧ (v.1 0 353).toInt + 1 ≤ 200000000 from (om_6decde4407 zq))) tw_829 tw_830 (by decide +kernel) rfl rfl ⟨Nat.le_of_ble_eq_true rfl, Nat.le_of_ble_eq_true rfl⟩ (List.range (cW ad pr N cI cR L1 L2 (wA (wA v 0 351 ((v.1 0 351) + (1 : Int32))) 0 349 ((v.1 0 348) + (4 : Int32)))).length) (rg_map _) (nd_range _) 6 rfl rfl rfl rfl hl.1 rfl (Nat.le_of_ble_eq_true rfl) dX6_tick_62 ⟨Nat.le_of_ble_eq_true rfl, Nat.le_of_ble_eq_true rfl⟩) hP hD hS hA (fun u16 H locs hw15 hP hD hS => ?_)
      obtain ⟨fr15, pq15, rs15⟩ := hw15
      have pq15 : (v.1 0 353).toInt ≤ (u16.1 0 353).toInt ∧ (u16.1 0 353).toInt ≤ (v.1 0 353).toInt + 1 := pq15
      have rs15 : RS0 (wA (wA v 0 351 ((v.1 0 351) + (1 : Int32))) 0 349 ((v.1 0 348) + (4 : Int32))) u16 := rs15
      refine W.widen (k := 0) (n := 0) (Nat.le_refl _) (Nat.le_refl _) ?_
      refine lv_aload_n hx hb dX6_tick_65 rfl (lv_at hl 2 rfl) ?_
      refine va_get (D := (dC, dI)) (ci := 9) (fs := oF_X6 ad pr u16) (v := .int (u16.1 0 350)) (C := RX6) (T := TX6) (N := 9) hx hb ht itX6 hown hK hP 6 rfl rfl 4 (by decide) (ht _ tw_778) (fun _ h9 => h9) rfl dX6_tick_66 ?_
      refine lv_if_ne (tgt := 80) hx hb dX6_tick_69 (by decide) (fun h18 => ?_) (fun h18 => ?_)
      · have z19 : (u16.1 0 350).toInt ≠ (0 : Int) := ne_z rfl (show (0 : Int32).toInt = (0 : Int) by decide) h18
        exact W.vret hx hb hr (fun t ht9 hW => ⟨⟨u16, rfl, ⟨(FC.tr (FC.f (FC.f (FC.rf _) ((v.1 0 351) + (1 : Int32)) (by decide)) ((v.1 0 348) + (4 : Int32)) (by decide)) (FC.up fr15 (by decide) (by decide))), (show (v.1 0 353).toInt ≤ (u16.1 0 353).toInt ∧ (u16.1 0 353).toInt ≤ (v.1 0 353).toInt + 1 from (om_e79f107f26 pq15)), (RS0.tr (show RS0 v (wA (wA v 0 351 ((v.1 0 351) + (1 : Int32))) 0 349 ((v.1 0 348) + (4 : Int32))) from (RS0.w (RS0.w RS0.rf (by decide)) (by decide))) rs15)⟩, by rw [ht9]; exact hP, hD⟩, hS.F ht9⟩) hS.2.2 dX6_tick_80
      · have z20 : (u16.1 0 350).toInt = (0 : Int) := eq_z rfl (show (0 : Int32).toInt = (0 : Int) by decide) h18
        refine lv_aload_n hx hb dX6_tick_72 rfl (lv_at hl 2 rfl) ?_
        refine lv_aload_n hx hb dX6_tick_73 rfl (lv_at hl 2 rfl) ?_
        refine va_get (D := (dC, dI)) (ci := 9) (fs := oF_X6 ad pr u16) (v := .int (u16.1 0 349)) (C := RX6) (T := TX6) (N := 9) hx hb ht itX6 hown hK hP 6 rfl rfl 3 (by decide) (ht _ tw_786) (fun _ h9 => h9) rfl dX6_tick_74 ?_
        refine va_put (D := (dC, dI)) (ci := 9) (fs := oF_X6 ad pr u16) (v := .int (u16.1 0 349)) (ty := .int) (C := RX6) (T := TX6) (N := 9) hx hb ht itX6 tyX6 tyX6_ok nmX6 hown hK hP hD hS 6 rfl rfl 2 (by decide) (ht _ tw_779) (fun _ h9 => h9) rfl (by decide +kernel) rfl rfl (Nat.le_of_ble_eq_true rfl) dX6_tick_77 (fun H locs hP hD hS => ?_)
        have hP := cP_ (cw_348 ad pr N cI cR L1 L2 u16 (u16.1 0 349)) hP
        have hD := cD_ (cw_348 ad pr N cI cR L1 L2 u16 (u16.1 0 349)) hD
        exact W.vret hx hb hr (fun t ht9 hW => ⟨⟨(wA u16 0 348 (u16.1 0 349)), rfl, ⟨(FC.f (FC.tr (FC.f (FC.f (FC.rf _) ((v.1 0 351) + (1 : Int32)) (by decide)) ((v.1 0 348) + (4 : Int32)) (by decide)) (FC.up fr15 (by decide) (by decide))) (u16.1 0 349) (by decide)), (show (v.1 0 353).toInt ≤ (u16.1 0 353).toInt ∧ (u16.1 0 353).toInt ≤ (v.1 0 353).toInt + 1 from (om_e79f107f26 pq15)), (RS0.w (RS0.tr (show RS0 v (wA (wA v 0 351 ((v.1 0 351) + (1 : Int32))) 0 349 ((v.1 0 348) + (4 : Int32))) from (RS0.w (RS0.w RS0.rf (by decide)) (by decide))) rs15) (by decide))⟩, by rw [ht9]; exact hP, hD⟩, hS.F ht9⟩) hS.2.2 dX6_tick_80
    · have z21 : r5.toInt = (0 : Int) := eq_z rfl (show (0 : Int32).toInt = (0 : Int) by decide) h6
      refine lv_aload_n hx hb dX6_tick_29 rfl (lv_at hl 0 rfl) ?_
      refine lv_iconst (v := 3) hx hb dX6_tick_30 (by decide) ?_
      refine va_put (D := (dC, dI)) (ci := 9) (fs := oF_X6 ad pr (wA v 0 351 ((v.1 0 351) + (1 : Int32)))) (v := .int 3) (ty := .int) (C := RX6) (T := TX6) (N := 9) hx hb ht itX6 tyX6 tyX6_ok nmX6 hown hK hP hD hS 6 rfl rfl 4 (by decide) (ht _ tw_778) (fun _ h9 => h9) rfl (by decide +kernel) rfl rfl (Nat.le_of_ble_eq_true rfl) dX6_tick_31 (fun H locs hP hD hS => ?_)
      have hP := cP_ (cw_350 ad pr N cI cR L1 L2 (wA v 0 351 ((v.1 0 351) + (1 : Int32))) 3) hP
      have hD := cD_ (cw_350 ad pr N cI cR L1 L2 (wA v 0 351 ((v.1 0 351) + (1 : Int32))) 3) hD
      exact W.vret hx hb hr (fun t ht9 hW => ⟨⟨(wA (wA v 0 351 ((v.1 0 351) + (1 : Int32))) 0 350 3), rfl, ⟨(FC.f (FC.f (FC.rf _) ((v.1 0 351) + (1 : Int32)) (by decide)) 3 (by decide)), (show (v.1 0 353).toInt ≤ (v.1 0 353).toInt ∧ (v.1 0 353).toInt ≤ (v.1 0 353).toInt + 1 from om_b79dd2a91d), (RS0.w (RS0.w RS0.rf (by decide)) (by decide))⟩, by rw [ht9]; exact hP, hD⟩, hS.F ht9⟩) hS.2.2 dX6_tick_34
  · have z22 : (v.1 0 350).toInt ≠ (0 : Int) := ne_z rfl (show (0 : Int32).toInt = (0 : Int) by decide) h1
    exact W.vret hx hb hr (fun t ht9 hW => ⟨⟨v, rfl, ⟨(FC.rf _), (show (v.1 0 353).toInt ≤ (v.1 0 353).toInt ∧ (v.1 0 353).toInt ≤ (v.1 0 353).toInt + 1 from om_b79dd2a91d), RS0.rf⟩, by rw [ht9]; exact hP, hD⟩, hS.F ht9⟩) hS.2.2 dX6_tick_7
theorem om_011cde3521 {x1 : Int} {n0 : Nat} (h0 : (n0 : Int) ≤ 4096) (h1 : x1 = (n0 : Int)) : (4 : Int) * (x1) < 2147483648 := by omega
theorem om_2659f92a83 {x1 : Int} {n0 : Nat} (h0 : (n0 : Int) ≤ 4096) (h1 : x1 = (n0 : Int)) : ((4 : Int) * (x1)) - (4 : Int) < 2147483648 := by omega
theorem om_5167f04d08 {x0 : Int} {n1 : Nat} (h0 : x0 = (n1 : Int)) : -2147483648 ≤ (((4 : Int) * (x0)) - (4 : Int)) - (4 : Int) := by omega
theorem om_8685e8cfe3 {x1 : Int} {n0 : Nat} (h0 : (n0 : Int) ≤ 4096) (h1 : x1 = (n0 : Int)) : (((4 : Int) * (x1)) - (4 : Int)) - (4 : Int) < 2147483648 := by omega
theorem om_6a639a5b13 {x0 : Int} (h0 : 0 ≤ x0) : -2147483648 ≤ (4 : Int) * x0 := by omega
set_option maxHeartbeats 4000000 in
set_option maxRecDepth 100000 in
theorem c_x_X6_begin (l : Launch) (dC : Nat → ClassId) (dI : Nat → Nat → Nat) (cI cB cZ cJ cR : ClassId) (tb : Nat → Nat) (sz : Nat) (ad : Nat → Nat) (pr : Int32 → Nat) (N : Nat) (L1 L2 : List Nat) (v : MS) (pa : Int32) (pb : Int32) (pc1 : Int32) (ps : Int32) (zNN : (N : Int) ≤ 4096) (hps : pr ps = ad 908) : Met l yX6_begin (Cond.code yX6_begin cX6_begin 6 none :: tw_W) ({ frames := 1, cells := 0, slots := 0, locals := 23 }) (pc_ (dC, dI) (tyS cI cB cZ cJ cR) tb (cW ad pr N cI cR L1 L2 v) sz [.ref (ad 906), .ref (pr ps), .int pa, .int pb, .int pc1]) (qv_ (dC, dI) (cW ad pr N cI cR L1 L2 v) sz (fun (u : MS) => FC [345, 348, 350, 351, 353] [0, 346, 347] v u ∧ ((u.1 0 353).toInt = 0) ∧ (RS0 v u)) (fun (u : MS) => (cW ad pr N cI cR L1 L2 u))) 0 0 (va_A (cW ad pr N cI cR L1 L2 v) sz) := by
  refine Met.ofW (cc := cX6_begin) (maxL := 6) (ret := none) (by decide) rfl ?_
  intro p e s m args below meth c s₁ B hml hv
  obtain ⟨rfl, hsz, hP, hKK, hD0, hFx⟩ := hv
  have hK := hKK.1
  have hx := B.exec
  have hb := B.bytes
  have hr := B.returns
  have ht : ∀ w ∈ tw_W, w.before _ s = true := fun w h => atoms_spec (ws := Cond.code yX6_begin cX6_begin 6 none :: tw_W) B.pre w (List.mem_cons_of_mem _ h)
  have hown : s.vm.findClass RX6 = some m.cls := findClass_of_methodNamed B.named
  have hlocks := B.notSynchronized
  subst hsz
  unfold qv_
  have hD := hD0.self (sz := s.heap.size)
  generalize hAe : va_A (cW ad pr N cI cR L1 L2 v) s.heap.size = A at hD hFx ⊢
  have hA : ∀ q : Nat, s.heap.size ≤ q → A q := fun q h => by rw [← hAe]; exact Or.inr h
  have hS : va_S A s.heap s.heap [] := va_S.rf
  have hl := lv_entry ([.ref (ad 906), .ref (pr ps), .int pa, .int pb, .int pc1]) (n := 6) (Nat.le_of_ble_eq_true rfl)
  rw [lg_entry_eq]
  generalize (lg_sl ([.ref (ad 906), .ref (pr ps), .int pa, .int pb, .int pc1]) ++ List.replicate (6 - (lg_sl ([.ref (ad 906), .ref (pr ps), .int pa, .int pb, .int pc1])).length) Slot.unset).toArray = ls at hl ⊢
  have hl : lv_has ls 6 [(0, .ref (ad 906)), (1, .ref (pr ps)), (2, .int pa), (3, .int pb), (4, .int pc1)] := hl
  refine lv_aload_n hx hb dX6_begin_0 rfl (lv_at hl 0 rfl) ?_
  refine va_get (D := (dC, dI)) (ci := 9) (fs := oF_X6 ad pr v) (v := .ref (ad 346)) (C := RX6) (T := TX6) (N := 9) hx hb ht itX6 hown hK hP 6 rfl rfl 0 (by decide) (ht _ tw_774) (fun _ h9 => h9) rfl dX6_begin_1 ?_
  refine lv_iconst (v := 0) hx hb dX6_begin_4 (by decide) ?_
  refine cu_v (rn_S (n := 2) (As := [.ref (ad 346), .int 0]) (rest := []) hx hb hml hown ht hKK hFx hP hD hS hA (c_x_fill346 l dC dI cI cB cZ cJ cR tb s.heap.size ad pr N L1 L2 v (0 : Int32) (show (N : Int) ≤ 4096 from (om_1c2c49c46c zNN))) tw_831 tw_832 (by decide +kernel) rfl rfl ⟨Nat.le_of_ble_eq_true rfl, Nat.le_of_ble_eq_true rfl⟩ (List.range (cW ad pr N cI cR L1 L2 v).length) (rg_map _) (nd_range _) rfl hl.1 rfl (Nat.le_of_ble_eq_true rfl) dX6_begin_5 ⟨Nat.le_of_ble_eq_true rfl, Nat.le_of_ble_eq_true rfl⟩) hP hD hS hA (fun u2 H locs hw1 hP hD hS => ?_)
  obtain ⟨fr1, rs1⟩ := hw1
  refine W.widen (k := 0) (n := 0) (Nat.le_refl _) (Nat.le_refl _) ?_
  refine lv_iconst (v := 0) hx hb dX6_begin_8 (by decide) ?_
  refine lv_istore (lv' := [(5, .int 0), (0, .ref (ad 906)), (1, .ref (pr ps)), (2, .int pa), (3, .int pb), (4, .int pc1)]) hx hb dX6_begin_9 hl (by decide) rfl (fun ls hl => ?_)
  refine lpm_ (X := Int32 × MS) (P := (fun (x9 : Int32 × MS) (H : Heap) (locs : List Loc) (ls : Array Slot) => (FC [345, 348, 350, 351, 353] [0, 346, 347] v x9.2) ∧ (0 ≤ x9.1.toInt) ∧ (RS0 v x9.2) ∧ va_P (dC, dI) vwCl (cW ad pr N cI cR L1 L2 x9.2) H ∧ va_D A (cW ad pr N cI cR L1 L2 x9.2) ∧ va_S A s.heap H locs ∧ lv_has ls 6 [(5, .int x9.1), (0, .ref (ad 906)), (1, .ref (pr ps)), (2, .int pa), (3, .int pb), (4, .int pc1)])) (fun x9 => ((v.1 0 383).toInt - x9.1.toInt).toNat) 11 (fun x9 H locs ls hh ih11 => ?_) (0, u2) _ _ _ ⟨(show FC [345, 348, 350, 351, 353] [0, 346, 347] v u2 from (FC.tr (FC.rf _) (FC.up fr1 (by decide) (by decide)))), (show 0 ≤ (0 : Int) from om_342087eeda), (show RS0 v u2 from (RS0.tr RS0.rf rs1)), hP, hD, hS, lv_sub hl [0, 1, 2, 3, 4, 5] rfl⟩
  obtain ⟨ka, w11⟩ := x9
  obtain ⟨fwL11, f1L11, rsL11, hP, hD, hS, hl⟩ := hh
  have fwL11 : FC [345, 348, 350, 351, 353] [0, 346, 347] v w11 := fwL11
  have f1L11 : 0 ≤ ka.toInt := f1L11
  have rsL11 : RS0 v w11 := rsL11
  have hP : va_P (dC, dI) vwCl (cW ad pr N cI cR L1 L2 w11) H := hP
  have hD : va_D A (cW ad pr N cI cR L1 L2 w11) := hD
  have hl : lv_has ls 6 [(5, .int ka), (0, .ref (ad 906)), (1, .ref (pr ps)), (2, .int pa), (3, .int pb), (4, .int pc1)] := hl
  refine lv_iload hx hb dX6_begin_11 (lv_at hl 0 rfl) ?_
  refine lv_aload_n hx hb dX6_begin_13 rfl (lv_at hl 2 rfl) ?_
  refine W.eq (g2 := F0 m 14 ls [.ref (ad 908), .int ka]) (by rw [show pr ps = (ad 908) from hps]) ?_
  refine va_get (D := (dC, dI)) (ci := 10) (fs := oF_X7 ad pr w11) (v := .int (w11.1 0 383)) (C := RX7) (T := TX7) (N := 13) hx hb ht itX7 hown hK hP 8 rfl rfl 11 (by decide) (ht _ tw_833) (fun _ h9 => h9) rfl dX6_begin_14 ?_
  refine lv_icmp_ge (tgt := 40) hx hb dX6_begin_17 (by decide) (fun h4 => ?_) (fun h4 => ?_)
  · have z5 : (w11.1 0 383).toInt ≤ ka.toInt := le_z rfl rfl h4
    refine lv_iconst (v := 4) hx hb dX6_begin_40 (by decide) ?_
    refine lv_aload_n hx hb dX6_begin_41 rfl (lv_at hl 1 rfl) ?_
    refine va_get (D := (dC, dI)) (ci := 9) (fs := oF_X6 ad pr w11) (v := .ref (ad 346)) (C := RX6) (T := TX6) (N := 9) hx hb ht itX6 hown hK hP 6 rfl rfl 0 (by decide) (ht _ tw_774) (fun _ h9 => h9) rfl dX6_begin_42 ?_
    refine va_alen (D := (dC, dI)) (v := (nI N)) hx hb hK hP 22 0 rfl rfl rfl dX6_begin_45 ?_
    have zN6 : (nI N).toInt = (N : Int) := nI_N (by have := (om_1c2c49c46c zNN); omega)
    refine lv_imul hx hb dX6_begin_46 ?_
    have z7 : ((4 : Int32) * (nI N)).toInt = (4 : Int) * ((nI N).toInt) := mul_z (show (4 : Int32).toInt = (4 : Int) by decide) rfl (om_41196de75d zN6) (om_011cde3521 zNN zN6)
    refine lv_iconst (v := 4) hx hb dX6_begin_47 (by decide) ?_
    refine lv_isub hx hb dX6_begin_48 ?_
    have z8 : (((4 : Int32) * (nI N)) - (4 : Int32)).toInt = ((4 : Int) * ((nI N).toInt)) - (4 : Int) := sub_z z7 (show (4 : Int32).toInt = (4 : Int) by decide) (om_3a637aebea zN6) (om_2659f92a83 zNN zN6)
    refine lv_istore (lv' := [(5, .int (((4 : Int32) * (nI N)) - (4 : Int32))), (0, .ref (ad 906)), (1, .ref (pr ps)), (2, .int pa), (3, .int pb), (4, .int pc1)]) hx hb dX6_begin_49 hl (by decide) rfl (fun ls hl => ?_)
    refine lv_aload_n hx hb dX6_begin_51 rfl (lv_at hl 1 rfl) ?_
    refine lv_iload hx hb dX6_begin_52 (lv_at hl 0 rfl) ?_
    refine lv_iload_n hx hb dX6_begin_54 rfl (lv_at hl 4 rfl) ?_
    refine cu_v (rn_Vk (n := 2) (As := [.int (((4 : Int32) * (nI N)) - (4 : Int32)), .int pb]) (rest := []) hx hb hml hown ht hKK hFx hP hD hS hA (c_x_X6_layWord l dC dI cI cB cZ cJ cR tb H.size ad pr N L1 L2 w11 (((4 : Int32) * (nI N)) - (4 : Int32)) pb (show (N : Int) ≤ 4096 from (om_1c2c49c46c zNN))) tw_796 tw_797 (by decide +kernel) rfl rfl ⟨Nat.le_of_ble_eq_true rfl, Nat.le_of_ble_eq_true rfl⟩ (List.range (cW ad pr N cI cR L1 L2 w11).length) (rg_map _) (nd_range _) 6 rfl rfl rfl rfl hl.1 rfl (Nat.le_of_ble_eq_true rfl) dX6_begin_55 ⟨Nat.le_of_ble_eq_true rfl, Nat.le_of_ble_eq_true rfl⟩) hP hD hS hA (fun u10 H locs hw9 hP hD hS => ?_)
    obtain ⟨fr9, rs9⟩ := hw9
    have rs9 : RS0 w11 u10 := rs9
    refine W.widen (k := 0) (n := 0) (Nat.le_refl _) (Nat.le_refl _) ?_
    refine lv_aload_n hx hb dX6_begin_58 rfl (lv_at hl 1 rfl) ?_
    refine lv_iload hx hb dX6_begin_59 (lv_at hl 0 rfl) ?_
    refine lv_iconst (v := 4) hx hb dX6_begin_61 (by decide) ?_
    refine lv_isub hx hb dX6_begin_62 ?_
    have z12 : ((((4 : Int32) * (nI N)) - (4 : Int32)) - (4 : Int32)).toInt = (((4 : Int) * ((nI N).toInt)) - (4 : Int)) - (4 : Int) := sub_z z8 (show (4 : Int32).toInt = (4 : Int) by decide) (om_5167f04d08 zN6) (om_8685e8cfe3 zNN zN6)
    refine lv_iload hx hb dX6_begin_63 (lv_at hl 5 rfl) ?_
    refine cu_v (rn_Vk (n := 2) (As := [.int ((((4 : Int32) * (nI N)) - (4 : Int32)) - (4 : Int32)), .int pc1]) (rest := []) hx hb hml hown ht hKK hFx hP hD hS hA (c_x_X6_layWord l dC dI cI cB cZ cJ cR tb H.size ad pr N L1 L2 u10 ((((4 : Int32) * (nI N)) - (4 : Int32)) - (4 : Int32)) pc1 (show (N : Int) ≤ 4096 from (om_1c2c49c46c zNN))) tw_796 tw_797 (by decide +kernel) rfl rfl ⟨Nat.le_of_ble_eq_true rfl, Nat.le_of_ble_eq_true rfl⟩ (List.range (cW ad pr N cI cR L1 L2 u10).length) (rg_map _) (nd_range _) 6 rfl rfl rfl rfl hl.1 rfl (Nat.le_of_ble_eq_true rfl) dX6_begin_65 ⟨Nat.le_of_ble_eq_true rfl, Nat.le_of_ble_eq_true rfl⟩) hP hD hS hA (fun u14 H locs hw13 hP hD hS => ?_)
    obtain ⟨fr13, rs13⟩ := hw13
    have rs13 : RS0 u10 u14 := rs13
    refine W.widen (k := 0) (n := 0) (Nat.le_refl _) (Nat.le_refl _) ?_
    refine lv_aload_n hx hb dX6_begin_68 rfl (lv_at hl 1 rfl) ?_
    refine va_get (D := (dC, dI)) (ci := 9) (fs := oF_X6 ad pr u14) (v := .ref (ad 347)) (C := RX6) (T := TX6) (N := 9) hx hb ht itX6 hown hK hP 6 rfl rfl 1 (by decide) (ht _ tw_775) (fun _ h9 => h9) rfl dX6_begin_69 ?_
    refine lv_iconst (v := 0) hx hb dX6_begin_72 (by decide) ?_
    refine cu_v (rn_S (n := 2) (As := [.ref (ad 347), .int 0]) (rest := []) hx hb hml hown ht hKK hFx hP hD hS hA (c_x_fill347 l dC dI cI cB cZ cJ cR tb H.size ad pr N L1 L2 u14 (0 : Int32) ) tw_831 tw_832 (by decide +kernel) rfl rfl ⟨Nat.le_of_ble_eq_true rfl, Nat.le_of_ble_eq_true rfl⟩ (List.range (cW ad pr N cI cR L1 L2 u14).length) (rg_map _) (nd_range _) rfl hl.1 rfl (Nat.le_of_ble_eq_true rfl) dX6_begin_73 ⟨Nat.le_of_ble_eq_true rfl, Nat.le_of_ble_eq_true rfl⟩) hP hD hS hA (fun u17 H locs hw16 hP hD hS => ?_)
    obtain ⟨fr16, rs16⟩ := hw16
    have rs16 : RS0 u14 u17 := rs16
    refine W.widen (k := 0) (n := 0) (Nat.le_refl _) (Nat.le_refl _) ?_
    refine lv_aload_n hx hb dX6_begin_76 rfl (lv_at hl 1 rfl) ?_
    refine lv_iconst (v := 5) hx hb dX6_begin_77 (by decide) ?_
    refine lv_iload hx hb dX6_begin_78 (lv_at hl 0 rfl) ?_
    refine cu_v (rn_Vk (n := 2) (As := [.int 5, .int (((4 : Int32) * (nI N)) - (4 : Int32))]) (rest := []) hx hb hml hown ht hKK hFx hP hD hS hA (c_x_X6_write l dC dI cI cB cZ cJ cR tb H.size ad pr N L1 L2 u17 (5 : Int32) (((4 : Int32) * (nI N)) - (4 : Int32)) ) tw_776 tw_777 (by decide +kernel) rfl rfl ⟨Nat.le_of_ble_eq_true rfl, Nat.le_of_ble_eq_true rfl⟩ (List.range (cW ad pr N cI cR L1 L2 u17).length) (rg_map _) (nd_range _) 6 rfl rfl rfl rfl hl.1 rfl (Nat.le_of_ble_eq_true rfl) dX6_begin_80 ⟨Nat.le_of_ble_eq_true rfl, Nat.le_of_ble_eq_true rfl⟩) hP hD hS hA (fun u20 H locs hw19 hP hD hS => ?_)
    obtain ⟨fr19, rs19⟩ := hw19
    have rs19 : RS0 u17 u20 := rs19
    refine W.widen (k := 0) (n := 0) (Nat.le_refl _) (Nat.le_refl _) ?_
    refine lv_aload_n hx hb dX6_begin_83 rfl (lv_at hl 1 rfl) ?_
    refine lv_iconst (v := 2) hx hb dX6_begin_84 (by decide) ?_
    refine lv_iload hx hb dX6_begin_85 (lv_at hl 0 rfl) ?_
    refine lv_iconst (v := 4) hx hb dX6_begin_87 (by decide) ?_
    refine lv_isub hx hb dX6_begin_88 ?_
    have z22 : ((((4 : Int32) * (nI N)) - (4 : Int32)) - (4 : Int32)).toInt = (((4 : Int) * ((nI N).toInt)) - (4 : Int)) - (4 : Int) := sub_z z8 (show (4 : Int32).toInt = (4 : Int) by decide) (om_5167f04d08 zN6) (om_8685e8cfe3 zNN zN6)
    refine cu_v (rn_Vk (n := 2) (As := [.int 2, .int ((((4 : Int32) * (nI N)) - (4 : Int32)) - (4 : Int32))]) (rest := []) hx hb hml hown ht hKK hFx hP hD hS hA (c_x_X6_write l dC dI cI cB cZ cJ cR tb H.size ad pr N L1 L2 u20 (2 : Int32) ((((4 : Int32) * (nI N)) - (4 : Int32)) - (4 : Int32)) ) tw_776 tw_777 (by decide +kernel) rfl rfl ⟨Nat.le_of_ble_eq_true rfl, Nat.le_of_ble_eq_true rfl⟩ (List.range (cW ad pr N cI cR L1 L2 u20).length) (rg_map _) (nd_range _) 6 rfl rfl rfl rfl hl.1 rfl (Nat.le_of_ble_eq_true rfl) dX6_begin_89 ⟨Nat.le_of_ble_eq_true rfl, Nat.le_of_ble_eq_true rfl⟩) hP hD hS hA (fun u24 H locs hw23 hP hD hS => ?_)
    obtain ⟨fr23, rs23⟩ := hw23
    have rs23 : RS0 u20 u24 := rs23
    refine W.widen (k := 0) (n := 0) (Nat.le_refl _) (Nat.le_refl _) ?_
    refine lv_aload_n hx hb dX6_begin_92 rfl (lv_at hl 1 rfl) ?_
    refine lv_iload_n hx hb dX6_begin_93 rfl (lv_at hl 3 rfl) ?_
    refine va_put (D := (dC, dI)) (ci := 9) (fs := oF_X6 ad pr u24) (v := .int pa) (ty := .int) (C := RX6) (T := TX6) (N := 9) hx hb ht itX6 tyX6 tyX6_ok nmX6 hown hK hP hD hS 6 rfl rfl 2 (by decide) (ht _ tw_779) (fun _ h9 => h9) rfl (by decide +kernel) rfl rfl (Nat.le_of_ble_eq_true rfl) dX6_begin_94 (fun H locs hP hD hS => ?_)
    have hP := cP_ (cw_348 ad pr N cI cR L1 L2 u24 pa) hP
    have hD := cD_ (cw_348 ad pr N cI cR L1 L2 u24 pa) hD
    refine lv_aload_n hx hb dX6_begin_97 rfl (lv_at hl 1 rfl) ?_
    refine lv_iconst (v := 0) hx hb dX6_begin_98 (by decide) ?_
    refine va_put (D := (dC, dI)) (ci := 9) (fs := oF_X6 ad pr (wA u24 0 348 pa)) (v := .int 0) (ty := .int) (C := RX6) (T := TX6) (N := 9) hx hb ht itX6 tyX6 tyX6_ok nmX6 hown hK hP hD hS 6 rfl rfl 4 (by decide) (ht _ tw_778) (fun _ h9 => h9) rfl (by decide +kernel) rfl rfl (Nat.le_of_ble_eq_true rfl) dX6_begin_99 (fun H locs hP hD hS => ?_)
    have hP := cP_ (cw_350 ad pr N cI cR L1 L2 (wA u24 0 348 pa) 0) hP
    have hD := cD_ (cw_350 ad pr N cI cR L1 L2 (wA u24 0 348 pa) 0) hD
    refine lv_aload_n hx hb dX6_begin_102 rfl (lv_at hl 1 rfl) ?_
    refine lv_iconst (v := 0) hx hb dX6_begin_103 (by decide) ?_
    refine va_put (D := (dC, dI)) (ci := 9) (fs := oF_X6 ad pr (wA (wA u24 0 348 pa) 0 350 0)) (v := .int 0) (ty := .int) (C := RX6) (T := TX6) (N := 9) hx hb ht itX6 tyX6 tyX6_ok nmX6 hown hK hP hD hS 6 rfl rfl 5 (by decide) (ht _ tw_826) (fun _ h9 => h9) rfl (by decide +kernel) rfl rfl (Nat.le_of_ble_eq_true rfl) dX6_begin_104 (fun H locs hP hD hS => ?_)
    have hP := cP_ (cw_351 ad pr N cI cR L1 L2 (wA (wA u24 0 348 pa) 0 350 0) 0) hP
    have hD := cD_ (cw_351 ad pr N cI cR L1 L2 (wA (wA u24 0 348 pa) 0 350 0) 0) hD
    refine lv_aload_n hx hb dX6_begin_107 rfl (lv_at hl 1 rfl) ?_
    refine lv_iconst (v := 0) hx hb dX6_begin_108 (by decide) ?_
    refine va_put (D := (dC, dI)) (ci := 9) (fs := oF_X6 ad pr (wA (wA (wA u24 0 348 pa) 0 350 0) 0 351 0)) (v := .int 0) (ty := .int) (C := RX6) (T := TX6) (N := 9) hx hb ht itX6 tyX6 tyX6_ok nmX6 hown hK hP hD hS 6 rfl rfl 7 (by decide) (ht _ tw_803) (fun _ h9 => h9) rfl (by decide +kernel) rfl rfl (Nat.le_of_ble_eq_true rfl) dX6_begin_109 (fun H locs hP hD hS => ?_)
    have hP := cP_ (cw_353 ad pr N cI cR L1 L2 (wA (wA (wA u24 0 348 pa) 0 350 0) 0 351 0) 0) hP
    have hD := cD_ (cw_353 ad pr N cI cR L1 L2 (wA (wA (wA u24 0 348 pa) 0 350 0) 0 351 0) 0) hD
    refine lv_aload_n hx hb dX6_begin_112 rfl (lv_at hl 1 rfl) ?_
    refine va_get (D := (dC, dI)) (ci := 9) (fs := oF_X6 ad pr (wA (wA (wA (wA u24 0 348 pa) 0 350 0) 0 351 0) 0 353 0)) (v := .ref (ad 905)) (C := RX6) (T := TX6) (N := 9) hx hb ht itX6 hown hK hP 6 rfl rfl 8 (by decide) (ht _ tw_800) (fun _ h9 => h9) rfl dX6_begin_113 ?_
    refine cu_v (rn_Vk (n := 0) (As := []) (rest := []) hx hb hml hown ht hKK hFx hP hD hS hA (c_x_X3_beginAnew l dC dI cI cB cZ cJ cR tb H.size ad pr N L1 L2 (wA (wA (wA (wA u24 0 348 pa) 0 350 0) 0 351 0) 0 353 0)  ) tw_834 tw_835 (by decide +kernel) rfl rfl ⟨Nat.le_of_ble_eq_true rfl, Nat.le_of_ble_eq_true rfl⟩ (List.range (cW ad pr N cI cR L1 L2 (wA (wA (wA (wA u24 0 348 pa) 0 350 0) 0 351 0) 0 353 0)).length) (rg_map _) (nd_range _) 5 rfl rfl rfl rfl hl.1 rfl (Nat.le_of_ble_eq_true rfl) dX6_begin_116 ⟨Nat.le_of_ble_eq_true rfl, Nat.le_of_ble_eq_true rfl⟩) hP hD hS hA (fun u27 H locs hw26 hP hD hS => ?_)
    obtain ⟨fr26, rs26⟩ := hw26
    have rs26 : RS0 (wA (wA (wA (wA u24 0 348 pa) 0 350 0) 0 351 0) 0 353 0) u27 := rs26
    refine W.widen (k := 0) (n := 0) (Nat.le_refl _) (Nat.le_refl _) ?_
    have q29 : (u27.1 0 353).toInt = (0 : Int) := congrArg Int32.toInt ((fr26.2.1 353 (by decide)).trans (show (wA (wA (wA (wA u24 0 348 pa) 0 350 0) 0 351 0) 0 353 0).1 0 353 = (0 : Int32) by rfl))
    exact W.vret hx hb hr (fun t ht9 hW => ⟨⟨u27, rfl, ⟨(FC.tr (FC.f (FC.f (FC.f (FC.f (FC.tr (FC.tr (FC.tr (FC.tr (FC.tr (FC.tr (FC.rf _) (FC.up fwL11 (by decide) (by decide))) (FC.up fr9 (by decide) (by decide))) (FC.up fr13 (by decide) (by decide))) (FC.up fr16 (by decide) (by decide))) (FC.up fr19 (by decide) (by decide))) (FC.up fr23 (by decide) (by decide))) pa (by decide)) 0 (by decide)) 0 (by decide)) 0 (by decide)) (FC.up fr26 (by decide) (by decide))), (show (u27.1 0 353).toInt = 0 from (om_770ca75dd5 q29)), (RS0.tr (show RS0 v (wA (wA (wA (wA u24 0 348 pa) 0 350 0) 0 351 0) 0 353 0) from (RS0.w (RS0.w (RS0.w (RS0.w (RS0.tr (RS0.tr (RS0.tr (RS0.tr (RS0.tr (RS0.tr RS0.rf rsL11) rs9) rs13) rs16) rs19) rs23) (by decide)) (by decide)) (by decide)) (by decide))) rs26)⟩, by rw [ht9]; exact hP, hD⟩, hS.F ht9⟩) hS.2.2 dX6_begin_119
  · have z30 : ka.toInt < (w11.1 0 383).toInt := nle_z rfl rfl h4
    refine lv_aload_n hx hb dX6_begin_20 rfl (lv_at hl 1 rfl) ?_
    refine lv_iconst (v := 4) hx hb dX6_begin_21 (by decide) ?_
    refine lv_iload hx hb dX6_begin_22 (lv_at hl 0 rfl) ?_
    refine lv_imul hx hb dX6_begin_24 ?_
    refine lv_aload_n hx hb dX6_begin_25 rfl (lv_at hl 2 rfl) ?_
    refine lv_iload hx hb dX6_begin_26 (lv_at hl 0 rfl) ?_
    refine W.eq (g2 := F0 m 28 ls [.int ka, .ref (ad 908), .int ((4 : Int32) * ka), .ref (ad 906)]) (by rw [show pr ps = (ad 908) from hps]) ?_
    refine cu_i (rn_Vk (n := 1) (As := [.int ka]) (rest := [.int ((4 : Int32) * ka), .ref (ad 906)]) hx hb hml hown ht hKK hFx hP hD hS hA (c_x_X7_wordAt l dC dI cI cB cZ cJ cR tb H.size ad pr N L1 L2 w11 ka (show (N : Int) ≤ 4096 from (om_1c2c49c46c zNN))) tw_836 tw_837 (by decide +kernel) rfl rfl ⟨Nat.le_of_ble_eq_true rfl, Nat.le_of_ble_eq_true rfl⟩ (List.range (cW ad pr N cI cR L1 L2 w11).length) (rg_map _) (nd_range _) 8 rfl rfl rfl rfl hl.1 rfl (Nat.le_of_ble_eq_true rfl) dX6_begin_28 ⟨Nat.le_of_ble_eq_true rfl, Nat.le_of_ble_eq_true rfl⟩) hP hD hS hA (fun r33 u32 H locs hw31 hP hD hS => ?_)
    obtain ⟨rfl, ex31⟩ := hw31
    refine W.widen (k := 0) (n := 0) (Nat.le_refl _) (Nat.le_refl _) ?_
    refine cu_v (rn_Vk (n := 2) (As := [.int ((4 : Int32) * ka), .int r33]) (rest := []) hx hb hml hown ht hKK hFx hP hD hS hA (c_x_X6_layWord l dC dI cI cB cZ cJ cR tb H.size ad pr N L1 L2 w11 ((4 : Int32) * ka) r33 (show (N : Int) ≤ 4096 from (om_1c2c49c46c zNN))) tw_796 tw_797 (by decide +kernel) rfl rfl ⟨Nat.le_of_ble_eq_true rfl, Nat.le_of_ble_eq_true rfl⟩ (List.range (cW ad pr N cI cR L1 L2 w11).length) (rg_map _) (nd_range _) 6 rfl rfl rfl rfl hl.1 rfl (Nat.le_of_ble_eq_true rfl) dX6_begin_31 ⟨Nat.le_of_ble_eq_true rfl, Nat.le_of_ble_eq_true rfl⟩) hP hD hS hA (fun u35 H locs hw34 hP hD hS => ?_)
    obtain ⟨fr34, rs34⟩ := hw34
    have rs34 : RS0 w11 u35 := rs34
    refine W.widen (k := 0) (n := 0) (Nat.le_refl _) (Nat.le_refl _) ?_
    refine lv_iinc (v := (ka + (1 : Int32))) (lv' := [(5, .int (ka + (1 : Int32))), (0, .ref (ad 906)), (1, .ref (pr ps)), (2, .int pa), (3, .int pb), (4, .int pc1)]) hx hb dX6_begin_34 hl (k := 0) rfl (rfl) (by decide) rfl (fun ls hl => ?_)
    have z37 : (ka + (1 : Int32)).toInt = ka.toInt + 1 := inc_lt z30
    refine lv_goto (tgt := 11) hx hb dX6_begin_37 (by decide) ?_
    have q38 : (w11.1 0 383).toInt = (v.1 0 383).toInt := congrArg Int32.toInt ((fwL11.2.1 383 (by decide)).trans (show v.1 0 383 = (v.1 0 383) by rfl))
    exact ih11 ((ka + (1 : Int32)), u35) _ _ _ (show ((v.1 0 383).toInt - (ka + (1 : Int32)).toInt).toNat < ((v.1 0 383).toInt - ka.toInt).toNat from tn_z (om_7310d536e1 z37) (om_6b3904b74d q38 z30)) ⟨(show FC [345, 348, 350, 351, 353] [0, 346, 347] v u35 from (FC.tr (FC.tr (FC.rf _) (FC.up fwL11 (by decide) (by decide))) (FC.up fr34 (by decide) (by decide)))), (show 0 ≤ (ka + (1 : Int32)).toInt from (om_db977a0953 f1L11 z37)), (show RS0 v u35 from (RS0.tr (RS0.tr RS0.rf rsL11) rs34)), hP, hD, hS, lv_sub hl [0, 1, 2, 3, 4, 5] rfl⟩
theorem om_e04efce1b5 {x0 : Int} : 0 ≤ (0 : Int) ∧ ((0 : Int) = 0 ∨ (0 : Int) ≤ x0) := by omega
theorem om_cb8d0f9f6f {x0 : Int} : x0 ≤ x0 ∧ x0 ≤ x0 + (0 : Int) := by omega
theorem om_1a3e84fad0 {x0 x1 x2 x3 : Int} (h0 : x0 ≤ 50000) (h1 : 0 ≤ x1 ∧ (x1 = 0 ∨ x1 ≤ x0)) (h2 : x2 ≤ x3 ∧ x3 ≤ x2 + x1) : x2 ≤ x3 ∧ x3 ≤ x2 + 50000 := by omega
theorem om_ac8746b56d {x0 x1 x2 x3 : Int} (h0 : x0 ≤ 50000) (h1 : x1 ≤ x2 ∧ x2 ≤ x1 + x3) (h2 : x3 < x0) : x1 ≤ x2 ∧ x2 ≤ x1 + 50000 := by omega
theorem om_560c75b79b {x0 x1 x2 x3 : Int} (h0 : 0 ≤ x0 ∧ x0 + 50000 ≤ 200000000) (h1 : x1 ≤ 50000) (h2 : x0 ≤ x2 ∧ x2 ≤ x0 + x3) (h3 : x3 < x1) : 0 ≤ x2 ∧ x2 + 1 ≤ 200000000 := by omega
theorem om_339c474fd0 {x0 x1 x2 : Int} (h0 : 0 ≤ x0 ∧ (x0 = 0 ∨ x0 ≤ x1)) (h1 : x0 < x1) (h2 : x2 = x0 + 1) : 0 ≤ x2 ∧ (x2 = 0 ∨ x2 ≤ x1) := by omega
theorem om_7f22d4cce7 {x0 x1 x2 x3 x4 : Int} (h0 : x0 ≤ x1 ∧ x1 ≤ x0 + x2) (h1 : x1 ≤ x3 ∧ x3 ≤ x1 + 1) (h2 : x4 = x2 + 1) : x0 ≤ x3 ∧ x3 ≤ x0 + x4 := by omega
set_option maxHeartbeats 4000000 in
set_option maxRecDepth 100000 in
theorem c_x_X6_ticks (l : Launch) (dC : Nat → ClassId) (dI : Nat → Nat → Nat) (cI cB cZ cJ cR : ClassId) (tb : Nat → Nat) (sz : Nat) (ad : Nat → Nat) (pr : Int32 → Nat) (N : Nat) (L1 L2 : List Nat) (v : MS) (pa : Int32) (z344 : 0 ≤ (v.1 0 344).toInt ∧ (v.1 0 344).toInt ≤ 64) (zNN : (N : Int) ≤ 4096) (zq : 0 ≤ (v.1 0 353).toInt ∧ (v.1 0 353).toInt + 50000 ≤ 200000000) (zm : pa.toInt ≤ 50000) : Met l yX6_ticks (Cond.code yX6_ticks cX6_ticks 4 (some .int) :: tw_W) ({ frames := 6, cells := 0, slots := 0, locals := 133 }) (pc_ (dC, dI) (tyS cI cB cZ cJ cR) tb (cW ad pr N cI cR L1 L2 v) sz [.ref (ad 906), .int pa]) (qi_ (dC, dI) (cW ad pr N cI cR L1 L2 v) sz (fun (r : Int32) (u : MS) => FC [345, 348, 349, 350, 351, 353] [0, 346, 347, 352] v u ∧ ((v.1 0 353).toInt ≤ (u.1 0 353).toInt ∧ (u.1 0 353).toInt ≤ (v.1 0 353).toInt + 50000) ∧ (RS0 v u)) (fun (u : MS) => (cW ad pr N cI cR L1 L2 u))) 0 0 (va_A (cW ad pr N cI cR L1 L2 v) sz) := by
  refine Met.ofW (cc := cX6_ticks) (maxL := 4) (ret := (some .int)) (by decide) rfl ?_
  intro p e s m args below meth c s₁ B hml hv
  obtain ⟨rfl, hsz, hP, hKK, hD0, hFx⟩ := hv
  have hK := hKK.1
  have hx := B.exec
  have hb := B.bytes
  have hr := B.returns
  have ht : ∀ w ∈ tw_W, w.before _ s = true := fun w h => atoms_spec (ws := Cond.code yX6_ticks cX6_ticks 4 (some .int) :: tw_W) B.pre w (List.mem_cons_of_mem _ h)
  have hown : s.vm.findClass RX6 = some m.cls := findClass_of_methodNamed B.named
  have hlocks := B.notSynchronized
  subst hsz
  unfold qi_
  have hD := hD0.self (sz := s.heap.size)
  generalize hAe : va_A (cW ad pr N cI cR L1 L2 v) s.heap.size = A at hD hFx ⊢
  have hA : ∀ q : Nat, s.heap.size ≤ q → A q := fun q h => by rw [← hAe]; exact Or.inr h
  have hS : va_S A s.heap s.heap [] := va_S.rf
  have hl := lv_entry ([.ref (ad 906), .int pa]) (n := 4) (Nat.le_of_ble_eq_true rfl)
  rw [lg_entry_eq]
  generalize (lg_sl ([.ref (ad 906), .int pa]) ++ List.replicate (4 - (lg_sl ([.ref (ad 906), .int pa])).length) Slot.unset).toArray = ls at hl ⊢
  have hl : lv_has ls 4 [(0, .ref (ad 906)), (1, .int pa)] := hl
  refine lv_aload_n hx hb dX6_ticks_0 rfl (lv_at hl 0 rfl) ?_
  refine va_get (D := (dC, dI)) (ci := 9) (fs := oF_X6 ad pr v) (v := .int (v.1 0 351)) (C := RX6) (T := TX6) (N := 9) hx hb ht itX6 hown hK hP 6 rfl rfl 5 (by decide) (ht _ tw_826) (fun _ h9 => h9) rfl dX6_ticks_1 ?_
  refine lv_istore_n (lv' := [(2, .int (v.1 0 351)), (0, .ref (ad 906)), (1, .int pa)]) hx hb dX6_ticks_4 rfl hl (by decide) rfl (fun ls hl => ?_)
  refine lv_iconst (v := 0) hx hb dX6_ticks_5 (by decide) ?_
  refine lv_istore_n (lv' := [(3, .int 0), (2, .int (v.1 0 351)), (0, .ref (ad 906)), (1, .int pa)]) hx hb dX6_ticks_6 rfl hl (by decide) rfl (fun ls hl => ?_)
  refine lpm_ (X := Int32 × MS) (P := (fun (x9 : Int32 × MS) (H : Heap) (locs : List Loc) (ls : Array Slot) => (FC [345, 348, 349, 350, 351, 353] [0, 346, 347, 352] v x9.2) ∧ (0 ≤ x9.1.toInt ∧ (x9.1.toInt = 0 ∨ x9.1.toInt ≤ pa.toInt)) ∧ ((v.1 0 353).toInt ≤ (x9.2.1 0 353).toInt ∧ (x9.2.1 0 353).toInt ≤ (v.1 0 353).toInt + x9.1.toInt) ∧ (RS0 v x9.2) ∧ va_P (dC, dI) vwCl (cW ad pr N cI cR L1 L2 x9.2) H ∧ va_D A (cW ad pr N cI cR L1 L2 x9.2) ∧ va_S A s.heap H locs ∧ lv_has ls 4 [(3, .int x9.1), (2, .int (v.1 0 351)), (0, .ref (ad 906)), (1, .int pa)])) (fun x9 => (pa.toInt - x9.1.toInt).toNat) 7 (fun x9 H locs ls hh ih7 => ?_) (0, v) _ _ _ ⟨(show FC [345, 348, 349, 350, 351, 353] [0, 346, 347, 352] v v from (FC.rf _)), (show 0 ≤ (0 : Int) ∧ ((0 : Int) = 0 ∨ (0 : Int) ≤ pa.toInt) from om_e04efce1b5), (show (v.1 0 353).toInt ≤ (v.1 0 353).toInt ∧ (v.1 0 353).toInt ≤ (v.1 0 353).toInt + (0 : Int) from om_cb8d0f9f6f), (show RS0 v v from RS0.rf), hP, hD, hS, lv_sub hl [0, 1, 2, 3] rfl⟩
  obtain ⟨ka, w7⟩ := x9
  obtain ⟨fwL7, f1L7, f2L7, rsL7, hP, hD, hS, hl⟩ := hh
  have fwL7 : FC [345, 348, 349, 350, 351, 353] [0, 346, 347, 352] v w7 := fwL7
  have f1L7 : 0 ≤ ka.toInt ∧ (ka.toInt = 0 ∨ ka.toInt ≤ pa.toInt) := f1L7
  have f2L7 : (v.1 0 353).toInt ≤ (w7.1 0 353).toInt ∧ (w7.1 0 353).toInt ≤ (v.1 0 353).toInt + ka.toInt := f2L7
  have rsL7 : RS0 v w7 := rsL7
  have hP : va_P (dC, dI) vwCl (cW ad pr N cI cR L1 L2 w7) H := hP
  have hD : va_D A (cW ad pr N cI cR L1 L2 w7) := hD
  have hl : lv_has ls 4 [(3, .int ka), (2, .int (v.1 0 351)), (0, .ref (ad 906)), (1, .int pa)] := hl
  refine lv_iload_n hx hb dX6_ticks_7 rfl (lv_at hl 0 rfl) ?_
  refine lv_iload_n hx hb dX6_ticks_8 rfl (lv_at hl 3 rfl) ?_
  refine lv_icmp_ge (tgt := 29) hx hb dX6_ticks_9 (by decide) (fun h1 => ?_) (fun h1 => ?_)
  · have z2 : pa.toInt ≤ ka.toInt := le_z rfl rfl h1
    refine lv_aload_n hx hb dX6_ticks_29 rfl (lv_at hl 2 rfl) ?_
    refine va_get (D := (dC, dI)) (ci := 9) (fs := oF_X6 ad pr w7) (v := .int (w7.1 0 351)) (C := RX6) (T := TX6) (N := 9) hx hb ht itX6 hown hK hP 6 rfl rfl 5 (by decide) (ht _ tw_826) (fun _ h9 => h9) rfl dX6_ticks_30 ?_
    refine lv_iload_n hx hb dX6_ticks_33 rfl (lv_at hl 1 rfl) ?_
    refine lv_isub hx hb dX6_ticks_34 ?_
    exact W.iret (v := ((w7.1 0 351) - (v.1 0 351))) hx hb hr (fun t ht9 hW => ⟨⟨((w7.1 0 351) - (v.1 0 351)), w7, rfl, ⟨(FC.tr (FC.rf _) (FC.up fwL7 (by decide) (by decide))), (show (v.1 0 353).toInt ≤ (w7.1 0 353).toInt ∧ (w7.1 0 353).toInt ≤ (v.1 0 353).toInt + 50000 from (om_1a3e84fad0 zm f1L7 f2L7)), (RS0.tr RS0.rf rsL7)⟩, by rw [ht9]; exact hP, hD⟩, hS.F ht9⟩) hS.2.2 dX6_ticks_35
  · have z3 : ka.toInt < pa.toInt := nle_z rfl rfl h1
    refine lv_aload_n hx hb dX6_ticks_12 rfl (lv_at hl 2 rfl) ?_
    refine va_get (D := (dC, dI)) (ci := 9) (fs := oF_X6 ad pr w7) (v := .int (w7.1 0 350)) (C := RX6) (T := TX6) (N := 9) hx hb ht itX6 hown hK hP 6 rfl rfl 4 (by decide) (ht _ tw_778) (fun _ h9 => h9) rfl dX6_ticks_13 ?_
    refine lv_if_ne (tgt := 29) hx hb dX6_ticks_16 (by decide) (fun h4 => ?_) (fun h4 => ?_)
    · have z5 : (w7.1 0 350).toInt ≠ (0 : Int) := ne_z rfl (show (0 : Int32).toInt = (0 : Int) by decide) h4
      refine lv_aload_n hx hb dX6_ticks_29 rfl (lv_at hl 2 rfl) ?_
      refine va_get (D := (dC, dI)) (ci := 9) (fs := oF_X6 ad pr w7) (v := .int (w7.1 0 351)) (C := RX6) (T := TX6) (N := 9) hx hb ht itX6 hown hK hP 6 rfl rfl 5 (by decide) (ht _ tw_826) (fun _ h9 => h9) rfl dX6_ticks_30 ?_
      refine lv_iload_n hx hb dX6_ticks_33 rfl (lv_at hl 1 rfl) ?_
      refine lv_isub hx hb dX6_ticks_34 ?_
      exact W.iret (v := ((w7.1 0 351) - (v.1 0 351))) hx hb hr (fun t ht9 hW => ⟨⟨((w7.1 0 351) - (v.1 0 351)), w7, rfl, ⟨(FC.tr (FC.rf _) (FC.up fwL7 (by decide) (by decide))), (show (v.1 0 353).toInt ≤ (w7.1 0 353).toInt ∧ (w7.1 0 353).toInt ≤ (v.1 0 353).toInt + 50000 from (om_ac8746b56d zm f2L7 z3)), (RS0.tr RS0.rf rsL7)⟩, by rw [ht9]; exact hP, hD⟩, hS.F ht9⟩) hS.2.2 dX6_ticks_35
    · have z6 : (w7.1 0 350).toInt = (0 : Int) := eq_z rfl (show (0 : Int32).toInt = (0 : Int) by decide) h4
      refine lv_aload_n hx hb dX6_ticks_19 rfl (lv_at hl 2 rfl) ?_
      have q7 : (w7.1 0 344).toInt = (v.1 0 344).toInt := congrArg Int32.toInt ((fwL7.2.1 344 (by decide)).trans (show v.1 0 344 = (v.1 0 344) by rfl))
      refine cu_v (rn_Vk (n := 0) (As := []) (rest := []) hx hb hml hown ht hKK hFx hP hD hS hA (c_x_X6_tick l dC dI cI cB cZ cJ cR tb H.size ad pr N L1 L2 w7  (show 0 ≤ (w7.1 0 344).toInt ∧ (w7.1 0 344).toInt ≤ 64 from (om_4eb3e36267 z344 q7)) (show (N : Int) ≤ 4096 from (om_1c2c49c46c zNN)) (show 0 ≤ (w7.1 0 353).toInt ∧ (w7.1 0 353).toInt + 1 ≤ 200000000 from (om_560c75b79b zq zm f2L7 z3))) tw_838 tw_839 (by decide +kernel) rfl rfl ⟨Nat.le_of_ble_eq_true rfl, Nat.le_of_ble_eq_true rfl⟩ (List.range (cW ad pr N cI cR L1 L2 w7).length) (rg_map _) (nd_range _) 6 rfl rfl rfl rfl hl.1 rfl (Nat.le_of_ble_eq_true rfl) dX6_ticks_20 ⟨Nat.le_of_ble_eq_true rfl, Nat.le_of_ble_eq_true rfl⟩) hP hD hS hA (fun u10 H locs hw8 hP hD hS => ?_)
      obtain ⟨fr8, pq8, rs8⟩ := hw8
      have pq8 : (w7.1 0 353).toInt ≤ (u10.1 0 353).toInt ∧ (u10.1 0 353).toInt ≤ (w7.1 0 353).toInt + 1 := pq8
      have rs8 : RS0 w7 u10 := rs8
      refine W.widen (k := 0) (n := 0) (Nat.le_refl _) (Nat.le_refl _) ?_
      refine lv_iinc (v := (ka + (1 : Int32))) (lv' := [(3, .int (ka + (1 : Int32))), (2, .int (v.1 0 351)), (0, .ref (ad 906)), (1, .int pa)]) hx hb dX6_ticks_23 hl (k := 0) rfl (rfl) (by decide) rfl (fun ls hl => ?_)
      have z12 : (ka + (1 : Int32)).toInt = ka.toInt + 1 := inc_lt z3
      refine lv_goto (tgt := 7) hx hb dX6_ticks_26 (by decide) ?_
      exact ih7 ((ka + (1 : Int32)), u10) _ _ _ (show (pa.toInt - (ka + (1 : Int32)).toInt).toNat < (pa.toInt - ka.toInt).toNat from tn_z (om_7310d536e1 z12) (om_fe525f7549 z3)) ⟨(show FC [345, 348, 349, 350, 351, 353] [0, 346, 347, 352] v u10 from (FC.tr (FC.tr (FC.rf _) (FC.up fwL7 (by decide) (by decide))) (FC.up fr8 (by decide) (by decide)))), (show 0 ≤ (ka + (1 : Int32)).toInt ∧ ((ka + (1 : Int32)).toInt = 0 ∨ (ka + (1 : Int32)).toInt ≤ pa.toInt) from (om_339c474fd0 f1L7 z3 z12)), (show (v.1 0 353).toInt ≤ (u10.1 0 353).toInt ∧ (u10.1 0 353).toInt ≤ (v.1 0 353).toInt + (ka + (1 : Int32)).toInt from (om_7f22d4cce7 f2L7 pq8 z12)), (show RS0 v u10 from (RS0.tr (RS0.tr RS0.rf rsL7) rs8)), hP, hD, hS, lv_sub hl [0, 1, 2, 3] rfl⟩
