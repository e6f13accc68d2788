theorem dX3_add_0 : decode cX3_add 0 = .ok (.aload_n 0, 1) := by decide +kernel
theorem dX3_add_1 : decode cX3_add 1 = .ok (.getfield 15, 3) := by decide +kernel
theorem tw_754 : (.fieldLink RX3 15 "PocketCompiler$Gifts" "size" "I" : Cond) ∈ tw_W := tw_in (t8_1 (List.mem_of_getElem? (i := 50) rfl)) rfl
theorem itX3 : ∀ w ∈ wsX30, w ∈ tw_W := tw_all (by decide +kernel)
theorem dX3_add_4 : decode cX3_add 4 = .ok (.bipush 64, 2) := by decide +kernel
theorem dX3_add_6 : decode cX3_add 6 = .ok (.if_icmp .lt 5, 3) := by decide +kernel
theorem dX3_add_11 : decode cX3_add 11 = .ok (.aload_n 0, 1) := by decide +kernel
theorem dX3_add_12 : decode cX3_add 12 = .ok (.getfield 11, 3) := by decide +kernel
theorem tw_755 : (.fieldLink RX3 11 "PocketCompiler$Gifts" "numbers" "[I" : Cond) ∈ tw_W := tw_in (t8_1 (List.mem_of_getElem? (i := 49) rfl)) rfl
theorem dX3_add_15 : decode cX3_add 15 = .ok (.aload_n 0, 1) := by decide +kernel
theorem dX3_add_16 : decode cX3_add 16 = .ok (.getfield 15, 3) := by decide +kernel
theorem dX3_add_19 : decode cX3_add 19 = .ok (.iload_n 1, 1) := by decide +kernel
theorem dX3_add_20 : decode cX3_add 20 = .ok (.iastore, 1) := by decide +kernel
theorem dX3_add_21 : decode cX3_add 21 = .ok (.aload_n 0, 1) := by decide +kernel
theorem dX3_add_22 : decode cX3_add 22 = .ok (.dup, 1) := by decide +kernel
theorem dX3_add_23 : decode cX3_add 23 = .ok (.getfield 15, 3) := by decide +kernel
theorem dX3_add_26 : decode cX3_add 26 = .ok (.iconst 1, 1) := by decide +kernel
theorem dX3_add_27 : decode cX3_add 27 = .ok (.iadd, 1) := by decide +kernel
theorem dX3_add_28 : decode cX3_add 28 = .ok (.putfield 15, 3) := by decide +kernel
theorem dX3_add_31 : decode cX3_add 31 = .ok (.aload_n 0, 1) := by decide +kernel
theorem dX3_add_32 : decode cX3_add 32 = .ok (.getfield 15, 3) := by decide +kernel
theorem dX3_add_35 : decode cX3_add 35 = .ok (.ireturn, 1) := by decide +kernel
theorem dX3_add_9 : decode cX3_add 9 = .ok (.iconst (-1), 1) := by decide +kernel
theorem dX3_add_10 : decode cX3_add 10 = .ok (.ireturn, 1) := by decide +kernel
theorem dX3_clear_0 : decode cX3_clear 0 = .ok (.aload_n 0, 1) := by decide +kernel
theorem dX3_clear_1 : decode cX3_clear 1 = .ok (.getfield 15, 3) := by decide +kernel
theorem dX3_clear_4 : decode cX3_clear 4 = .ok (.istore_n 1, 1) := by decide +kernel
theorem dX3_clear_5 : decode cX3_clear 5 = .ok (.aload_n 0, 1) := by decide +kernel
theorem dX3_clear_6 : decode cX3_clear 6 = .ok (.iconst 0, 1) := by decide +kernel
theorem dX3_clear_7 : decode cX3_clear 7 = .ok (.putfield 15, 3) := by decide +kernel
theorem dX3_clear_10 : decode cX3_clear 10 = .ok (.aload_n 0, 1) := by decide +kernel
theorem dX3_clear_11 : decode cX3_clear 11 = .ok (.iconst 0, 1) := by decide +kernel
theorem dX3_clear_12 : decode cX3_clear 12 = .ok (.putfield 19, 3) := by decide +kernel
theorem tw_756 : (.fieldLink RX3 19 "PocketCompiler$Gifts" "used" "I" : Cond) ∈ tw_W := tw_in (t8_1 (List.mem_of_getElem? (i := 52) rfl)) rfl
theorem dX3_clear_15 : decode cX3_clear 15 = .ok (.iload_n 1, 1) := by decide +kernel
theorem dX3_clear_16 : decode cX3_clear 16 = .ok (.ireturn, 1) := by decide +kernel
theorem dX3_beginAnew_0 : decode cX3_beginAnew 0 = .ok (.aload_n 0, 1) := by decide +kernel
theorem dX3_beginAnew_1 : decode cX3_beginAnew 1 = .ok (.iconst 0, 1) := by decide +kernel
theorem dX3_beginAnew_2 : decode cX3_beginAnew 2 = .ok (.putfield 19, 3) := by decide +kernel
theorem dX3_beginAnew_5 : decode cX3_beginAnew 5 = .ok (.return_, 1) := by decide +kernel
theorem dX3_numberAt_0 : decode cX3_numberAt 0 = .ok (.iload_n 1, 1) := by decide +kernel
theorem dX3_numberAt_1 : decode cX3_numberAt 1 = .ok (.ifCond .lt 26, 3) := by decide +kernel
theorem dX3_numberAt_27 : decode cX3_numberAt 27 = .ok (.iconst 0, 1) := by decide +kernel
theorem dX3_numberAt_28 : decode cX3_numberAt 28 = .ok (.ireturn, 1) := by decide +kernel
theorem dX3_numberAt_4 : decode cX3_numberAt 4 = .ok (.iload_n 1, 1) := by decide +kernel
theorem dX3_numberAt_5 : decode cX3_numberAt 5 = .ok (.aload_n 0, 1) := by decide +kernel
theorem dX3_numberAt_6 : decode cX3_numberAt 6 = .ok (.getfield 15, 3) := by decide +kernel
theorem dX3_numberAt_9 : decode cX3_numberAt 9 = .ok (.if_icmp .ge 18, 3) := by decide +kernel
theorem dX3_numberAt_12 : decode cX3_numberAt 12 = .ok (.iload_n 1, 1) := by decide +kernel
theorem dX3_numberAt_13 : decode cX3_numberAt 13 = .ok (.bipush 64, 2) := by decide +kernel
theorem dX3_numberAt_15 : decode cX3_numberAt 15 = .ok (.if_icmp .ge 12, 3) := by decide +kernel
theorem dX3_numberAt_18 : decode cX3_numberAt 18 = .ok (.aload_n 0, 1) := by decide +kernel
theorem dX3_numberAt_19 : decode cX3_numberAt 19 = .ok (.getfield 11, 3) := by decide +kernel
theorem dX3_numberAt_22 : decode cX3_numberAt 22 = .ok (.iload_n 1, 1) := by decide +kernel
theorem dX3_numberAt_23 : decode cX3_numberAt 23 = .ok (.iaload, 1) := by decide +kernel
theorem dX3_numberAt_24 : decode cX3_numberAt 24 = .ok (.goto 4, 3) := by decide +kernel
theorem dX3_next_0 : decode cX3_next 0 = .ok (.aload_n 0, 1) := by decide +kernel
theorem dX3_next_1 : decode cX3_next 1 = .ok (.getfield 19, 3) := by decide +kernel
theorem dX3_next_4 : decode cX3_next 4 = .ok (.aload_n 0, 1) := by decide +kernel
theorem dX3_next_5 : decode cX3_next 5 = .ok (.getfield 15, 3) := by decide +kernel
theorem dX3_next_8 : decode cX3_next 8 = .ok (.if_icmp .lt 5, 3) := by decide +kernel
theorem dX3_next_13 : decode cX3_next 13 = .ok (.aload_n 0, 1) := by decide +kernel
theorem dX3_next_14 : decode cX3_next 14 = .ok (.dup, 1) := by decide +kernel
theorem dX3_next_15 : decode cX3_next 15 = .ok (.getfield 19, 3) := by decide +kernel
theorem dX3_next_18 : decode cX3_next 18 = .ok (.iconst 1, 1) := by decide +kernel
theorem dX3_next_19 : decode cX3_next 19 = .ok (.iadd, 1) := by decide +kernel
theorem dX3_next_20 : decode cX3_next 20 = .ok (.putfield 19, 3) := by decide +kernel
theorem dX3_next_23 : decode cX3_next 23 = .ok (.aload_n 0, 1) := by decide +kernel
theorem dX3_next_24 : decode cX3_next 24 = .ok (.aload_n 0, 1) := by decide +kernel
theorem dX3_next_25 : decode cX3_next 25 = .ok (.getfield 19, 3) := by decide +kernel
theorem dX3_next_28 : decode cX3_next 28 = .ok (.iconst 1, 1) := by decide +kernel
theorem dX3_next_29 : decode cX3_next 29 = .ok (.isub, 1) := by decide +kernel
theorem dX3_next_30 : decode cX3_next 30 = .ok (.invokevirtual 22, 3) := by decide +kernel
theorem tw_757 : (.code yX3_numberAt cX3_numberAt 2 (some .int) : Cond) ∈ tw_W := tw_in (t8_6 (List.mem_of_getElem? (i := 142) rfl)) rfl
theorem tw_758 : ∀ w ∈ ([.methodLink RX3 22 yX3_numberAt, .instanceMethod yX3_numberAt, .selects RX3 yX3_numberAt yX3_numberAt, .initialized RX3] : List Cond), w ∈ tw_W := al_c (tw_in (t8_6 (List.mem_of_getElem? (i := 139) rfl)) rfl) (al_c (tw_in (t8_6 (List.mem_of_getElem? (i := 140) rfl)) rfl) (al_c (tw_in (t8_6 (List.mem_of_getElem? (i := 141) rfl)) rfl) (al_c (tw_in (t8_1 (List.mem_of_getElem? (i := 2) rfl)) rfl) al_n)))
theorem dX3_next_33 : decode cX3_next 33 = .ok (.ireturn, 1) := by decide +kernel
theorem dX3_next_11 : decode cX3_next 11 = .ok (.iconst 0, 1) := by decide +kernel
theorem dX3_next_12 : decode cX3_next 12 = .ok (.ireturn, 1) := by decide +kernel
theorem dX4_numberedKind_0 : decode cX4_numberedKind 0 = .ok (.iload_n 0, 1) := by decide +kernel
theorem dX4_numberedKind_1 : decode cX4_numberedKind 1 = .ok (.iconst 1, 1) := by decide +kernel
theorem dX4_numberedKind_2 : decode cX4_numberedKind 2 = .ok (.if_icmp .eq 8, 3) := by decide +kernel
theorem dX4_numberedKind_10 : decode cX4_numberedKind 10 = .ok (.iconst 1, 1) := by decide +kernel
theorem dX4_numberedKind_11 : decode cX4_numberedKind 11 = .ok (.goto 4, 3) := by decide +kernel
theorem dX4_numberedKind_15 : decode cX4_numberedKind 15 = .ok (.istore_n 2, 1) := by decide +kernel
theorem dX4_numberedKind_16 : decode cX4_numberedKind 16 = .ok (.iload_n 2, 1) := by decide +kernel
theorem dX4_numberedKind_17 : decode cX4_numberedKind 17 = .ok (.ifCond .eq 7, 3) := by decide +kernel
theorem dX4_numberedKind_20 : decode cX4_numberedKind 20 = .ok (.iload_n 1, 1) := by decide +kernel
theorem dX4_numberedKind_21 : decode cX4_numberedKind 21 = .ok (.ifCond .ne 12, 3) := by decide +kernel
theorem dX4_numberedKind_33 : decode cX4_numberedKind 33 = .ok (.iload_n 0, 1) := by decide +kernel
theorem dX4_numberedKind_34 : decode cX4_numberedKind 34 = .ok (.iconst 5, 1) := by decide +kernel
theorem dX4_numberedKind_35 : decode cX4_numberedKind 35 = .ok (.if_icmp .ne 14, 3) := by decide +kernel
theorem dX4_numberedKind_49 : decode cX4_numberedKind 49 = .ok (.bipush 40, 2) := by decide +kernel
theorem dX4_numberedKind_51 : decode cX4_numberedKind 51 = .ok (.ireturn, 1) := by decide +kernel
theorem dX4_numberedKind_24 : decode cX4_numberedKind 24 = .ok (.getstatic 27, 3) := by decide +kernel
theorem tw_759 : (.fieldLink RX4 27 "PocketCompiler$Instruction" "NUMBERED" "[I" : Cond) ∈ tw_W := tw_in (t8_6 (List.mem_of_getElem? (i := 59) rfl)) rfl
theorem dX4_numberedKind_27 : decode cX4_numberedKind 27 = .ok (.iload_n 0, 1) := by decide +kernel
theorem dX4_numberedKind_28 : decode cX4_numberedKind 28 = .ok (.bipush 7, 2) := by decide +kernel
theorem dX4_numberedKind_30 : decode cX4_numberedKind 30 = .ok (.iand, 1) := by decide +kernel
theorem dX4_numberedKind_31 : decode cX4_numberedKind 31 = .ok (.iaload, 1) := by decide +kernel
theorem dX4_numberedKind_32 : decode cX4_numberedKind 32 = .ok (.ireturn, 1) := by decide +kernel
theorem dX4_numberedKind_5 : decode cX4_numberedKind 5 = .ok (.iload_n 0, 1) := by decide +kernel
theorem dX4_numberedKind_6 : decode cX4_numberedKind 6 = .ok (.iconst 5, 1) := by decide +kernel
theorem dX4_numberedKind_7 : decode cX4_numberedKind 7 = .ok (.if_icmp .ne 7, 3) := by decide +kernel
theorem dX4_numberedKind_14 : decode cX4_numberedKind 14 = .ok (.iconst 0, 1) := by decide +kernel
theorem dX4_numberedKind_38 : decode cX4_numberedKind 38 = .ok (.iload_n 1, 1) := by decide +kernel
theorem dX4_numberedKind_39 : decode cX4_numberedKind 39 = .ok (.bipush 32, 2) := by decide +kernel
theorem dX4_numberedKind_41 : decode cX4_numberedKind 41 = .ok (.if_icmp .ne 8, 3) := by decide +kernel
theorem dX4_numberedKind_44 : decode cX4_numberedKind 44 = .ok (.bipush 26, 2) := by decide +kernel
theorem dX4_numberedKind_46 : decode cX4_numberedKind 46 = .ok (.goto 5, 3) := by decide +kernel
theorem dX4_plainKind_0 : decode cX4_plainKind 0 = .ok (.iload_n 1, 1) := by decide +kernel
theorem dX4_plainKind_1 : decode cX4_plainKind 1 = .ok (.ifCond .ne 12, 3) := by decide +kernel
theorem dX4_plainKind_13 : decode cX4_plainKind 13 = .ok (.iload_n 1, 1) := by decide +kernel
theorem dX4_plainKind_14 : decode cX4_plainKind 14 = .ok (.bipush 32, 2) := by decide +kernel
theorem dX4_plainKind_16 : decode cX4_plainKind 16 = .ok (.if_icmp .eq 6, 3) := by decide +kernel
theorem dX4_plainKind_22 : decode cX4_plainKind 22 = .ok (.iload_n 0, 1) := by decide +kernel
theorem dX4_plainKind_23 : decode cX4_plainKind 23 = .ok (.ifCond .ne 8, 3) := by decide +kernel
theorem dX4_plainKind_31 : decode cX4_plainKind 31 = .ok (.iload_n 0, 1) := by decide +kernel
theorem dX4_plainKind_32 : decode cX4_plainKind 32 = .ok (.iconst 5, 1) := by decide +kernel
theorem dX4_plainKind_33 : decode cX4_plainKind 33 = .ok (.if_icmp .ne 8, 3) := by decide +kernel
theorem dX4_plainKind_41 : decode cX4_plainKind 41 = .ok (.bipush 40, 2) := by decide +kernel
theorem dX4_plainKind_43 : decode cX4_plainKind 43 = .ok (.ireturn, 1) := by decide +kernel
theorem dX4_plainKind_36 : decode cX4_plainKind 36 = .ok (.bipush 34, 2) := by decide +kernel
theorem dX4_plainKind_38 : decode cX4_plainKind 38 = .ok (.goto 5, 3) := by decide +kernel
theorem dX4_plainKind_26 : decode cX4_plainKind 26 = .ok (.bipush 28, 2) := by decide +kernel
theorem dX4_plainKind_28 : decode cX4_plainKind 28 = .ok (.goto 15, 3) := by decide +kernel
theorem dX4_plainKind_19 : decode cX4_plainKind 19 = .ok (.bipush 40, 2) := by decide +kernel
theorem dX4_plainKind_21 : decode cX4_plainKind 21 = .ok (.ireturn, 1) := by decide +kernel
theorem dX4_plainKind_4 : decode cX4_plainKind 4 = .ok (.getstatic 30, 3) := by decide +kernel
theorem tw_760 : (.fieldLink RX4 30 "PocketCompiler$Instruction" "PLAIN" "[I" : Cond) ∈ tw_W := tw_in (t8_6 (List.mem_of_getElem? (i := 64) rfl)) rfl
theorem dX4_plainKind_7 : decode cX4_plainKind 7 = .ok (.iload_n 0, 1) := by decide +kernel
theorem dX4_plainKind_8 : decode cX4_plainKind 8 = .ok (.bipush 7, 2) := by decide +kernel
theorem dX4_plainKind_10 : decode cX4_plainKind 10 = .ok (.iand, 1) := by decide +kernel
theorem dX4_plainKind_11 : decode cX4_plainKind 11 = .ok (.iaload, 1) := by decide +kernel
theorem dX4_plainKind_12 : decode cX4_plainKind 12 = .ok (.ireturn, 1) := by decide +kernel
theorem dX4_kindOf_0 : decode cX4_kindOf 0 = .ok (.iload_n 0, 1) := by decide +kernel
theorem dX4_kindOf_1 : decode cX4_kindOf 1 = .ok (.bipush 12, 2) := by decide +kernel
theorem dX4_kindOf_3 : decode cX4_kindOf 3 = .ok (.iushr, 1) := by decide +kernel
theorem dX4_kindOf_4 : decode cX4_kindOf 4 = .ok (.bipush 7, 2) := by decide +kernel
theorem dX4_kindOf_6 : decode cX4_kindOf 6 = .ok (.iand, 1) := by decide +kernel
theorem dX4_kindOf_7 : decode cX4_kindOf 7 = .ok (.istore_n 1, 1) := by decide +kernel
theorem dX4_kindOf_8 : decode cX4_kindOf 8 = .ok (.iload_n 0, 1) := by decide +kernel
theorem dX4_kindOf_9 : decode cX4_kindOf 9 = .ok (.bipush 127, 2) := by decide +kernel
theorem dX4_kindOf_11 : decode cX4_kindOf 11 = .ok (.iand, 1) := by decide +kernel
theorem dX4_kindOf_12 : decode cX4_kindOf 12 = .ok (.lookupswitch 190 #[(3, 123), (15, 153), (19, 135), (23, 102), (35, 129), (51, 144), (55, 100), (99, 117), (103, 106), (111, 104), (115, 165)], 100) := by decide +kernel
theorem dX4_kindOf_135 : decode cX4_kindOf 135 = .ok (.getstatic 13, 3) := by decide +kernel
theorem tw_761 : (.fieldLink RX4 13 "PocketCompiler$Instruction" "LOADS" "[I" : Cond) ∈ tw_W := tw_in (t8_6 (List.mem_of_getElem? (i := 52) rfl)) rfl
theorem dX4_kindOf_138 : decode cX4_kindOf 138 = .ok (.iload_n 1, 1) := by decide +kernel
theorem dX4_kindOf_139 : decode cX4_kindOf 139 = .ok (.iaload, 1) := by decide +kernel
theorem dX4_kindOf_140 : decode cX4_kindOf 140 = .ok (.ireturn, 1) := by decide +kernel
theorem dX4_kindOf_165 : decode cX4_kindOf 165 = .ok (.iload_n 1, 1) := by decide +kernel
theorem dX4_kindOf_166 : decode cX4_kindOf 166 = .ok (.ifCond .ne 8, 3) := by decide +kernel
theorem dX4_kindOf_174 : decode cX4_kindOf 174 = .ok (.bipush 40, 2) := by decide +kernel
theorem dX4_kindOf_176 : decode cX4_kindOf 176 = .ok (.ireturn, 1) := by decide +kernel
theorem dX4_kindOf_169 : decode cX4_kindOf 169 = .ok (.bipush 37, 2) := by decide +kernel
theorem dX4_kindOf_171 : decode cX4_kindOf 171 = .ok (.goto 5, 3) := by decide +kernel
theorem dX4_kindOf_147 : decode cX4_kindOf 147 = .ok (.iload_n 1, 1) := by decide +kernel
theorem dX4_kindOf_148 : decode cX4_kindOf 148 = .ok (.iload_n 0, 1) := by decide +kernel
theorem dX4_kindOf_149 : decode cX4_kindOf 149 = .ok (.bipush 25, 2) := by decide +kernel
theorem dX4_kindOf_151 : decode cX4_kindOf 151 = .ok (.iushr, 1) := by decide +kernel
theorem dX4_kindOf_152 : decode cX4_kindOf 152 = .ok (.invokestatic 19, 3) := by decide +kernel
theorem tw_762 : (.code yX4_numberedKind cX4_numberedKind 3 (some .int) : Cond) ∈ tw_W := tw_in (t8_6 (List.mem_of_getElem? (i := 58) rfl)) rfl
theorem tw_763 : ∀ w ∈ ([.methodLink RX4 19 yX4_numberedKind, .static yX4_numberedKind, .initialized yX4_numberedKind.cls] : List Cond), w ∈ tw_W := al_c (tw_in (t8_6 (List.mem_of_getElem? (i := 56) rfl)) rfl) (al_c (tw_in (t8_6 (List.mem_of_getElem? (i := 57) rfl)) rfl) (al_c (tw_in (t8_1 (List.mem_of_getElem? (i := 29) rfl)) rfl) al_n))
theorem dX4_kindOf_155 : decode cX4_kindOf 155 = .ok (.ireturn, 1) := by decide +kernel
theorem dX4_kindOf_114 : decode cX4_kindOf 114 = .ok (.iconst 1, 1) := by decide +kernel
theorem dX4_kindOf_115 : decode cX4_kindOf 115 = .ok (.ireturn, 1) := by decide +kernel
theorem dX4_kindOf_141 : decode cX4_kindOf 141 = .ok (.getstatic 16, 3) := by decide +kernel
theorem tw_764 : (.fieldLink RX4 16 "PocketCompiler$Instruction" "STORES" "[I" : Cond) ∈ tw_W := tw_in (t8_6 (List.mem_of_getElem? (i := 54) rfl)) rfl
theorem dX4_kindOf_144 : decode cX4_kindOf 144 = .ok (.iload_n 1, 1) := by decide +kernel
theorem dX4_kindOf_145 : decode cX4_kindOf 145 = .ok (.iaload, 1) := by decide +kernel
theorem dX4_kindOf_146 : decode cX4_kindOf 146 = .ok (.ireturn, 1) := by decide +kernel
theorem dX4_kindOf_156 : decode cX4_kindOf 156 = .ok (.iload_n 1, 1) := by decide +kernel
theorem dX4_kindOf_157 : decode cX4_kindOf 157 = .ok (.iload_n 0, 1) := by decide +kernel
theorem dX4_kindOf_158 : decode cX4_kindOf 158 = .ok (.bipush 25, 2) := by decide +kernel
theorem dX4_kindOf_160 : decode cX4_kindOf 160 = .ok (.iushr, 1) := by decide +kernel
theorem dX4_kindOf_161 : decode cX4_kindOf 161 = .ok (.invokestatic 23, 3) := by decide +kernel
theorem tw_765 : (.code yX4_plainKind cX4_plainKind 2 (some .int) : Cond) ∈ tw_W := tw_in (t8_6 (List.mem_of_getElem? (i := 63) rfl)) rfl
theorem tw_766 : ∀ w ∈ ([.methodLink RX4 23 yX4_plainKind, .static yX4_plainKind, .initialized yX4_plainKind.cls] : List Cond), w ∈ tw_W := al_c (tw_in (t8_6 (List.mem_of_getElem? (i := 61) rfl)) rfl) (al_c (tw_in (t8_6 (List.mem_of_getElem? (i := 62) rfl)) rfl) (al_c (tw_in (t8_1 (List.mem_of_getElem? (i := 29) rfl)) rfl) al_n))
theorem dX4_kindOf_164 : decode cX4_kindOf 164 = .ok (.ireturn, 1) := by decide +kernel
theorem dX4_kindOf_112 : decode cX4_kindOf 112 = .ok (.iconst 0, 1) := by decide +kernel
theorem dX4_kindOf_113 : decode cX4_kindOf 113 = .ok (.ireturn, 1) := by decide +kernel
theorem dX4_kindOf_129 : decode cX4_kindOf 129 = .ok (.getstatic 9, 3) := by decide +kernel
theorem tw_767 : (.fieldLink RX4 9 "PocketCompiler$Instruction" "BRANCHES" "[I" : Cond) ∈ tw_W := tw_in (t8_6 (List.mem_of_getElem? (i := 50) rfl)) rfl
theorem dX4_kindOf_132 : decode cX4_kindOf 132 = .ok (.iload_n 1, 1) := by decide +kernel
theorem dX4_kindOf_133 : decode cX4_kindOf 133 = .ok (.iaload, 1) := by decide +kernel
theorem dX4_kindOf_134 : decode cX4_kindOf 134 = .ok (.ireturn, 1) := by decide +kernel
theorem dX4_kindOf_118 : decode cX4_kindOf 118 = .ok (.iload_n 1, 1) := by decide +kernel
theorem dX4_kindOf_119 : decode cX4_kindOf 119 = .ok (.ifCond .ne 7, 3) := by decide +kernel
theorem dX4_kindOf_126 : decode cX4_kindOf 126 = .ok (.bipush 40, 2) := by decide +kernel
theorem dX4_kindOf_128 : decode cX4_kindOf 128 = .ok (.ireturn, 1) := by decide +kernel
theorem dX4_kindOf_122 : decode cX4_kindOf 122 = .ok (.iconst 3, 1) := by decide +kernel
theorem dX4_kindOf_123 : decode cX4_kindOf 123 = .ok (.goto 5, 3) := by decide +kernel
theorem dX4_kindOf_116 : decode cX4_kindOf 116 = .ok (.iconst 2, 1) := by decide +kernel
theorem dX4_kindOf_117 : decode cX4_kindOf 117 = .ok (.ireturn, 1) := by decide +kernel
theorem dX4_kindOf_177 : decode cX4_kindOf 177 = .ok (.iload_n 0, 1) := by decide +kernel
theorem dX4_kindOf_178 : decode cX4_kindOf 178 = .ok (.bipush 115, 2) := by decide +kernel
theorem dX4_kindOf_180 : decode cX4_kindOf 180 = .ok (.if_icmp .ne 8, 3) := by decide +kernel
theorem dX4_kindOf_188 : decode cX4_kindOf 188 = .ok (.iload_n 0, 1) := by decide +kernel
theorem dX4_kindOf_189 : decode cX4_kindOf 189 = .ok (.ldc 26, 2) := by decide +kernel
theorem tw_768 : (.constant RX4 26 (1048691) : Cond) ∈ tw_W := tw_in (t8_6 (List.mem_of_getElem? (i := 66) rfl)) rfl
theorem dX4_kindOf_191 : decode cX4_kindOf 191 = .ok (.if_icmp .ne 8, 3) := by decide +kernel
theorem dX4_kindOf_199 : decode cX4_kindOf 199 = .ok (.bipush 40, 2) := by decide +kernel
theorem dX4_kindOf_201 : decode cX4_kindOf 201 = .ok (.ireturn, 1) := by decide +kernel
theorem dX4_kindOf_194 : decode cX4_kindOf 194 = .ok (.bipush 39, 2) := by decide +kernel
theorem dX4_kindOf_196 : decode cX4_kindOf 196 = .ok (.goto 5, 3) := by decide +kernel
theorem dX4_kindOf_183 : decode cX4_kindOf 183 = .ok (.bipush 38, 2) := by decide +kernel
theorem dX4_kindOf_185 : decode cX4_kindOf 185 = .ok (.goto 16, 3) := by decide +kernel
theorem dX4_kindOf_202 : decode cX4_kindOf 202 = .ok (.bipush 40, 2) := by decide +kernel
theorem dX4_kindOf_204 : decode cX4_kindOf 204 = .ok (.ireturn, 1) := by decide +kernel
theorem dX4_target_0 : decode cX4_target 0 = .ok (.iload_n 0, 1) := by decide +kernel
theorem dX4_target_1 : decode cX4_target 1 = .ok (.bipush 7, 2) := by decide +kernel
theorem dX4_target_3 : decode cX4_target 3 = .ok (.iushr, 1) := by decide +kernel
theorem dX4_target_4 : decode cX4_target 4 = .ok (.bipush 31, 2) := by decide +kernel
theorem dX4_target_6 : decode cX4_target 6 = .ok (.iand, 1) := by decide +kernel
theorem dX4_target_7 : decode cX4_target 7 = .ok (.ireturn, 1) := by decide +kernel
theorem dX4_first_0 : decode cX4_first 0 = .ok (.iload_n 0, 1) := by decide +kernel
theorem dX4_first_1 : decode cX4_first 1 = .ok (.bipush 15, 2) := by decide +kernel
theorem dX4_first_3 : decode cX4_first 3 = .ok (.iushr, 1) := by decide +kernel
theorem dX4_first_4 : decode cX4_first 4 = .ok (.bipush 31, 2) := by decide +kernel
theorem dX4_first_6 : decode cX4_first 6 = .ok (.iand, 1) := by decide +kernel
theorem dX4_first_7 : decode cX4_first 7 = .ok (.ireturn, 1) := by decide +kernel
theorem dX4_second_0 : decode cX4_second 0 = .ok (.iload_n 0, 1) := by decide +kernel
theorem dX4_second_1 : decode cX4_second 1 = .ok (.bipush 20, 2) := by decide +kernel
theorem dX4_second_3 : decode cX4_second 3 = .ok (.iushr, 1) := by decide +kernel
theorem dX4_second_4 : decode cX4_second 4 = .ok (.bipush 31, 2) := by decide +kernel
theorem dX4_second_6 : decode cX4_second 6 = .ok (.iand, 1) := by decide +kernel
theorem dX4_second_7 : decode cX4_second 7 = .ok (.ireturn, 1) := by decide +kernel
theorem dX4_number_0 : decode cX4_number 0 = .ok (.iload_n 1, 1) := by decide +kernel
theorem dX4_number_1 : decode cX4_number 1 = .ok (.ifCond .eq 8, 3) := by decide +kernel
theorem dX4_number_9 : decode cX4_number 9 = .ok (.iload_n 0, 1) := by decide +kernel
theorem dX4_number_10 : decode cX4_number 10 = .ok (.sipush (-4096), 3) := by decide +kernel
theorem dX4_number_13 : decode cX4_number 13 = .ok (.iand, 1) := by decide +kernel
theorem dX4_number_14 : decode cX4_number 14 = .ok (.ireturn, 1) := by decide +kernel
theorem dX4_number_4 : decode cX4_number 4 = .ok (.iload_n 1, 1) := by decide +kernel
theorem dX4_number_5 : decode cX4_number 5 = .ok (.iconst 1, 1) := by decide +kernel
theorem dX4_number_6 : decode cX4_number 6 = .ok (.if_icmp .ne 9, 3) := by decide +kernel
theorem dX4_number_15 : decode cX4_number 15 = .ok (.iload_n 1, 1) := by decide +kernel
theorem dX4_number_16 : decode cX4_number 16 = .ok (.iconst 2, 1) := by decide +kernel
theorem dX4_number_17 : decode cX4_number 17 = .ok (.if_icmp .ne 44, 3) := by decide +kernel
theorem dX4_number_61 : decode cX4_number 61 = .ok (.iload_n 1, 1) := by decide +kernel
theorem dX4_number_62 : decode cX4_number 62 = .ok (.iconst 4, 1) := by decide +kernel
theorem dX4_number_63 : decode cX4_number 63 = .ok (.if_icmp .lt 47, 3) := by decide +kernel
theorem dX4_number_110 : decode cX4_number 110 = .ok (.iload_n 1, 1) := by decide +kernel
theorem dX4_number_111 : decode cX4_number 111 = .ok (.bipush 15, 2) := by decide +kernel
theorem dX4_number_113 : decode cX4_number 113 = .ok (.if_icmp .lt 24, 3) := by decide +kernel
theorem dX4_number_137 : decode cX4_number 137 = .ok (.iload_n 1, 1) := by decide +kernel
theorem dX4_number_138 : decode cX4_number 138 = .ok (.bipush 24, 2) := by decide +kernel
theorem dX4_number_140 : decode cX4_number 140 = .ok (.if_icmp .lt 16, 3) := by decide +kernel
theorem dX4_number_156 : decode cX4_number 156 = .ok (.iload_n 0, 1) := by decide +kernel
theorem dX4_number_157 : decode cX4_number 157 = .ok (.bipush 20, 2) := by decide +kernel
theorem dX4_number_159 : decode cX4_number 159 = .ok (.ishr, 1) := by decide +kernel
theorem dX4_number_160 : decode cX4_number 160 = .ok (.ireturn, 1) := by decide +kernel
theorem dX4_number_66 : decode cX4_number 66 = .ok (.iload_n 1, 1) := by decide +kernel
theorem dX4_number_67 : decode cX4_number 67 = .ok (.bipush 9, 2) := by decide +kernel
theorem dX4_number_69 : decode cX4_number 69 = .ok (.if_icmp .gt 41, 3) := by decide +kernel
theorem dX4_number_116 : decode cX4_number 116 = .ok (.iload_n 1, 1) := by decide +kernel
theorem dX4_number_117 : decode cX4_number 117 = .ok (.bipush 17, 2) := by decide +kernel
theorem dX4_number_119 : decode cX4_number 119 = .ok (.if_icmp .gt 18, 3) := by decide +kernel
theorem dX4_number_143 : decode cX4_number 143 = .ok (.iload_n 1, 1) := by decide +kernel
theorem dX4_number_144 : decode cX4_number 144 = .ok (.bipush 26, 2) := by decide +kernel
theorem dX4_number_146 : decode cX4_number 146 = .ok (.if_icmp .gt 10, 3) := by decide +kernel
theorem dX4_number_149 : decode cX4_number 149 = .ok (.iload_n 0, 1) := by decide +kernel
theorem dX4_number_150 : decode cX4_number 150 = .ok (.invokestatic 33, 3) := by decide +kernel
theorem tw_769 : (.code yX4_second cX4_second 1 (some .int) : Cond) ∈ tw_W := tw_in (t8_6 (List.mem_of_getElem? (i := 80) rfl)) rfl
theorem tw_770 : ∀ w ∈ ([.methodLink RX4 33 yX4_second, .static yX4_second, .initialized yX4_second.cls] : List Cond), w ∈ tw_W := al_c (tw_in (t8_6 (List.mem_of_getElem? (i := 84) rfl)) rfl) (al_c (tw_in (t8_6 (List.mem_of_getElem? (i := 79) rfl)) rfl) (al_c (tw_in (t8_1 (List.mem_of_getElem? (i := 29) rfl)) rfl) al_n))
theorem dX4_number_153 : decode cX4_number 153 = .ok (.goto 7, 3) := by decide +kernel
theorem dX4_number_122 : decode cX4_number 122 = .ok (.iload_n 0, 1) := by decide +kernel
theorem dX4_number_123 : decode cX4_number 123 = .ok (.bipush 25, 2) := by decide +kernel
theorem dX4_number_125 : decode cX4_number 125 = .ok (.ishr, 1) := by decide +kernel
theorem dX4_number_126 : decode cX4_number 126 = .ok (.iconst 5, 1) := by decide +kernel
theorem dX4_number_127 : decode cX4_number 127 = .ok (.ishl, 1) := by decide +kernel
theorem dX4_number_128 : decode cX4_number 128 = .ok (.iload_n 0, 1) := by decide +kernel
theorem dX4_number_129 : decode cX4_number 129 = .ok (.bipush 7, 2) := by decide +kernel
theorem dX4_number_131 : decode cX4_number 131 = .ok (.iushr, 1) := by decide +kernel
theorem dX4_number_132 : decode cX4_number 132 = .ok (.bipush 31, 2) := by decide +kernel
theorem dX4_number_134 : decode cX4_number 134 = .ok (.iand, 1) := by decide +kernel
theorem dX4_number_135 : decode cX4_number 135 = .ok (.ior, 1) := by decide +kernel
theorem dX4_number_136 : decode cX4_number 136 = .ok (.ireturn, 1) := by decide +kernel
theorem dX4_number_72 : decode cX4_number 72 = .ok (.iload_n 0, 1) := by decide +kernel
theorem dX4_number_73 : decode cX4_number 73 = .ok (.bipush 31, 2) := by decide +kernel
theorem dX4_number_75 : decode cX4_number 75 = .ok (.ishr, 1) := by decide +kernel
theorem dX4_number_76 : decode cX4_number 76 = .ok (.bipush 12, 2) := by decide +kernel
theorem dX4_number_78 : decode cX4_number 78 = .ok (.ishl, 1) := by decide +kernel
theorem dX4_number_79 : decode cX4_number 79 = .ok (.iload_n 0, 1) := by decide +kernel
theorem dX4_number_80 : decode cX4_number 80 = .ok (.bipush 7, 2) := by decide +kernel
theorem dX4_number_82 : decode cX4_number 82 = .ok (.iushr, 1) := by decide +kernel
theorem dX4_number_83 : decode cX4_number 83 = .ok (.iconst 1, 1) := by decide +kernel
theorem dX4_number_84 : decode cX4_number 84 = .ok (.iand, 1) := by decide +kernel
theorem dX4_number_85 : decode cX4_number 85 = .ok (.bipush 11, 2) := by decide +kernel
theorem dX4_number_87 : decode cX4_number 87 = .ok (.ishl, 1) := by decide +kernel
theorem dX4_number_88 : decode cX4_number 88 = .ok (.ior, 1) := by decide +kernel
theorem dX4_number_89 : decode cX4_number 89 = .ok (.iload_n 0, 1) := by decide +kernel
theorem dX4_number_90 : decode cX4_number 90 = .ok (.bipush 25, 2) := by decide +kernel
theorem dX4_number_92 : decode cX4_number 92 = .ok (.iushr, 1) := by decide +kernel
theorem dX4_number_93 : decode cX4_number 93 = .ok (.bipush 63, 2) := by decide +kernel
theorem dX4_number_95 : decode cX4_number 95 = .ok (.iand, 1) := by decide +kernel
theorem dX4_number_96 : decode cX4_number 96 = .ok (.iconst 5, 1) := by decide +kernel
theorem dX4_number_97 : decode cX4_number 97 = .ok (.ishl, 1) := by decide +kernel
theorem dX4_number_98 : decode cX4_number 98 = .ok (.ior, 1) := by decide +kernel
theorem dX4_number_99 : decode cX4_number 99 = .ok (.iload_n 0, 1) := by decide +kernel
theorem dX4_number_100 : decode cX4_number 100 = .ok (.bipush 8, 2) := by decide +kernel
theorem dX4_number_102 : decode cX4_number 102 = .ok (.iushr, 1) := by decide +kernel
theorem dX4_number_103 : decode cX4_number 103 = .ok (.bipush 15, 2) := by decide +kernel
theorem dX4_number_105 : decode cX4_number 105 = .ok (.iand, 1) := by decide +kernel
theorem dX4_number_106 : decode cX4_number 106 = .ok (.iconst 1, 1) := by decide +kernel
theorem dX4_number_107 : decode cX4_number 107 = .ok (.ishl, 1) := by decide +kernel
theorem dX4_number_108 : decode cX4_number 108 = .ok (.ior, 1) := by decide +kernel
theorem dX4_number_109 : decode cX4_number 109 = .ok (.ireturn, 1) := by decide +kernel
theorem dX4_number_20 : decode cX4_number 20 = .ok (.iload_n 0, 1) := by decide +kernel
theorem dX4_number_21 : decode cX4_number 21 = .ok (.bipush 31, 2) := by decide +kernel
theorem dX4_number_23 : decode cX4_number 23 = .ok (.ishr, 1) := by decide +kernel
theorem dX4_number_24 : decode cX4_number 24 = .ok (.bipush 20, 2) := by decide +kernel
theorem dX4_number_26 : decode cX4_number 26 = .ok (.ishl, 1) := by decide +kernel
theorem dX4_number_27 : decode cX4_number 27 = .ok (.iload_n 0, 1) := by decide +kernel
theorem dX4_number_28 : decode cX4_number 28 = .ok (.bipush 12, 2) := by decide +kernel
theorem dX4_number_30 : decode cX4_number 30 = .ok (.iushr, 1) := by decide +kernel
theorem dX4_number_31 : decode cX4_number 31 = .ok (.sipush 255, 3) := by decide +kernel
theorem dX4_number_34 : decode cX4_number 34 = .ok (.iand, 1) := by decide +kernel
theorem dX4_number_35 : decode cX4_number 35 = .ok (.bipush 12, 2) := by decide +kernel
theorem dX4_number_37 : decode cX4_number 37 = .ok (.ishl, 1) := by decide +kernel
theorem dX4_number_38 : decode cX4_number 38 = .ok (.ior, 1) := by decide +kernel
theorem dX4_number_39 : decode cX4_number 39 = .ok (.iload_n 0, 1) := by decide +kernel
theorem dX4_number_40 : decode cX4_number 40 = .ok (.bipush 20, 2) := by decide +kernel
theorem dX4_number_42 : decode cX4_number 42 = .ok (.iushr, 1) := by decide +kernel
theorem dX4_number_43 : decode cX4_number 43 = .ok (.iconst 1, 1) := by decide +kernel
theorem dX4_number_44 : decode cX4_number 44 = .ok (.iand, 1) := by decide +kernel
theorem dX4_number_45 : decode cX4_number 45 = .ok (.bipush 11, 2) := by decide +kernel
theorem dX4_number_47 : decode cX4_number 47 = .ok (.ishl, 1) := by decide +kernel
theorem dX4_number_48 : decode cX4_number 48 = .ok (.ior, 1) := by decide +kernel
theorem dX4_number_49 : decode cX4_number 49 = .ok (.iload_n 0, 1) := by decide +kernel
theorem dX4_number_50 : decode cX4_number 50 = .ok (.bipush 21, 2) := by decide +kernel
theorem dX4_number_52 : decode cX4_number 52 = .ok (.iushr, 1) := by decide +kernel
theorem dX4_number_53 : decode cX4_number 53 = .ok (.sipush 1023, 3) := by decide +kernel
theorem dX4_number_56 : decode cX4_number 56 = .ok (.iand, 1) := by decide +kernel
theorem dX4_number_57 : decode cX4_number 57 = .ok (.iconst 1, 1) := by decide +kernel
theorem dX4_number_58 : decode cX4_number 58 = .ok (.ishl, 1) := by decide +kernel
theorem dX4_number_59 : decode cX4_number 59 = .ok (.ior, 1) := by decide +kernel
theorem dX4_number_60 : decode cX4_number 60 = .ok (.ireturn, 1) := by decide +kernel
theorem ush2_f (a : Int32) : 0 ≤ ((a.toUInt32 >>> ((2 : Int32).toUInt32 &&& Int32.toUInt32 31)).toInt32).toInt ∧ ((a.toUInt32 >>> ((2 : Int32).toUInt32 &&& Int32.toUInt32 31)).toInt32).toInt ≤ 1073741823 := by
  have h := uI_lt a
  rw [ush2, nI_Z (by omega)]
  omega
theorem om_a14798e76b {x0 : Int} (h0 : x0 < (64 : Int)) : x0 < 64 := by omega
theorem om_9ffbf8bd7a {x0 : Int} (h0 : x0 < (64 : Int)) : (x0) + (1 : Int) < 2147483648 := by omega
theorem om_89225ac67c {x0 x1 : Int} (h0 : 0 ≤ x0 ∧ x0 ≤ 64) (h1 : x0 < (64 : Int)) (h2 : x1 = (x0) + (1 : Int)) : 0 ≤ x1 ∧ x1 ≤ 64 := by omega
theorem om_4ac539c8d8 {x0 x1 : Int} (h0 : x0 < (64 : Int)) (h1 : x1 = (x0) + (1 : Int)) : (x0 < 64 ∧ x1 = x0 + 1 ∧ x1 = x0 + 1) ∨ (x0 = 64 ∧ x1 = x0 ∧ x1 = -1) := by omega
theorem om_a92aeae61c {x0 : Int} (h0 : 0 ≤ x0 ∧ x0 ≤ 64) (h1 : (64 : Int) ≤ x0) : 0 ≤ x0 ∧ x0 ≤ 64 := by omega
theorem om_ab86b117e9 {x0 : Int} (h0 : 0 ≤ x0 ∧ x0 ≤ 64) (h1 : (64 : Int) ≤ x0) : (x0 < 64 ∧ x0 = x0 + 1 ∧ (-1 : Int) = x0 + 1) ∨ (x0 = 64 ∧ x0 = x0 ∧ (-1 : Int) = -1) := by omega
set_option maxHeartbeats 4000000 in
set_option maxRecDepth 100000 in
theorem c_x_X3_add (l : Launch) (dC : Nat → ClassId) (dI : Nat → Nat → Nat) (cI cB cZ cJ cR : ClassId) (tb : Nat → Nat) (sz : Nat) (ad : Nat → Nat) (pr : Int32 → Nat) (N : Nat) (L1 L2 : List Nat) (v : MS) (pa : Int32) (z344 : 0 ≤ (v.1 0 344).toInt ∧ (v.1 0 344).toInt ≤ 64) : Met l yX3_add (Cond.code yX3_add cX3_add 2 (some .int) :: tw_W) ({ frames := 0, cells := 0, slots := 0, locals := 0 }) (pc_ (dC, dI) (tyS cI cB cZ cJ cR) tb (cW ad pr N cI cR L1 L2 v) sz [.ref (ad 905), .int pa]) (qi_ (dC, dI) (cW ad pr N cI cR L1 L2 v) sz (fun (r : Int32) (u : MS) => FC [344] [0, 343] v u ∧ (Q_x_X3_add L1 L2 v pa r u) ∧ (0 ≤ (u.1 0 344).toInt ∧ (u.1 0 344).toInt ≤ 64) ∧ (((v.1 0 344).toInt < 64 ∧ (u.1 0 344).toInt = (v.1 0 344).toInt + 1 ∧ r.toInt = (v.1 0 344).toInt + 1) ∨ ((v.1 0 344).toInt = 64 ∧ (u.1 0 344).toInt = (v.1 0 344).toInt ∧ r.toInt = -1)) ∧ (RS0 v u)) (fun (u : MS) => (cW ad pr N cI cR L1 L2 u))) 0 0 (va_A (cW ad pr N cI cR L1 L2 v) sz) := by
  refine Met.ofW (cc := cX3_add) (maxL := 2) (ret := (some .int)) (by decide) rfl ?_
  intro p e s m args below meth c s₁ B hml hv
  obtain ⟨rfl, hsz, hP, hKK, hD0, hFx⟩ := hv
  have hK := hKK.1
  have hx := B.exec
  have hb := B.bytes
  have hr := B.returns
  have ht : ∀ w ∈ tw_W, w.before _ s = true := fun w h => atoms_spec (ws := Cond.code yX3_add cX3_add 2 (some .int) :: tw_W) B.pre w (List.mem_cons_of_mem _ h)
  have hown : s.vm.findClass RX3 = some m.cls := findClass_of_methodNamed B.named
  have hlocks := B.notSynchronized
  subst hsz
  unfold qi_
  have hD := hD0.self (sz := s.heap.size)
  generalize hAe : va_A (cW ad pr N cI cR L1 L2 v) s.heap.size = A at hD hFx ⊢
  have hA : ∀ q : Nat, s.heap.size ≤ q → A q := fun q h => by rw [← hAe]; exact Or.inr h
  have hS : va_S A s.heap s.heap [] := va_S.rf
  have hl := lv_entry ([.ref (ad 905), .int pa]) (n := 2) (Nat.le_of_ble_eq_true rfl)
  rw [lg_entry_eq]
  generalize (lg_sl ([.ref (ad 905), .int pa]) ++ List.replicate (2 - (lg_sl ([.ref (ad 905), .int pa])).length) Slot.unset).toArray = ls at hl ⊢
  have hl : lv_has ls 2 [(0, .ref (ad 905)), (1, .int pa)] := hl
  refine lv_aload_n hx hb dX3_add_0 rfl (lv_at hl 0 rfl) ?_
  refine va_get (D := (dC, dI)) (ci := 7) (fs := oF_X3 ad pr v) (v := .int (v.1 0 344)) (C := RX3) (T := TX3) (N := 3) hx hb ht itX3 hown hK hP 5 rfl rfl 1 (by decide) (ht _ tw_754) (fun _ h9 => h9) rfl dX3_add_1 ?_
  refine lv_bipush (v := 64) hx hb dX3_add_4 (by decide) ?_
  refine lv_icmp_lt (tgt := 11) hx hb dX3_add_6 (by decide) (fun h1 => ?_) (fun h1 => ?_)
  · have z2 : (v.1 0 344).toInt < (64 : Int) := lt_z rfl (show (64 : Int32).toInt = (64 : Int) by decide) h1
    refine lv_aload_n hx hb dX3_add_11 rfl (lv_at hl 0 rfl) ?_
    refine va_get (D := (dC, dI)) (ci := 7) (fs := oF_X3 ad pr v) (v := .ref (ad 343)) (C := RX3) (T := TX3) (N := 3) hx hb ht itX3 hown hK hP 5 rfl rfl 0 (by decide) (ht _ tw_755) (fun _ h9 => h9) rfl dX3_add_12 ?_
    refine lv_aload_n hx hb dX3_add_15 rfl (lv_at hl 0 rfl) ?_
    refine va_get (D := (dC, dI)) (ci := 7) (fs := oF_X3 ad pr v) (v := .int (v.1 0 344)) (C := RX3) (T := TX3) (N := 3) hx hb ht itX3 hown hK hP 5 rfl rfl 1 (by decide) (ht _ tw_754) (fun _ h9 => h9) rfl dX3_add_16 ?_
    refine lv_iload_n hx hb dX3_add_19 rfl (lv_at hl 1 rfl) ?_
    refine va_iast (D := (dC, dI)) (f := (v.1 343)) hx hb hK hP hD hS 21 0 rfl rfl (in_y (a := (v.1 0 344).toInt) (b := 64) rfl (om_51a229e12f z344) (om_a14798e76b z2) rfl) dX3_add_20 (fun H locs hP hD hS => ?_)
    have hP := cP_ (cq_343 ad pr N cI cR L1 L2 v ((v.1 0 344).toNatClampNeg) pa) hP
    have hD := cD_ (cq_343 ad pr N cI cR L1 L2 v ((v.1 0 344).toNatClampNeg) pa) hD
    refine lv_aload_n hx hb dX3_add_21 rfl (lv_at hl 0 rfl) ?_
    refine lv_dup hx hb dX3_add_22 rfl ?_
    refine va_get (D := (dC, dI)) (ci := 7) (fs := oF_X3 ad pr (wA v 343 ((v.1 0 344).toNatClampNeg) pa)) (v := .int (v.1 0 344)) (C := RX3) (T := TX3) (N := 3) hx hb ht itX3 hown hK hP 5 rfl rfl 1 (by decide) (ht _ tw_754) (fun _ h9 => h9) rfl dX3_add_23 ?_
    refine lv_iconst (v := 1) hx hb dX3_add_26 (by decide) ?_
    refine lv_iadd hx hb dX3_add_27 ?_
    have z3 : ((v.1 0 344) + (1 : Int32)).toInt = ((v.1 0 344).toInt) + (1 : Int) := add_z rfl (show (1 : Int32).toInt = (1 : Int) by decide) (om_90d9998682 z344) (om_9ffbf8bd7a z2)
    refine va_put (D := (dC, dI)) (ci := 7) (fs := oF_X3 ad pr (wA v 343 ((v.1 0 344).toNatClampNeg) pa)) (v := .int ((v.1 0 344) + (1 : Int32))) (ty := .int) (C := RX3) (T := TX3) (N := 3) hx hb ht itX3 tyX3 tyX3_ok nmX3 hown hK hP hD hS 5 rfl rfl 1 (by decide) (ht _ tw_754) (fun _ h9 => h9) rfl (by decide +kernel) rfl rfl (Nat.le_of_ble_eq_true rfl) dX3_add_28 (fun H locs hP hD hS => ?_)
    have hP := cP_ (cw_344 ad pr N cI cR L1 L2 (wA v 343 ((v.1 0 344).toNatClampNeg) pa) ((v.1 0 344) + (1 : Int32))) hP
    have hD := cD_ (cw_344 ad pr N cI cR L1 L2 (wA v 343 ((v.1 0 344).toNatClampNeg) pa) ((v.1 0 344) + (1 : Int32))) hD
    refine lv_aload_n hx hb dX3_add_31 rfl (lv_at hl 0 rfl) ?_
    refine va_get (D := (dC, dI)) (ci := 7) (fs := oF_X3 ad pr (wA (wA v 343 ((v.1 0 344).toNatClampNeg) pa) 0 344 ((v.1 0 344) + (1 : Int32)))) (v := .int ((v.1 0 344) + (1 : Int32))) (C := RX3) (T := TX3) (N := 3) hx hb ht itX3 hown hK hP 5 rfl rfl 1 (by decide) (ht _ tw_754) (fun _ h9 => h9) rfl dX3_add_32 ?_
    exact W.iret (v := ((v.1 0 344) + (1 : Int32))) hx hb hr (fun t ht9 hW => ⟨⟨((v.1 0 344) + (1 : Int32)), (wA (wA v 343 ((v.1 0 344).toNatClampNeg) pa) 0 344 ((v.1 0 344) + (1 : Int32))), rfl, ⟨(FC.f (FC.a (FC.rf _) ((v.1 0 344).toNatClampNeg) pa (by decide) (by decide)) ((v.1 0 344) + (1 : Int32)) (by decide)), ⟨z344, (Or.inl ⟨z2, rfl, rfl⟩)⟩, (show 0 ≤ ((v.1 0 344) + (1 : Int32)).toInt ∧ ((v.1 0 344) + (1 : Int32)).toInt ≤ 64 from (om_89225ac67c z344 z2 z3)), (show ((v.1 0 344).toInt < 64 ∧ ((v.1 0 344) + (1 : Int32)).toInt = (v.1 0 344).toInt + 1 ∧ ((v.1 0 344) + (1 : Int32)).toInt = (v.1 0 344).toInt + 1) ∨ ((v.1 0 344).toInt = 64 ∧ ((v.1 0 344) + (1 : Int32)).toInt = (v.1 0 344).toInt ∧ ((v.1 0 344) + (1 : Int32)).toInt = -1) from (om_4ac539c8d8 z2 z3)), (RS0.w (RS0.w RS0.rf (by decide)) (by decide))⟩, by rw [ht9]; exact hP, hD⟩, hS.F ht9⟩) hS.2.2 dX3_add_35
  · have z4 : (64 : Int) ≤ (v.1 0 344).toInt := nlt_z rfl (show (64 : Int32).toInt = (64 : Int) by decide) h1
    refine lv_iconst (v := -1) hx hb dX3_add_9 (by decide) ?_
    exact W.iret (v := (-1)) hx hb hr (fun t ht9 hW => ⟨⟨(-1), v, rfl, ⟨(FC.rf _), ⟨z344, (Or.inr (⟨z4, rfl, rfl⟩))⟩, (show 0 ≤ (v.1 0 344).toInt ∧ (v.1 0 344).toInt ≤ 64 from (om_a92aeae61c z344 z4)), (show ((v.1 0 344).toInt < 64 ∧ (v.1 0 344).toInt = (v.1 0 344).toInt + 1 ∧ (-1 : Int) = (v.1 0 344).toInt + 1) ∨ ((v.1 0 344).toInt = 64 ∧ (v.1 0 344).toInt = (v.1 0 344).toInt ∧ (-1 : Int) = -1) from (om_ab86b117e9 z344 z4)), RS0.rf⟩, by rw [ht9]; exact hP, hD⟩, hS.F ht9⟩) hS.2.2 dX3_add_10
theorem om_b4e61ca4e9 : 0 ≤ (0 : Int) ∧ (0 : Int) ≤ 64 := by omega
theorem om_6ccb623b11 {x0 : Int} : (0 : Int) = 0 ∧ x0 = x0 := by omega
set_option maxHeartbeats 4000000 in
set_option maxRecDepth 100000 in
theorem c_x_X3_clear (l : Launch) (dC : Nat → ClassId) (dI : Nat → Nat → Nat) (cI cB cZ cJ cR : ClassId) (tb : Nat → Nat) (sz : Nat) (ad : Nat → Nat) (pr : Int32 → Nat) (N : Nat) (L1 L2 : List Nat) (v : MS)  (z344 : 0 ≤ (v.1 0 344).toInt ∧ (v.1 0 344).toInt ≤ 64) : Met l yX3_clear (Cond.code yX3_clear cX3_clear 2 (some .int) :: tw_W) ({ frames := 0, cells := 0, slots := 0, locals := 0 }) (pc_ (dC, dI) (tyS cI cB cZ cJ cR) tb (cW ad pr N cI cR L1 L2 v) sz [.ref (ad 905)]) (qi_ (dC, dI) (cW ad pr N cI cR L1 L2 v) sz (fun (r : Int32) (u : MS) => FC [344, 345] [0] v u ∧ (0 ≤ (u.1 0 344).toInt ∧ (u.1 0 344).toInt ≤ 64) ∧ ((u.1 0 344).toInt = 0 ∧ r.toInt = (v.1 0 344).toInt) ∧ (RS0 v u)) (fun (u : MS) => (cW ad pr N cI cR L1 L2 u))) 0 0 (va_A (cW ad pr N cI cR L1 L2 v) sz) := by
  refine Met.ofW (cc := cX3_clear) (maxL := 2) (ret := (some .int)) (by decide) rfl ?_
  intro p e s m args below meth c s₁ B hml hv
  obtain ⟨rfl, hsz, hP, hKK, hD0, hFx⟩ := hv
  have hK := hKK.1
  have hx := B.exec
  have hb := B.bytes
  have hr := B.returns
  have ht : ∀ w ∈ tw_W, w.before _ s = true := fun w h => atoms_spec (ws := Cond.code yX3_clear cX3_clear 2 (some .int) :: tw_W) B.pre w (List.mem_cons_of_mem _ h)
  have hown : s.vm.findClass RX3 = some m.cls := findClass_of_methodNamed B.named
  have hlocks := B.notSynchronized
  subst hsz
  unfold qi_
  have hD := hD0.self (sz := s.heap.size)
  generalize hAe : va_A (cW ad pr N cI cR L1 L2 v) s.heap.size = A at hD hFx ⊢
  have hA : ∀ q : Nat, s.heap.size ≤ q → A q := fun q h => by rw [← hAe]; exact Or.inr h
  have hS : va_S A s.heap s.heap [] := va_S.rf
  have hl := lv_entry ([.ref (ad 905)]) (n := 2) (Nat.le_of_ble_eq_true rfl)
  rw [lg_entry_eq]
  generalize (lg_sl ([.ref (ad 905)]) ++ List.replicate (2 - (lg_sl ([.ref (ad 905)])).length) Slot.unset).toArray = ls at hl ⊢
  have hl : lv_has ls 2 [(0, .ref (ad 905))] := hl
  refine lv_aload_n hx hb dX3_clear_0 rfl (lv_at hl 0 rfl) ?_
  refine va_get (D := (dC, dI)) (ci := 7) (fs := oF_X3 ad pr v) (v := .int (v.1 0 344)) (C := RX3) (T := TX3) (N := 3) hx hb ht itX3 hown hK hP 5 rfl rfl 1 (by decide) (ht _ tw_754) (fun _ h9 => h9) rfl dX3_clear_1 ?_
  refine lv_istore_n (lv' := [(1, .int (v.1 0 344)), (0, .ref (ad 905))]) hx hb dX3_clear_4 rfl hl (by decide) rfl (fun ls hl => ?_)
  refine lv_aload_n hx hb dX3_clear_5 rfl (lv_at hl 1 rfl) ?_
  refine lv_iconst (v := 0) hx hb dX3_clear_6 (by decide) ?_
  refine va_put (D := (dC, dI)) (ci := 7) (fs := oF_X3 ad pr v) (v := .int 0) (ty := .int) (C := RX3) (T := TX3) (N := 3) hx hb ht itX3 tyX3 tyX3_ok nmX3 hown hK hP hD hS 5 rfl rfl 1 (by decide) (ht _ tw_754) (fun _ h9 => h9) rfl (by decide +kernel) rfl rfl (Nat.le_of_ble_eq_true rfl) dX3_clear_7 (fun H locs hP hD hS => ?_)
  have hP := cP_ (cw_344 ad pr N cI cR L1 L2 v 0) hP
  have hD := cD_ (cw_344 ad pr N cI cR L1 L2 v 0) hD
  refine lv_aload_n hx hb dX3_clear_10 rfl (lv_at hl 1 rfl) ?_
  refine lv_iconst (v := 0) hx hb dX3_clear_11 (by decide) ?_
  refine va_put (D := (dC, dI)) (ci := 7) (fs := oF_X3 ad pr (wA v 0 344 0)) (v := .int 0) (ty := .int) (C := RX3) (T := TX3) (N := 3) hx hb ht itX3 tyX3 tyX3_ok nmX3 hown hK hP hD hS 5 rfl rfl 2 (by decide) (ht _ tw_756) (fun _ h9 => h9) rfl (by decide +kernel) rfl rfl (Nat.le_of_ble_eq_true rfl) dX3_clear_12 (fun H locs hP hD hS => ?_)
  have hP := cP_ (cw_345 ad pr N cI cR L1 L2 (wA v 0 344 0) 0) hP
  have hD := cD_ (cw_345 ad pr N cI cR L1 L2 (wA v 0 344 0) 0) hD
  refine lv_iload_n hx hb dX3_clear_15 rfl (lv_at hl 0 rfl) ?_
  exact W.iret (v := (v.1 0 344)) hx hb hr (fun t ht9 hW => ⟨⟨(v.1 0 344), (wA (wA v 0 344 0) 0 345 0), rfl, ⟨(FC.f (FC.f (FC.rf _) 0 (by decide)) 0 (by decide)), (show 0 ≤ (0 : Int) ∧ (0 : Int) ≤ 64 from om_b4e61ca4e9), (show (0 : Int) = 0 ∧ (v.1 0 344).toInt = (v.1 0 344).toInt from om_6ccb623b11), (RS0.w (RS0.w RS0.rf (by decide)) (by decide))⟩, by rw [ht9]; exact hP, hD⟩, hS.F ht9⟩) hS.2.2 dX3_clear_16
set_option maxHeartbeats 4000000 in
set_option maxRecDepth 100000 in
theorem c_x_X3_beginAnew (l : Launch) (dC : Nat → ClassId) (dI : Nat → Nat → Nat) (cI cB cZ cJ cR : ClassId) (tb : Nat → Nat) (sz : Nat) (ad : Nat → Nat) (pr : Int32 → Nat) (N : Nat) (L1 L2 : List Nat) (v : MS)   : Met l yX3_beginAnew (Cond.code yX3_beginAnew cX3_beginAnew 1 none :: tw_W) ({ frames := 0, cells := 0, slots := 0, locals := 0 }) (pc_ (dC, dI) (tyS cI cB cZ cJ cR) tb (cW ad pr N cI cR L1 L2 v) sz [.ref (ad 905)]) (qv_ (dC, dI) (cW ad pr N cI cR L1 L2 v) sz (fun (u : MS) => FC [345] [0] v u ∧ (RS0 v u)) (fun (u : MS) => (cW ad pr N cI cR L1 L2 u))) 0 0 (va_A (cW ad pr N cI cR L1 L2 v) sz) := by
  refine Met.ofW (cc := cX3_beginAnew) (maxL := 1) (ret := none) (by decide) rfl ?_
  intro p e s m args below meth c s₁ B hml hv
  obtain ⟨rfl, hsz, hP, hKK, hD0, hFx⟩ := hv
  have hK := hKK.1
  have hx := B.exec
  have hb := B.bytes
  have hr := B.returns
  have ht : ∀ w ∈ tw_W, w.before _ s = true := fun w h => atoms_spec (ws := Cond.code yX3_beginAnew cX3_beginAnew 1 none :: tw_W) B.pre w (List.mem_cons_of_mem _ h)
  have hown : s.vm.findClass RX3 = some m.cls := findClass_of_methodNamed B.named
  have hlocks := B.notSynchronized
  subst hsz
  unfold qv_
  have hD := hD0.self (sz := s.heap.size)
  generalize hAe : va_A (cW ad pr N cI cR L1 L2 v) s.heap.size = A at hD hFx ⊢
  have hA : ∀ q : Nat, s.heap.size ≤ q → A q := fun q h => by rw [← hAe]; exact Or.inr h
  have hS : va_S A s.heap s.heap [] := va_S.rf
  have hl := lv_entry ([.ref (ad 905)]) (n := 1) (Nat.le_of_ble_eq_true rfl)
  rw [lg_entry_eq]
  generalize (lg_sl ([.ref (ad 905)]) ++ List.replicate (1 - (lg_sl ([.ref (ad 905)])).length) Slot.unset).toArray = ls at hl ⊢
  have hl : lv_has ls 1 [(0, .ref (ad 905))] := hl
  refine lv_aload_n hx hb dX3_beginAnew_0 rfl (lv_at hl 0 rfl) ?_
  refine lv_iconst (v := 0) hx hb dX3_beginAnew_1 (by decide) ?_
  refine va_put (D := (dC, dI)) (ci := 7) (fs := oF_X3 ad pr v) (v := .int 0) (ty := .int) (C := RX3) (T := TX3) (N := 3) hx hb ht itX3 tyX3 tyX3_ok nmX3 hown hK hP hD hS 5 rfl rfl 2 (by decide) (ht _ tw_756) (fun _ h9 => h9) rfl (by decide +kernel) rfl rfl (Nat.le_of_ble_eq_true rfl) dX3_beginAnew_2 (fun H locs hP hD hS => ?_)
  have hP := cP_ (cw_345 ad pr N cI cR L1 L2 v 0) hP
  have hD := cD_ (cw_345 ad pr N cI cR L1 L2 v 0) hD
  exact W.vret hx hb hr (fun t ht9 hW => ⟨⟨(wA v 0 345 0), rfl, ⟨(FC.f (FC.rf _) 0 (by decide)), (RS0.w RS0.rf (by decide))⟩, by rw [ht9]; exact hP, hD⟩, hS.F ht9⟩) hS.2.2 dX3_beginAnew_5
theorem om_344c229bb0 {x0 x1 : Int} (h0 : 0 ≤ x0 ∧ x0 ≤ 64) (h1 : x1 < x0) (h2 : (64 : Int) ≤ x1) : False := by omega
set_option maxHeartbeats 4000000 in
set_option maxRecDepth 100000 in
theorem c_x_X3_numberAt (l : Launch) (dC : Nat → ClassId) (dI : Nat → Nat → Nat) (cI cB cZ cJ cR : ClassId) (tb : Nat → Nat) (sz : Nat) (ad : Nat → Nat) (pr : Int32 → Nat) (N : Nat) (L1 L2 : List Nat) (v : MS) (pa : Int32) (z344 : 0 ≤ (v.1 0 344).toInt ∧ (v.1 0 344).toInt ≤ 64) : Met l yX3_numberAt (Cond.code yX3_numberAt cX3_numberAt 2 (some .int) :: tw_W) ({ frames := 0, cells := 0, slots := 0, locals := 0 }) (pc_ (dC, dI) (tyS cI cB cZ cJ cR) tb (cW ad pr N cI cR L1 L2 v) sz [.ref (ad 905), .int pa]) (qi_ (dC, dI) (cW ad pr N cI cR L1 L2 v) sz (fun (r : Int32) (u : MS) => v = u ∧ (Q_x_X3_numberAt L1 L2 v pa r)) (fun (u : MS) => (cW ad pr N cI cR L1 L2 u))) 0 0 (va_A (cW ad pr N cI cR L1 L2 v) sz) := by
  refine Met.ofW (cc := cX3_numberAt) (maxL := 2) (ret := (some .int)) (by decide) rfl ?_
  intro p e s m args below meth c s₁ B hml hv
  obtain ⟨rfl, hsz, hP, hKK, hD0, hFx⟩ := hv
  have hK := hKK.1
  have hx := B.exec
  have hb := B.bytes
  have hr := B.returns
  have ht : ∀ w ∈ tw_W, w.before _ s = true := fun w h => atoms_spec (ws := Cond.code yX3_numberAt cX3_numberAt 2 (some .int) :: tw_W) B.pre w (List.mem_cons_of_mem _ h)
  have hown : s.vm.findClass RX3 = some m.cls := findClass_of_methodNamed B.named
  have hlocks := B.notSynchronized
  subst hsz
  unfold qi_
  have hD := hD0.self (sz := s.heap.size)
  generalize hAe : va_A (cW ad pr N cI cR L1 L2 v) s.heap.size = A at hD hFx ⊢
  have hA : ∀ q : Nat, s.heap.size ≤ q → A q := fun q h => by rw [← hAe]; exact Or.inr h
  have hS : va_S A s.heap s.heap [] := va_S.rf
  have hl := lv_entry ([.ref (ad 905), .int pa]) (n := 2) (Nat.le_of_ble_eq_true rfl)
  rw [lg_entry_eq]
  generalize (lg_sl ([.ref (ad 905), .int pa]) ++ List.replicate (2 - (lg_sl ([.ref (ad 905), .int pa])).length) Slot.unset).toArray = ls at hl ⊢
  have hl : lv_has ls 2 [(0, .ref (ad 905)), (1, .int pa)] := hl
  refine lv_iload_n hx hb dX3_numberAt_0 rfl (lv_at hl 1 rfl) ?_
  refine lv_if_lt (tgt := 27) hx hb dX3_numberAt_1 (by decide) (fun h1 => ?_) (fun h1 => ?_)
  · have z2 : pa.toInt < (0 : Int) := lt_z rfl (show (0 : Int32).toInt = (0 : Int) by decide) h1
    refine lv_iconst (v := 0) hx hb dX3_numberAt_27 (by decide) ?_
    exact W.iret (v := 0) hx hb hr (fun t ht9 hW => ⟨⟨0, v, rfl, ⟨rfl, ⟨z344, (Or.inl ⟨z2, rfl⟩)⟩⟩, by rw [ht9]; exact hP, hD⟩, hS.F ht9⟩) hS.2.2 dX3_numberAt_28
  · have z3 : (0 : Int) ≤ pa.toInt := nlt_z rfl (show (0 : Int32).toInt = (0 : Int) by decide) h1
    refine lv_iload_n hx hb dX3_numberAt_4 rfl (lv_at hl 1 rfl) ?_
    refine lv_aload_n hx hb dX3_numberAt_5 rfl (lv_at hl 0 rfl) ?_
    refine va_get (D := (dC, dI)) (ci := 7) (fs := oF_X3 ad pr v) (v := .int (v.1 0 344)) (C := RX3) (T := TX3) (N := 3) hx hb ht itX3 hown hK hP 5 rfl rfl 1 (by decide) (ht _ tw_754) (fun _ h9 => h9) rfl dX3_numberAt_6 ?_
    refine lv_icmp_ge (tgt := 27) hx hb dX3_numberAt_9 (by decide) (fun h4 => ?_) (fun h4 => ?_)
    · have z5 : (v.1 0 344).toInt ≤ pa.toInt := le_z rfl rfl h4
      refine lv_iconst (v := 0) hx hb dX3_numberAt_27 (by decide) ?_
      exact W.iret (v := 0) hx hb hr (fun t ht9 hW => ⟨⟨0, v, rfl, ⟨rfl, ⟨z344, (Or.inr (⟨z3, (Or.inl ⟨z5, rfl⟩)⟩))⟩⟩, by rw [ht9]; exact hP, hD⟩, hS.F ht9⟩) hS.2.2 dX3_numberAt_28
    · have z6 : pa.toInt < (v.1 0 344).toInt := nle_z rfl rfl h4
      refine lv_iload_n hx hb dX3_numberAt_12 rfl (lv_at hl 1 rfl) ?_
      refine lv_bipush (v := 64) hx hb dX3_numberAt_13 (by decide) ?_
      refine lv_icmp_ge (tgt := 27) hx hb dX3_numberAt_15 (by decide) (fun h7 => ?_) (fun h7 => ?_)
      · have z8 : (64 : Int) ≤ pa.toInt := le_z (show (64 : Int32).toInt = (64 : Int) by decide) rfl h7
        exact False.elim (om_344c229bb0 z344 z6 z8)
      · have z9 : pa.toInt < (64 : Int) := nle_z (show (64 : Int32).toInt = (64 : Int) by decide) rfl h7
        refine lv_aload_n hx hb dX3_numberAt_18 rfl (lv_at hl 0 rfl) ?_
        refine va_get (D := (dC, dI)) (ci := 7) (fs := oF_X3 ad pr v) (v := .ref (ad 343)) (C := RX3) (T := TX3) (N := 3) hx hb ht itX3 hown hK hP 5 rfl rfl 0 (by decide) (ht _ tw_755) (fun _ h9 => h9) rfl dX3_numberAt_19 ?_
        refine lv_iload_n hx hb dX3_numberAt_22 rfl (lv_at hl 1 rfl) ?_
        refine va_iald (D := (dC, dI)) (f := (v.1 343)) hx hb hK hP 21 0 rfl rfl (in_y (a := pa.toInt) (b := 64) rfl (om_51058f7f87 z3) (om_a14798e76b z9) rfl) dX3_numberAt_23 ?_
        refine lv_goto (tgt := 28) hx hb dX3_numberAt_24 (by decide) ?_
        exact W.iret (v := ((v.1 343) pa.toNatClampNeg)) hx hb hr (fun t ht9 hW => ⟨⟨((v.1 343) pa.toNatClampNeg), v, rfl, ⟨rfl, ⟨z344, (Or.inr (⟨z3, (Or.inr (⟨z6, z9, rfl⟩))⟩))⟩⟩, by rw [ht9]; exact hP, hD⟩, hS.F ht9⟩) hS.2.2 dX3_numberAt_28
set_option maxHeartbeats 4000000 in
set_option maxRecDepth 100000 in
theorem c_x_X3_next (l : Launch) (dC : Nat → ClassId) (dI : Nat → Nat → Nat) (cI cB cZ cJ cR : ClassId) (tb : Nat → Nat) (sz : Nat) (ad : Nat → Nat) (pr : Int32 → Nat) (N : Nat) (L1 L2 : List Nat) (v : MS)  (z344 : 0 ≤ (v.1 0 344).toInt ∧ (v.1 0 344).toInt ≤ 64) : Met l yX3_next (Cond.code yX3_next cX3_next 1 (some .int) :: tw_W) ({ frames := 1, cells := 0, slots := 0, locals := 21 }) (pc_ (dC, dI) (tyS cI cB cZ cJ cR) tb (cW ad pr N cI cR L1 L2 v) sz [.ref (ad 905)]) (qi_ (dC, dI) (cW ad pr N cI cR L1 L2 v) sz (fun (r : Int32) (u : MS) => FC [345] [0] v u ∧ (RS0 v u)) (fun (u : MS) => (cW ad pr N cI cR L1 L2 u))) 0 0 (va_A (cW ad pr N cI cR L1 L2 v) sz) := by
  refine Met.ofW (cc := cX3_next) (maxL := 1) (ret := (some .int)) (by decide) rfl ?_
  intro p e s m args below meth c s₁ B hml hv
  obtain ⟨rfl, hsz, hP, hKK, hD0, hFx⟩ := hv
  have hK := hKK.1
  have hx := B.exec
  have hb := B.bytes
  have hr := B.returns
  have ht : ∀ w ∈ tw_W, w.before _ s = true := fun w h => atoms_spec (ws := Cond.code yX3_next cX3_next 1 (some .int) :: tw_W) B.pre w (List.mem_cons_of_mem _ h)
  have hown : s.vm.findClass RX3 = some m.cls := findClass_of_methodNamed B.named
  have hlocks := B.notSynchronized
  subst hsz
  unfold qi_
  have hD := hD0.self (sz := s.heap.size)
  generalize hAe : va_A (cW ad pr N cI cR L1 L2 v) s.heap.size = A at hD hFx ⊢
  have hA : ∀ q : Nat, s.heap.size ≤ q → A q := fun q h => by rw [← hAe]; exact Or.inr h
  have hS : va_S A s.heap s.heap [] := va_S.rf
  have hl := lv_entry ([.ref (ad 905)]) (n := 1) (Nat.le_of_ble_eq_true rfl)
  rw [lg_entry_eq]
  generalize (lg_sl ([.ref (ad 905)]) ++ List.replicate (1 - (lg_sl ([.ref (ad 905)])).length) Slot.unset).toArray = ls at hl ⊢
  have hl : lv_has ls 1 [(0, .ref (ad 905))] := hl
  refine lv_aload_n hx hb dX3_next_0 rfl (lv_at hl 0 rfl) ?_
  refine va_get (D := (dC, dI)) (ci := 7) (fs := oF_X3 ad pr v) (v := .int (v.1 0 345)) (C := RX3) (T := TX3) (N := 3) hx hb ht itX3 hown hK hP 5 rfl rfl 2 (by decide) (ht _ tw_756) (fun _ h9 => h9) rfl dX3_next_1 ?_
  refine lv_aload_n hx hb dX3_next_4 rfl (lv_at hl 0 rfl) ?_
  refine va_get (D := (dC, dI)) (ci := 7) (fs := oF_X3 ad pr v) (v := .int (v.1 0 344)) (C := RX3) (T := TX3) (N := 3) hx hb ht itX3 hown hK hP 5 rfl rfl 1 (by decide) (ht _ tw_754) (fun _ h9 => h9) rfl dX3_next_5 ?_
  refine lv_icmp_lt (tgt := 13) hx hb dX3_next_8 (by decide) (fun h1 => ?_) (fun h1 => ?_)
  · have z2 : (v.1 0 345).toInt < (v.1 0 344).toInt := lt_z rfl rfl h1
    refine lv_aload_n hx hb dX3_next_13 rfl (lv_at hl 0 rfl) ?_
    refine lv_dup hx hb dX3_next_14 rfl ?_
    refine va_get (D := (dC, dI)) (ci := 7) (fs := oF_X3 ad pr v) (v := .int (v.1 0 345)) (C := RX3) (T := TX3) (N := 3) hx hb ht itX3 hown hK hP 5 rfl rfl 2 (by decide) (ht _ tw_756) (fun _ h9 => h9) rfl dX3_next_15 ?_
    refine lv_iconst (v := 1) hx hb dX3_next_18 (by decide) ?_
    refine lv_iadd hx hb dX3_next_19 ?_
    have z3 : ((v.1 0 345) + (1 : Int32)).toInt = (v.1 0 345).toInt + 1 := inc_lt z2
    refine va_put (D := (dC, dI)) (ci := 7) (fs := oF_X3 ad pr v) (v := .int ((v.1 0 345) + (1 : Int32))) (ty := .int) (C := RX3) (T := TX3) (N := 3) hx hb ht itX3 tyX3 tyX3_ok nmX3 hown hK hP hD hS 5 rfl rfl 2 (by decide) (ht _ tw_756) (fun _ h9 => h9) rfl (by decide +kernel) rfl rfl (Nat.le_of_ble_eq_true rfl) dX3_next_20 (fun H locs hP hD hS => ?_)
    have hP := cP_ (cw_345 ad pr N cI cR L1 L2 v ((v.1 0 345) + (1 : Int32))) hP
    have hD := cD_ (cw_345 ad pr N cI cR L1 L2 v ((v.1 0 345) + (1 : Int32))) hD
    refine lv_aload_n hx hb dX3_next_23 rfl (lv_at hl 0 rfl) ?_
    refine lv_aload_n hx hb dX3_next_24 rfl (lv_at hl 0 rfl) ?_
    refine va_get (D := (dC, dI)) (ci := 7) (fs := oF_X3 ad pr (wA v 0 345 ((v.1 0 345) + (1 : Int32)))) (v := .int ((v.1 0 345) + (1 : Int32))) (C := RX3) (T := TX3) (N := 3) hx hb ht itX3 hown hK hP 5 rfl rfl 2 (by decide) (ht _ tw_756) (fun _ h9 => h9) rfl dX3_next_25 ?_
    refine lv_iconst (v := 1) hx hb dX3_next_28 (by decide) ?_
    refine lv_isub hx hb dX3_next_29 ?_
    refine tp_i (y := (v.1 0 345)) (as1_ _) ?_
    refine cu_i (rn_Vk (n := 1) (As := [.int (v.1 0 345)]) (rest := []) hx hb hml hown ht hKK hFx hP hD hS hA (c_x_X3_numberAt l dC dI cI cB cZ cJ cR tb H.size ad pr N L1 L2 (wA v 0 345 ((v.1 0 345) + (1 : Int32))) (v.1 0 345) (show 0 ≤ (v.1 0 344).toInt ∧ (v.1 0 344).toInt ≤ 64 from (om_0522002ca7 z344))) tw_757 tw_758 (by decide +kernel) rfl rfl ⟨Nat.le_of_ble_eq_true rfl, Nat.le_of_ble_eq_true rfl⟩ (List.range (cW ad pr N cI cR L1 L2 (wA v 0 345 ((v.1 0 345) + (1 : Int32)))).length) (rg_map _) (nd_range _) 5 rfl rfl rfl rfl hl.1 rfl (Nat.le_of_ble_eq_true rfl) dX3_next_30 ⟨Nat.le_of_ble_eq_true rfl, Nat.le_of_ble_eq_true rfl⟩) hP hD hS hA (fun r6 u5 H locs hw4 hP hD hS => ?_)
    obtain ⟨rfl, ex4⟩ := hw4
    refine W.widen (k := 0) (n := 0) (Nat.le_refl _) (Nat.le_refl _) ?_
    exact W.iret (v := r6) hx hb hr (fun t ht9 hW => ⟨⟨r6, (wA v 0 345 ((v.1 0 345) + (1 : Int32))), rfl, ⟨(FC.f (FC.rf _) ((v.1 0 345) + (1 : Int32)) (by decide)), (RS0.w RS0.rf (by decide))⟩, by rw [ht9]; exact hP, hD⟩, hS.F ht9⟩) hS.2.2 dX3_next_33
  · have z7 : (v.1 0 344).toInt ≤ (v.1 0 345).toInt := nlt_z rfl rfl h1
    refine lv_iconst (v := 0) hx hb dX3_next_11 (by decide) ?_
    exact W.iret (v := 0) hx hb hr (fun t ht9 hW => ⟨⟨0, v, rfl, ⟨(FC.rf _), RS0.rf⟩, by rw [ht9]; exact hP, hD⟩, hS.F ht9⟩) hS.2.2 dX3_next_12
theorem om_8f80914feb {x0 : Int} (h0 : x0 = (1 : Int)) (h1 : x0 = (5 : Int)) : False := by omega
theorem om_f53d3bb632 {x0 : Int} (h0 : x0 = (5 : Int)) (h1 : x0 ≠ (5 : Int)) : False := by omega
set_option maxHeartbeats 4000000 in
set_option maxRecDepth 100000 in
theorem c_x_X4_numberedKind (l : Launch) (dC : Nat → ClassId) (dI : Nat → Nat → Nat) (cI cB cZ cJ cR : ClassId) (tb : Nat → Nat) (sz : Nat) (pa : Int32) (pb : Int32)  : Met l yX4_numberedKind (Cond.code yX4_numberedKind cX4_numberedKind 3 (some .int) :: tw_W) ({ frames := 0, cells := 0, slots := 0, locals := 0 }) (pc_ (dC, dI) (tyS cI cB cZ cJ cR) tb [] sz [.int pa, .int pb]) (qi_ (dC, dI) [] sz (fun (r : Int32) (u : Unit) => True) (fun (u : Unit) => [])) 0 0 (va_A [] sz) := by
  refine Met.ofW (cc := cX4_numberedKind) (maxL := 3) (ret := (some .int)) (by decide) rfl ?_
  intro p e s m args below meth c s₁ B hml hv
  obtain ⟨rfl, hsz, hP, hKK, hD0, hFx⟩ := hv
  have hK := hKK.1
  have hx := B.exec
  have hb := B.bytes
  have hr := B.returns
  have ht : ∀ w ∈ tw_W, w.before _ s = true := fun w h => atoms_spec (ws := Cond.code yX4_numberedKind cX4_numberedKind 3 (some .int) :: tw_W) B.pre w (List.mem_cons_of_mem _ h)
  have hown : s.vm.findClass RX4 = some m.cls := findClass_of_methodNamed B.named
  have hlocks := B.notSynchronized
  subst hsz
  unfold qi_
  have hD := hD0.self (sz := s.heap.size)
  generalize hAe : va_A [] s.heap.size = A at hD hFx ⊢
  have hA : ∀ q : Nat, s.heap.size ≤ q → A q := fun q h => by rw [← hAe]; exact Or.inr h
  have hS : va_S A s.heap s.heap [] := va_S.rf
  have hl := lv_entry ([.int pa, .int pb]) (n := 3) (Nat.le_of_ble_eq_true rfl)
  rw [lg_entry_eq]
  generalize (lg_sl ([.int pa, .int pb]) ++ List.replicate (3 - (lg_sl ([.int pa, .int pb])).length) Slot.unset).toArray = ls at hl ⊢
  have hl : lv_has ls 3 [(0, .int pa), (1, .int pb)] := hl
  refine lv_iload_n hx hb dX4_numberedKind_0 rfl (lv_at hl 0 rfl) ?_
  refine lv_iconst (v := 1) hx hb dX4_numberedKind_1 (by decide) ?_
  refine lv_icmp_eq (tgt := 10) hx hb dX4_numberedKind_2 (by decide) (fun h1 => ?_) (fun h1 => ?_)
  · have z2 : pa.toInt = (1 : Int) := eq_z rfl (show (1 : Int32).toInt = (1 : Int) by decide) h1
    refine lv_iconst (v := 1) hx hb dX4_numberedKind_10 (by decide) ?_
    refine lv_goto (tgt := 15) hx hb dX4_numberedKind_11 (by decide) ?_
    refine lv_istore_n (lv' := [(2, .int 1), (0, .int pa), (1, .int pb)]) hx hb dX4_numberedKind_15 rfl hl (by decide) rfl (fun ls hl => ?_)
    refine lv_iload_n hx hb dX4_numberedKind_16 rfl (lv_at hl 0 rfl) ?_
    refine lv_if_eq (tgt := 24) hx hb dX4_numberedKind_17 (by decide) (fun k3 => absurd k3 (by decide)) (fun _ => ?_)
    refine lv_iload_n hx hb dX4_numberedKind_20 rfl (lv_at hl 2 rfl) ?_
    refine lv_if_ne (tgt := 33) hx hb dX4_numberedKind_21 (by decide) (fun h4 => ?_) (fun h4 => ?_)
    · have z5 : pb.toInt ≠ (0 : Int) := ne_z rfl (show (0 : Int32).toInt = (0 : Int) by decide) h4
      refine lv_iload_n hx hb dX4_numberedKind_33 rfl (lv_at hl 1 rfl) ?_
      refine lv_iconst (v := 5) hx hb dX4_numberedKind_34 (by decide) ?_
      refine lv_icmp_ne (tgt := 49) hx hb dX4_numberedKind_35 (by decide) (fun h6 => ?_) (fun h6 => ?_)
      · have z7 : pa.toInt ≠ (5 : Int) := ne_z rfl (show (5 : Int32).toInt = (5 : Int) by decide) h6
        refine lv_bipush (v := 40) hx hb dX4_numberedKind_49 (by decide) ?_
        exact W.iret (v := 40) hx hb hr (fun t ht9 hW => ⟨⟨40, (), rfl, trivial, by rw [ht9]; exact hP, hD⟩, hS.F ht9⟩) hS.2.2 dX4_numberedKind_51
      · have z8 : pa.toInt = (5 : Int) := eq_z rfl (show (5 : Int32).toInt = (5 : Int) by decide) h6
        exact False.elim (om_8f80914feb z2 z8)
    · have z9 : pb.toInt = (0 : Int) := eq_z rfl (show (0 : Int32).toInt = (0 : Int) by decide) h4
      refine va_gets hx hb (show va_Z RX4 "NUMBERED" "[I" (.ref (tb 3)) A s s.heap from (hFx.2.1 3 _ rfl).1) hS hown (ht _ tw_759) (fun _ h9 => h9) dX4_numberedKind_24 ?_
      refine lv_iload_n hx hb dX4_numberedKind_27 rfl (lv_at hl 1 rfl) ?_
      refine lv_bipush (v := 7) hx hb dX4_numberedKind_28 (by decide) ?_
      refine lv_iand hx hb dX4_numberedKind_30 ?_
      refine va_ti (v := .int (([18, 24, 19, 20, 21, 25, 22, 23] : List Int32).getD (pa &&& (7 : Int32)).toNatClampNeg 0)) hx hb (hFx.2.1 3 _ rfl).2 hS (pk_andIn pa 3 (by decide) (by decide)) rfl dX4_numberedKind_31 ?_
      obtain ⟨g10, hg11⟩ : ∃ z : Int32, z = (([18, 24, 19, 20, 21, 25, 22, 23] : List Int32).getD (pa &&& (7 : Int32)).toNatClampNeg 0) := ⟨_, rfl⟩
      refine tp_i (y := g10) hg11.symm ?_
      have z12 : 0 ≤ g10.toInt ∧ g10.toInt ≤ 40 := tbr_f (by decide) hg11
      exact W.iret (v := g10) hx hb hr (fun t ht9 hW => ⟨⟨g10, (), rfl, trivial, by rw [ht9]; exact hP, hD⟩, hS.F ht9⟩) hS.2.2 dX4_numberedKind_32
  · have z13 : pa.toInt ≠ (1 : Int) := ne_z rfl (show (1 : Int32).toInt = (1 : Int) by decide) h1
    refine lv_iload_n hx hb dX4_numberedKind_5 rfl (lv_at hl 0 rfl) ?_
    refine lv_iconst (v := 5) hx hb dX4_numberedKind_6 (by decide) ?_
    refine lv_icmp_ne (tgt := 14) hx hb dX4_numberedKind_7 (by decide) (fun h14 => ?_) (fun h14 => ?_)
    · have z15 : pa.toInt ≠ (5 : Int) := ne_z rfl (show (5 : Int32).toInt = (5 : Int) by decide) h14
      refine lv_iconst (v := 0) hx hb dX4_numberedKind_14 (by decide) ?_
      refine lv_istore_n (lv' := [(2, .int 0), (0, .int pa), (1, .int pb)]) hx hb dX4_numberedKind_15 rfl hl (by decide) rfl (fun ls hl => ?_)
      refine lv_iload_n hx hb dX4_numberedKind_16 rfl (lv_at hl 0 rfl) ?_
      refine lv_if_eq (tgt := 24) hx hb dX4_numberedKind_17 (by decide) (fun _ => ?_) (fun k16 => absurd k16 (by decide))
      refine va_gets hx hb (show va_Z RX4 "NUMBERED" "[I" (.ref (tb 3)) A s s.heap from (hFx.2.1 3 _ rfl).1) hS hown (ht _ tw_759) (fun _ h9 => h9) dX4_numberedKind_24 ?_
      refine lv_iload_n hx hb dX4_numberedKind_27 rfl (lv_at hl 1 rfl) ?_
      refine lv_bipush (v := 7) hx hb dX4_numberedKind_28 (by decide) ?_
      refine lv_iand hx hb dX4_numberedKind_30 ?_
      refine va_ti (v := .int (([18, 24, 19, 20, 21, 25, 22, 23] : List Int32).getD (pa &&& (7 : Int32)).toNatClampNeg 0)) hx hb (hFx.2.1 3 _ rfl).2 hS (pk_andIn pa 3 (by decide) (by decide)) rfl dX4_numberedKind_31 ?_
      obtain ⟨g17, hg18⟩ : ∃ z : Int32, z = (([18, 24, 19, 20, 21, 25, 22, 23] : List Int32).getD (pa &&& (7 : Int32)).toNatClampNeg 0) := ⟨_, rfl⟩
      refine tp_i (y := g17) hg18.symm ?_
      have z19 : 0 ≤ g17.toInt ∧ g17.toInt ≤ 40 := tbr_f (by decide) hg18
      exact W.iret (v := g17) hx hb hr (fun t ht9 hW => ⟨⟨g17, (), rfl, trivial, by rw [ht9]; exact hP, hD⟩, hS.F ht9⟩) hS.2.2 dX4_numberedKind_32
    · have z20 : pa.toInt = (5 : Int) := eq_z rfl (show (5 : Int32).toInt = (5 : Int) by decide) h14
      refine lv_iconst (v := 1) hx hb dX4_numberedKind_10 (by decide) ?_
      refine lv_goto (tgt := 15) hx hb dX4_numberedKind_11 (by decide) ?_
      refine lv_istore_n (lv' := [(2, .int 1), (0, .int pa), (1, .int pb)]) hx hb dX4_numberedKind_15 rfl hl (by decide) rfl (fun ls hl => ?_)
      refine lv_iload_n hx hb dX4_numberedKind_16 rfl (lv_at hl 0 rfl) ?_
      refine lv_if_eq (tgt := 24) hx hb dX4_numberedKind_17 (by decide) (fun k21 => absurd k21 (by decide)) (fun _ => ?_)
      refine lv_iload_n hx hb dX4_numberedKind_20 rfl (lv_at hl 2 rfl) ?_
      refine lv_if_ne (tgt := 33) hx hb dX4_numberedKind_21 (by decide) (fun h22 => ?_) (fun h22 => ?_)
      · have z23 : pb.toInt ≠ (0 : Int) := ne_z rfl (show (0 : Int32).toInt = (0 : Int) by decide) h22
        refine lv_iload_n hx hb dX4_numberedKind_33 rfl (lv_at hl 1 rfl) ?_
        refine lv_iconst (v := 5) hx hb dX4_numberedKind_34 (by decide) ?_
        refine lv_icmp_ne (tgt := 49) hx hb dX4_numberedKind_35 (by decide) (fun h24 => ?_) (fun h24 => ?_)
        · have z25 : pa.toInt ≠ (5 : Int) := ne_z rfl (show (5 : Int32).toInt = (5 : Int) by decide) h24
          exact False.elim (om_f53d3bb632 z20 z25)
        · have z26 : pa.toInt = (5 : Int) := eq_z rfl (show (5 : Int32).toInt = (5 : Int) by decide) h24
          refine lv_iload_n hx hb dX4_numberedKind_38 rfl (lv_at hl 2 rfl) ?_
          refine lv_bipush (v := 32) hx hb dX4_numberedKind_39 (by decide) ?_
          refine lv_icmp_ne (tgt := 49) hx hb dX4_numberedKind_41 (by decide) (fun h27 => ?_) (fun h27 => ?_)
          · have z28 : pb.toInt ≠ (32 : Int) := ne_z rfl (show (32 : Int32).toInt = (32 : Int) by decide) h27
            refine lv_bipush (v := 40) hx hb dX4_numberedKind_49 (by decide) ?_
            exact W.iret (v := 40) hx hb hr (fun t ht9 hW => ⟨⟨40, (), rfl, trivial, by rw [ht9]; exact hP, hD⟩, hS.F ht9⟩) hS.2.2 dX4_numberedKind_51
          · have z29 : pb.toInt = (32 : Int) := eq_z rfl (show (32 : Int32).toInt = (32 : Int) by decide) h27
            refine lv_bipush (v := 26) hx hb dX4_numberedKind_44 (by decide) ?_
            refine lv_goto (tgt := 51) hx hb dX4_numberedKind_46 (by decide) ?_
            exact W.iret (v := 26) hx hb hr (fun t ht9 hW => ⟨⟨26, (), rfl, trivial, by rw [ht9]; exact hP, hD⟩, hS.F ht9⟩) hS.2.2 dX4_numberedKind_51
      · have z30 : pb.toInt = (0 : Int) := eq_z rfl (show (0 : Int32).toInt = (0 : Int) by decide) h22
        refine va_gets hx hb (show va_Z RX4 "NUMBERED" "[I" (.ref (tb 3)) A s s.heap from (hFx.2.1 3 _ rfl).1) hS hown (ht _ tw_759) (fun _ h9 => h9) dX4_numberedKind_24 ?_
        refine lv_iload_n hx hb dX4_numberedKind_27 rfl (lv_at hl 1 rfl) ?_
        refine lv_bipush (v := 7) hx hb dX4_numberedKind_28 (by decide) ?_
        refine lv_iand hx hb dX4_numberedKind_30 ?_
        refine va_ti (v := .int (([18, 24, 19, 20, 21, 25, 22, 23] : List Int32).getD (pa &&& (7 : Int32)).toNatClampNeg 0)) hx hb (hFx.2.1 3 _ rfl).2 hS (pk_andIn pa 3 (by decide) (by decide)) rfl dX4_numberedKind_31 ?_
        obtain ⟨g31, hg32⟩ : ∃ z : Int32, z = (([18, 24, 19, 20, 21, 25, 22, 23] : List Int32).getD (pa &&& (7 : Int32)).toNatClampNeg 0) := ⟨_, rfl⟩
        refine tp_i (y := g31) hg32.symm ?_
        have z33 : 0 ≤ g31.toInt ∧ g31.toInt ≤ 40 := tbr_f (by decide) hg32
        exact W.iret (v := g31) hx hb hr (fun t ht9 hW => ⟨⟨g31, (), rfl, trivial, by rw [ht9]; exact hP, hD⟩, hS.F ht9⟩) hS.2.2 dX4_numberedKind_32
set_option maxHeartbeats 4000000 in
set_option maxRecDepth 100000 in
theorem c_x_X4_plainKind (l : Launch) (dC : Nat → ClassId) (dI : Nat → Nat → Nat) (cI cB cZ cJ cR : ClassId) (tb : Nat → Nat) (sz : Nat) (pa : Int32) (pb : Int32)  : Met l yX4_plainKind (Cond.code yX4_plainKind cX4_plainKind 2 (some .int) :: tw_W) ({ frames := 0, cells := 0, slots := 0, locals := 0 }) (pc_ (dC, dI) (tyS cI cB cZ cJ cR) tb [] sz [.int pa, .int pb]) (qi_ (dC, dI) [] sz (fun (r : Int32) (u : Unit) => True) (fun (u : Unit) => [])) 0 0 (va_A [] sz) := by
  refine Met.ofW (cc := cX4_plainKind) (maxL := 2) (ret := (some .int)) (by decide) rfl ?_
  intro p e s m args below meth c s₁ B hml hv
  obtain ⟨rfl, hsz, hP, hKK, hD0, hFx⟩ := hv
  have hK := hKK.1
  have hx := B.exec
  have hb := B.bytes
  have hr := B.returns
  have ht : ∀ w ∈ tw_W, w.before _ s = true := fun w h => atoms_spec (ws := Cond.code yX4_plainKind cX4_plainKind 2 (some .int) :: tw_W) B.pre w (List.mem_cons_of_mem _ h)
  have hown : s.vm.findClass RX4 = some m.cls := findClass_of_methodNamed B.named
  have hlocks := B.notSynchronized
  subst hsz
  unfold qi_
  have hD := hD0.self (sz := s.heap.size)
  generalize hAe : va_A [] s.heap.size = A at hD hFx ⊢
  have hA : ∀ q : Nat, s.heap.size ≤ q → A q := fun q h => by rw [← hAe]; exact Or.inr h
  have hS : va_S A s.heap s.heap [] := va_S.rf
  have hl := lv_entry ([.int pa, .int pb]) (n := 2) (Nat.le_of_ble_eq_true rfl)
  rw [lg_entry_eq]
  generalize (lg_sl ([.int pa, .int pb]) ++ List.replicate (2 - (lg_sl ([.int pa, .int pb])).length) Slot.unset).toArray = ls at hl ⊢
  have hl : lv_has ls 2 [(0, .int pa), (1, .int pb)] := hl
  refine lv_iload_n hx hb dX4_plainKind_0 rfl (lv_at hl 1 rfl) ?_
  refine lv_if_ne (tgt := 13) hx hb dX4_plainKind_1 (by decide) (fun h1 => ?_) (fun h1 => ?_)
  · have z2 : pb.toInt ≠ (0 : Int) := ne_z rfl (show (0 : Int32).toInt = (0 : Int) by decide) h1
    refine lv_iload_n hx hb dX4_plainKind_13 rfl (lv_at hl 1 rfl) ?_
    refine lv_bipush (v := 32) hx hb dX4_plainKind_14 (by decide) ?_
    refine lv_icmp_eq (tgt := 22) hx hb dX4_plainKind_16 (by decide) (fun h3 => ?_) (fun h3 => ?_)
    · have z4 : pb.toInt = (32 : Int) := eq_z rfl (show (32 : Int32).toInt = (32 : Int) by decide) h3
      refine lv_iload_n hx hb dX4_plainKind_22 rfl (lv_at hl 0 rfl) ?_
      refine lv_if_ne (tgt := 31) hx hb dX4_plainKind_23 (by decide) (fun h5 => ?_) (fun h5 => ?_)
      · have z6 : pa.toInt ≠ (0 : Int) := ne_z rfl (show (0 : Int32).toInt = (0 : Int) by decide) h5
        refine lv_iload_n hx hb dX4_plainKind_31 rfl (lv_at hl 0 rfl) ?_
        refine lv_iconst (v := 5) hx hb dX4_plainKind_32 (by decide) ?_
        refine lv_icmp_ne (tgt := 41) hx hb dX4_plainKind_33 (by decide) (fun h7 => ?_) (fun h7 => ?_)
        · have z8 : pa.toInt ≠ (5 : Int) := ne_z rfl (show (5 : Int32).toInt = (5 : Int) by decide) h7
          refine lv_bipush (v := 40) hx hb dX4_plainKind_41 (by decide) ?_
          exact W.iret (v := 40) hx hb hr (fun t ht9 hW => ⟨⟨40, (), rfl, trivial, by rw [ht9]; exact hP, hD⟩, hS.F ht9⟩) hS.2.2 dX4_plainKind_43
        · have z9 : pa.toInt = (5 : Int) := eq_z rfl (show (5 : Int32).toInt = (5 : Int) by decide) h7
          refine lv_bipush (v := 34) hx hb dX4_plainKind_36 (by decide) ?_
          refine lv_goto (tgt := 43) hx hb dX4_plainKind_38 (by decide) ?_
          exact W.iret (v := 34) hx hb hr (fun t ht9 hW => ⟨⟨34, (), rfl, trivial, by rw [ht9]; exact hP, hD⟩, hS.F ht9⟩) hS.2.2 dX4_plainKind_43
      · have z10 : pa.toInt = (0 : Int) := eq_z rfl (show (0 : Int32).toInt = (0 : Int) by decide) h5
        refine lv_bipush (v := 28) hx hb dX4_plainKind_26 (by decide) ?_
        refine lv_goto (tgt := 43) hx hb dX4_plainKind_28 (by decide) ?_
        exact W.iret (v := 28) hx hb hr (fun t ht9 hW => ⟨⟨28, (), rfl, trivial, by rw [ht9]; exact hP, hD⟩, hS.F ht9⟩) hS.2.2 dX4_plainKind_43
    · have z11 : pb.toInt ≠ (32 : Int) := ne_z rfl (show (32 : Int32).toInt = (32 : Int) by decide) h3
      refine lv_bipush (v := 40) hx hb dX4_plainKind_19 (by decide) ?_
      exact W.iret (v := 40) hx hb hr (fun t ht9 hW => ⟨⟨40, (), rfl, trivial, by rw [ht9]; exact hP, hD⟩, hS.F ht9⟩) hS.2.2 dX4_plainKind_21
  · have z12 : pb.toInt = (0 : Int) := eq_z rfl (show (0 : Int32).toInt = (0 : Int) by decide) h1
    refine va_gets hx hb (show va_Z RX4 "PLAIN" "[I" (.ref (tb 4)) A s s.heap from (hFx.2.1 4 _ rfl).1) hS hown (ht _ tw_760) (fun _ h9 => h9) dX4_plainKind_4 ?_
    refine lv_iload_n hx hb dX4_plainKind_7 rfl (lv_at hl 0 rfl) ?_
    refine lv_bipush (v := 7) hx hb dX4_plainKind_8 (by decide) ?_
    refine lv_iand hx hb dX4_plainKind_10 ?_
    refine va_ti (v := .int (([27, 29, 30, 31, 32, 33, 35, 36] : List Int32).getD (pa &&& (7 : Int32)).toNatClampNeg 0)) hx hb (hFx.2.1 4 _ rfl).2 hS (pk_andIn pa 3 (by decide) (by decide)) rfl dX4_plainKind_11 ?_
    obtain ⟨g13, hg14⟩ : ∃ z : Int32, z = (([27, 29, 30, 31, 32, 33, 35, 36] : List Int32).getD (pa &&& (7 : Int32)).toNatClampNeg 0) := ⟨_, rfl⟩
    refine tp_i (y := g13) hg14.symm ?_
    have z15 : 0 ≤ g13.toInt ∧ g13.toInt ≤ 40 := tbr_f (by decide) hg14
    exact W.iret (v := g13) hx hb hr (fun t ht9 hW => ⟨⟨g13, (), rfl, trivial, by rw [ht9]; exact hP, hD⟩, hS.F ht9⟩) hS.2.2 dX4_plainKind_12
set_option maxHeartbeats 4000000 in
set_option maxRecDepth 100000 in
theorem c_x_X4_kindOf (l : Launch) (dC : Nat → ClassId) (dI : Nat → Nat → Nat) (cI cB cZ cJ cR : ClassId) (tb : Nat → Nat) (sz : Nat) (pa : Int32)  : Met l yX4_kindOf (Cond.code yX4_kindOf cX4_kindOf 2 (some .int) :: tw_W) ({ frames := 1, cells := 0, slots := 0, locals := 22 }) (pc_ (dC, dI) (tyS cI cB cZ cJ cR) tb [] sz [.int pa]) (qi_ (dC, dI) [] sz (fun (r : Int32) (u : Unit) => True) (fun (u : Unit) => [])) 0 0 (va_A [] sz) := by
  refine Met.ofW (cc := cX4_kindOf) (maxL := 2) (ret := (some .int)) (by decide) rfl ?_
  intro p e s m args below meth c s₁ B hml hv
  obtain ⟨rfl, hsz, hP, hKK, hD0, hFx⟩ := hv
  have hK := hKK.1
  have hx := B.exec
  have hb := B.bytes
  have hr := B.returns
  have ht : ∀ w ∈ tw_W, w.before _ s = true := fun w h => atoms_spec (ws := Cond.code yX4_kindOf cX4_kindOf 2 (some .int) :: tw_W) B.pre w (List.mem_cons_of_mem _ h)
  have hown : s.vm.findClass RX4 = some m.cls := findClass_of_methodNamed B.named
  have hlocks := B.notSynchronized
  subst hsz
  unfold qi_
  have hD := hD0.self (sz := s.heap.size)
  generalize hAe : va_A [] s.heap.size = A at hD hFx ⊢
  have hA : ∀ q : Nat, s.heap.size ≤ q → A q := fun q h => by rw [← hAe]; exact Or.inr h
  have hS : va_S A s.heap s.heap [] := va_S.rf
  have hl := lv_entry ([.int pa]) (n := 2) (Nat.le_of_ble_eq_true rfl)
  rw [lg_entry_eq]
  generalize (lg_sl ([.int pa]) ++ List.replicate (2 - (lg_sl ([.int pa])).length) Slot.unset).toArray = ls at hl ⊢
  have hl : lv_has ls 2 [(0, .int pa)] := hl
  refine lv_iload_n hx hb dX4_kindOf_0 rfl (lv_at hl 0 rfl) ?_
  refine lv_bipush (v := 12) hx hb dX4_kindOf_1 (by decide) ?_
  refine lv_iushr hx hb dX4_kindOf_3 rfl ?_
  refine lv_bipush (v := 7) hx hb dX4_kindOf_4 (by decide) ?_
  refine lv_iand hx hb dX4_kindOf_6 ?_
  refine lv_istore_n (lv' := [(1, .int (((pa.toUInt32 >>> ((12 : Int32).toUInt32 &&& Int32.toUInt32 31)).toInt32) &&& (7 : Int32))), (0, .int pa)]) hx hb dX4_kindOf_7 rfl hl (by decide) rfl (fun ls hl => ?_)
  refine lv_iload_n hx hb dX4_kindOf_8 rfl (lv_at hl 1 rfl) ?_
  refine lv_bipush (v := 127) hx hb dX4_kindOf_9 (by decide) ?_
  refine lv_iand hx hb dX4_kindOf_11 ?_
  by_cases h1 : (pa &&& (127 : Int32)) = 3
  · refine lv_lookup (off := 123) (tgt := 135) hx hb dX4_kindOf_12 (by decide) (by rw [h1]; decide) (by decide) ?_
    refine va_gets hx hb (show va_Z RX4 "LOADS" "[I" (.ref (tb 1)) A s s.heap from (hFx.2.1 1 _ rfl).1) hS hown (ht _ tw_761) (fun _ h9 => h9) dX4_kindOf_135 ?_
    refine lv_iload_n hx hb dX4_kindOf_138 rfl (lv_at hl 0 rfl) ?_
    refine va_ti (v := .int (([10, 11, 12, 40, 13, 14, 40, 40] : List Int32).getD (((pa.toUInt32 >>> ((12 : Int32).toUInt32 &&& Int32.toUInt32 31)).toInt32) &&& (7 : Int32)).toNatClampNeg 0)) hx hb (hFx.2.1 1 _ rfl).2 hS (pk_andIn ((pa.toUInt32 >>> ((12 : Int32).toUInt32 &&& Int32.toUInt32 31)).toInt32) 3 (by decide) (by decide)) rfl dX4_kindOf_139 ?_
    obtain ⟨g2, hg3⟩ : ∃ z : Int32, z = (([10, 11, 12, 40, 13, 14, 40, 40] : List Int32).getD (((pa.toUInt32 >>> ((12 : Int32).toUInt32 &&& Int32.toUInt32 31)).toInt32) &&& (7 : Int32)).toNatClampNeg 0) := ⟨_, rfl⟩
    refine tp_i (y := g2) hg3.symm ?_
    have z4 : 0 ≤ g2.toInt ∧ g2.toInt ≤ 40 := tbr_f (by decide) hg3
    exact W.iret (v := g2) hx hb hr (fun t ht9 hW => ⟨⟨g2, (), rfl, trivial, by rw [ht9]; exact hP, hD⟩, hS.F ht9⟩) hS.2.2 dX4_kindOf_140
  ·
    by_cases h5 : (pa &&& (127 : Int32)) = 15
    · refine lv_lookup (off := 153) (tgt := 165) hx hb dX4_kindOf_12 (by decide) (by rw [h5]; decide) (by decide) ?_
      refine lv_iload_n hx hb dX4_kindOf_165 rfl (lv_at hl 0 rfl) ?_
      refine lv_if_ne (tgt := 174) hx hb dX4_kindOf_166 (by decide) (fun h6 => ?_) (fun h6 => ?_)
      · have z7 : (((pa.toUInt32 >>> ((12 : Int32).toUInt32 &&& Int32.toUInt32 31)).toInt32) &&& (7 : Int32)).toInt ≠ (0 : Int) := ne_z rfl (show (0 : Int32).toInt = (0 : Int) by decide) h6
        refine lv_bipush (v := 40) hx hb dX4_kindOf_174 (by decide) ?_
        exact W.iret (v := 40) hx hb hr (fun t ht9 hW => ⟨⟨40, (), rfl, trivial, by rw [ht9]; exact hP, hD⟩, hS.F ht9⟩) hS.2.2 dX4_kindOf_176
      · have z8 : (((pa.toUInt32 >>> ((12 : Int32).toUInt32 &&& Int32.toUInt32 31)).toInt32) &&& (7 : Int32)).toInt = (0 : Int) := eq_z rfl (show (0 : Int32).toInt = (0 : Int) by decide) h6
        refine lv_bipush (v := 37) hx hb dX4_kindOf_169 (by decide) ?_
        refine lv_goto (tgt := 176) hx hb dX4_kindOf_171 (by decide) ?_
        exact W.iret (v := 37) hx hb hr (fun t ht9 hW => ⟨⟨37, (), rfl, trivial, by rw [ht9]; exact hP, hD⟩, hS.F ht9⟩) hS.2.2 dX4_kindOf_176
    ·
      by_cases h9 : (pa &&& (127 : Int32)) = 19
      · refine lv_lookup (off := 135) (tgt := 147) hx hb dX4_kindOf_12 (by decide) (by rw [h9]; decide) (by decide) ?_
        refine lv_iload_n hx hb dX4_kindOf_147 rfl (lv_at hl 0 rfl) ?_
        refine lv_iload_n hx hb dX4_kindOf_148 rfl (lv_at hl 1 rfl) ?_
        refine lv_bipush (v := 25) hx hb dX4_kindOf_149 (by decide) ?_
        refine lv_iushr hx hb dX4_kindOf_151 rfl ?_
        refine cu_i (rn_S (n := 2) (As := [.int (((pa.toUInt32 >>> ((12 : Int32).toUInt32 &&& Int32.toUInt32 31)).toInt32) &&& (7 : Int32)), .int ((pa.toUInt32 >>> ((25 : Int32).toUInt32 &&& Int32.toUInt32 31)).toInt32)]) (rest := []) hx hb hml hown ht hKK hFx hP hD hS hA (c_x_X4_numberedKind l dC dI cI cB cZ cJ cR tb s.heap.size (((pa.toUInt32 >>> ((12 : Int32).toUInt32 &&& Int32.toUInt32 31)).toInt32) &&& (7 : Int32)) ((pa.toUInt32 >>> ((25 : Int32).toUInt32 &&& Int32.toUInt32 31)).toInt32) ) tw_762 tw_763 (by decide +kernel) rfl rfl ⟨Nat.le_of_ble_eq_true rfl, Nat.le_of_ble_eq_true rfl⟩ [] rfl rfl rfl hl.1 rfl (Nat.le_of_ble_eq_true rfl) dX4_kindOf_152 ⟨Nat.le_of_ble_eq_true rfl, Nat.le_of_ble_eq_true rfl⟩) hP hD hS hA (fun r12 _ H locs hw10 hP hD hS => ?_)
        refine W.widen (k := 0) (n := 0) (Nat.le_refl _) (Nat.le_refl _) ?_
        exact W.iret (v := r12) hx hb hr (fun t ht9 hW => ⟨⟨r12, (), rfl, trivial, by rw [ht9]; exact hP, hD⟩, hS.F ht9⟩) hS.2.2 dX4_kindOf_155
      ·
        by_cases h13 : (pa &&& (127 : Int32)) = 23
        · refine lv_lookup (off := 102) (tgt := 114) hx hb dX4_kindOf_12 (by decide) (by rw [h13]; decide) (by decide) ?_
          refine lv_iconst (v := 1) hx hb dX4_kindOf_114 (by decide) ?_
          exact W.iret (v := 1) hx hb hr (fun t ht9 hW => ⟨⟨1, (), rfl, trivial, by rw [ht9]; exact hP, hD⟩, hS.F ht9⟩) hS.2.2 dX4_kindOf_115
        ·
          by_cases h14 : (pa &&& (127 : Int32)) = 35
          · refine lv_lookup (off := 129) (tgt := 141) hx hb dX4_kindOf_12 (by decide) (by rw [h14]; decide) (by decide) ?_
            refine va_gets hx hb (show va_Z RX4 "STORES" "[I" (.ref (tb 2)) A s s.heap from (hFx.2.1 2 _ rfl).1) hS hown (ht _ tw_764) (fun _ h9 => h9) dX4_kindOf_141 ?_
            refine lv_iload_n hx hb dX4_kindOf_144 rfl (lv_at hl 0 rfl) ?_
            refine va_ti (v := .int (([15, 16, 17, 40, 40, 40, 40, 40] : List Int32).getD (((pa.toUInt32 >>> ((12 : Int32).toUInt32 &&& Int32.toUInt32 31)).toInt32) &&& (7 : Int32)).toNatClampNeg 0)) hx hb (hFx.2.1 2 _ rfl).2 hS (pk_andIn ((pa.toUInt32 >>> ((12 : Int32).toUInt32 &&& Int32.toUInt32 31)).toInt32) 3 (by decide) (by decide)) rfl dX4_kindOf_145 ?_
            obtain ⟨g15, hg16⟩ : ∃ z : Int32, z = (([15, 16, 17, 40, 40, 40, 40, 40] : List Int32).getD (((pa.toUInt32 >>> ((12 : Int32).toUInt32 &&& Int32.toUInt32 31)).toInt32) &&& (7 : Int32)).toNatClampNeg 0) := ⟨_, rfl⟩
            refine tp_i (y := g15) hg16.symm ?_
            have z17 : 0 ≤ g15.toInt ∧ g15.toInt ≤ 40 := tbr_f (by decide) hg16
            exact W.iret (v := g15) hx hb hr (fun t ht9 hW => ⟨⟨g15, (), rfl, trivial, by rw [ht9]; exact hP, hD⟩, hS.F ht9⟩) hS.2.2 dX4_kindOf_146
          ·
            by_cases h18 : (pa &&& (127 : Int32)) = 51
            · refine lv_lookup (off := 144) (tgt := 156) hx hb dX4_kindOf_12 (by decide) (by rw [h18]; decide) (by decide) ?_
              refine lv_iload_n hx hb dX4_kindOf_156 rfl (lv_at hl 0 rfl) ?_
              refine lv_iload_n hx hb dX4_kindOf_157 rfl (lv_at hl 1 rfl) ?_
              refine lv_bipush (v := 25) hx hb dX4_kindOf_158 (by decide) ?_
              refine lv_iushr hx hb dX4_kindOf_160 rfl ?_
              refine cu_i (rn_S (n := 2) (As := [.int (((pa.toUInt32 >>> ((12 : Int32).toUInt32 &&& Int32.toUInt32 31)).toInt32) &&& (7 : Int32)), .int ((pa.toUInt32 >>> ((25 : Int32).toUInt32 &&& Int32.toUInt32 31)).toInt32)]) (rest := []) hx hb hml hown ht hKK hFx hP hD hS hA (c_x_X4_plainKind l dC dI cI cB cZ cJ cR tb s.heap.size (((pa.toUInt32 >>> ((12 : Int32).toUInt32 &&& Int32.toUInt32 31)).toInt32) &&& (7 : Int32)) ((pa.toUInt32 >>> ((25 : Int32).toUInt32 &&& Int32.toUInt32 31)).toInt32) ) tw_765 tw_766 (by decide +kernel) rfl rfl ⟨Nat.le_of_ble_eq_true rfl, Nat.le_of_ble_eq_true rfl⟩ [] rfl rfl rfl hl.1 rfl (Nat.le_of_ble_eq_true rfl) dX4_kindOf_161 ⟨Nat.le_of_ble_eq_true rfl, Nat.le_of_ble_eq_true rfl⟩) hP hD hS hA (fun r21 _ H locs hw19 hP hD hS => ?_)
              refine W.widen (k := 0) (n := 0) (Nat.le_refl _) (Nat.le_refl _) ?_
              exact W.iret (v := r21) hx hb hr (fun t ht9 hW => ⟨⟨r21, (), rfl, trivial, by rw [ht9]; exact hP, hD⟩, hS.F ht9⟩) hS.2.2 dX4_kindOf_164
            ·
              by_cases h22 : (pa &&& (127 : Int32)) = 55
              · refine lv_lookup (off := 100) (tgt := 112) hx hb dX4_kindOf_12 (by decide) (by rw [h22]; decide) (by decide) ?_
                refine lv_iconst (v := 0) hx hb dX4_kindOf_112 (by decide) ?_
                exact W.iret (v := 0) hx hb hr (fun t ht9 hW => ⟨⟨0, (), rfl, trivial, by rw [ht9]; exact hP, hD⟩, hS.F ht9⟩) hS.2.2 dX4_kindOf_113
              ·
                by_cases h23 : (pa &&& (127 : Int32)) = 99
                · refine lv_lookup (off := 117) (tgt := 129) hx hb dX4_kindOf_12 (by decide) (by rw [h23]; decide) (by decide) ?_
                  refine va_gets hx hb (show va_Z RX4 "BRANCHES" "[I" (.ref (tb 0)) A s s.heap from (hFx.2.1 0 _ rfl).1) hS hown (ht _ tw_767) (fun _ h9 => h9) dX4_kindOf_129 ?_
                  refine lv_iload_n hx hb dX4_kindOf_132 rfl (lv_at hl 0 rfl) ?_
                  refine va_ti (v := .int (([4, 5, 40, 40, 6, 7, 8, 9] : List Int32).getD (((pa.toUInt32 >>> ((12 : Int32).toUInt32 &&& Int32.toUInt32 31)).toInt32) &&& (7 : Int32)).toNatClampNeg 0)) hx hb (hFx.2.1 0 _ rfl).2 hS (pk_andIn ((pa.toUInt32 >>> ((12 : Int32).toUInt32 &&& Int32.toUInt32 31)).toInt32) 3 (by decide) (by decide)) rfl dX4_kindOf_133 ?_
                  obtain ⟨g24, hg25⟩ : ∃ z : Int32, z = (([4, 5, 40, 40, 6, 7, 8, 9] : List Int32).getD (((pa.toUInt32 >>> ((12 : Int32).toUInt32 &&& Int32.toUInt32 31)).toInt32) &&& (7 : Int32)).toNatClampNeg 0) := ⟨_, rfl⟩
                  refine tp_i (y := g24) hg25.symm ?_
                  have z26 : 0 ≤ g24.toInt ∧ g24.toInt ≤ 40 := tbr_f (by decide) hg25
                  exact W.iret (v := g24) hx hb hr (fun t ht9 hW => ⟨⟨g24, (), rfl, trivial, by rw [ht9]; exact hP, hD⟩, hS.F ht9⟩) hS.2.2 dX4_kindOf_134
                ·
                  by_cases h27 : (pa &&& (127 : Int32)) = 103
                  · refine lv_lookup (off := 106) (tgt := 118) hx hb dX4_kindOf_12 (by decide) (by rw [h27]; decide) (by decide) ?_
                    refine lv_iload_n hx hb dX4_kindOf_118 rfl (lv_at hl 0 rfl) ?_
                    refine lv_if_ne (tgt := 126) hx hb dX4_kindOf_119 (by decide) (fun h28 => ?_) (fun h28 => ?_)
                    · have z29 : (((pa.toUInt32 >>> ((12 : Int32).toUInt32 &&& Int32.toUInt32 31)).toInt32) &&& (7 : Int32)).toInt ≠ (0 : Int) := ne_z rfl (show (0 : Int32).toInt = (0 : Int) by decide) h28
                      refine lv_bipush (v := 40) hx hb dX4_kindOf_126 (by decide) ?_
                      exact W.iret (v := 40) hx hb hr (fun t ht9 hW => ⟨⟨40, (), rfl, trivial, by rw [ht9]; exact hP, hD⟩, hS.F ht9⟩) hS.2.2 dX4_kindOf_128
                    · have z30 : (((pa.toUInt32 >>> ((12 : Int32).toUInt32 &&& Int32.toUInt32 31)).toInt32) &&& (7 : Int32)).toInt = (0 : Int) := eq_z rfl (show (0 : Int32).toInt = (0 : Int) by decide) h28
                      refine lv_iconst (v := 3) hx hb dX4_kindOf_122 (by decide) ?_
                      refine lv_goto (tgt := 128) hx hb dX4_kindOf_123 (by decide) ?_
                      exact W.iret (v := 3) hx hb hr (fun t ht9 hW => ⟨⟨3, (), rfl, trivial, by rw [ht9]; exact hP, hD⟩, hS.F ht9⟩) hS.2.2 dX4_kindOf_128
                  ·
                    by_cases h31 : (pa &&& (127 : Int32)) = 111
                    · refine lv_lookup (off := 104) (tgt := 116) hx hb dX4_kindOf_12 (by decide) (by rw [h31]; decide) (by decide) ?_
                      refine lv_iconst (v := 2) hx hb dX4_kindOf_116 (by decide) ?_
                      exact W.iret (v := 2) hx hb hr (fun t ht9 hW => ⟨⟨2, (), rfl, trivial, by rw [ht9]; exact hP, hD⟩, hS.F ht9⟩) hS.2.2 dX4_kindOf_117
                    ·
                      by_cases h32 : (pa &&& (127 : Int32)) = 115
                      · refine lv_lookup (off := 165) (tgt := 177) hx hb dX4_kindOf_12 (by decide) (by rw [h32]; decide) (by decide) ?_
                        refine lv_iload_n hx hb dX4_kindOf_177 rfl (lv_at hl 1 rfl) ?_
                        refine lv_bipush (v := 115) hx hb dX4_kindOf_178 (by decide) ?_
                        refine lv_icmp_ne (tgt := 188) hx hb dX4_kindOf_180 (by decide) (fun h33 => ?_) (fun h33 => ?_)
                        · have z34 : pa.toInt ≠ (115 : Int) := ne_z rfl (show (115 : Int32).toInt = (115 : Int) by decide) h33
                          refine lv_iload_n hx hb dX4_kindOf_188 rfl (lv_at hl 1 rfl) ?_
                          refine lv_ldc (v := 1048691) hx hb hown (ht _ tw_768) dX4_kindOf_189 ?_
                          refine lv_icmp_ne (tgt := 199) hx hb dX4_kindOf_191 (by decide) (fun h35 => ?_) (fun h35 => ?_)
                          · have z36 : pa.toInt ≠ (1048691 : Int) := ne_z rfl (show (1048691 : Int32).toInt = (1048691 : Int) by decide) h35
                            refine lv_bipush (v := 40) hx hb dX4_kindOf_199 (by decide) ?_
                            exact W.iret (v := 40) hx hb hr (fun t ht9 hW => ⟨⟨40, (), rfl, trivial, by rw [ht9]; exact hP, hD⟩, hS.F ht9⟩) hS.2.2 dX4_kindOf_201
                          · have z37 : pa.toInt = (1048691 : Int) := eq_z rfl (show (1048691 : Int32).toInt = (1048691 : Int) by decide) h35
                            refine lv_bipush (v := 39) hx hb dX4_kindOf_194 (by decide) ?_
                            refine lv_goto (tgt := 201) hx hb dX4_kindOf_196 (by decide) ?_
                            exact W.iret (v := 39) hx hb hr (fun t ht9 hW => ⟨⟨39, (), rfl, trivial, by rw [ht9]; exact hP, hD⟩, hS.F ht9⟩) hS.2.2 dX4_kindOf_201
                        · have z38 : pa.toInt = (115 : Int) := eq_z rfl (show (115 : Int32).toInt = (115 : Int) by decide) h33
                          refine lv_bipush (v := 38) hx hb dX4_kindOf_183 (by decide) ?_
                          refine lv_goto (tgt := 201) hx hb dX4_kindOf_185 (by decide) ?_
                          exact W.iret (v := 38) hx hb hr (fun t ht9 hW => ⟨⟨38, (), rfl, trivial, by rw [ht9]; exact hP, hD⟩, hS.F ht9⟩) hS.2.2 dX4_kindOf_201
                      ·
                        refine lv_lookup (off := 190) (tgt := 202) hx hb dX4_kindOf_12 (by decide) (by show Op.lookupswitch.offset [(3, 123), (15, 153), (19, 135), (23, 102), (35, 129), (51, 144), (55, 100), (99, 117), (103, 106), (111, 104), (115, 165)] 190 _ = 190; rw [lv_osw h1 (by decide), lv_osw h5 (by decide), lv_osw h9 (by decide), lv_osw h13 (by decide), lv_osw h14 (by decide), lv_osw h18 (by decide), lv_osw h22 (by decide), lv_osw h23 (by decide), lv_osw h27 (by decide), lv_osw h31 (by decide), lv_osw h32 (by decide)]; rfl) (by decide) ?_
                        refine lv_bipush (v := 40) hx hb dX4_kindOf_202 (by decide) ?_
                        exact W.iret (v := 40) hx hb hr (fun t ht9 hW => ⟨⟨40, (), rfl, trivial, by rw [ht9]; exact hP, hD⟩, hS.F ht9⟩) hS.2.2 dX4_kindOf_204
set_option maxHeartbeats 4000000 in
set_option maxRecDepth 100000 in
theorem c_x_X4_target (l : Launch) (dC : Nat → ClassId) (dI : Nat → Nat → Nat) (cI cB cZ cJ cR : ClassId) (tb : Nat → Nat) (sz : Nat) (pa : Int32)  : Met l yX4_target (Cond.code yX4_target cX4_target 1 (some .int) :: tw_W) ({ frames := 0, cells := 0, slots := 0, locals := 0 }) (pc_ (dC, dI) (tyS cI cB cZ cJ cR) tb [] sz [.int pa]) (qi_ (dC, dI) [] sz (fun (r : Int32) (u : Unit) => True) (fun (u : Unit) => [])) 0 0 (va_A [] sz) := by
  refine Met.ofW (cc := cX4_target) (maxL := 1) (ret := (some .int)) (by decide) rfl ?_
  intro p e s m args below meth c s₁ B hml hv
  obtain ⟨rfl, hsz, hP, hKK, hD0, hFx⟩ := hv
  have hK := hKK.1
  have hx := B.exec
  have hb := B.bytes
  have hr := B.returns
  have ht : ∀ w ∈ tw_W, w.before _ s = true := fun w h => atoms_spec (ws := Cond.code yX4_target cX4_target 1 (some .int) :: tw_W) B.pre w (List.mem_cons_of_mem _ h)
  have hown : s.vm.findClass RX4 = some m.cls := findClass_of_methodNamed B.named
  have hlocks := B.notSynchronized
  subst hsz
  unfold qi_
  have hD := hD0.self (sz := s.heap.size)
  generalize hAe : va_A [] s.heap.size = A at hD hFx ⊢
  have hA : ∀ q : Nat, s.heap.size ≤ q → A q := fun q h => by rw [← hAe]; exact Or.inr h
  have hS : va_S A s.heap s.heap [] := va_S.rf
  have hl := lv_entry ([.int pa]) (n := 1) (Nat.le_of_ble_eq_true rfl)
  rw [lg_entry_eq]
  generalize (lg_sl ([.int pa]) ++ List.replicate (1 - (lg_sl ([.int pa])).length) Slot.unset).toArray = ls at hl ⊢
  have hl : lv_has ls 1 [(0, .int pa)] := hl
  refine lv_iload_n hx hb dX4_target_0 rfl (lv_at hl 0 rfl) ?_
  refine lv_bipush (v := 7) hx hb dX4_target_1 (by decide) ?_
  refine lv_iushr hx hb dX4_target_3 rfl ?_
  refine lv_bipush (v := 31) hx hb dX4_target_4 (by decide) ?_
  refine lv_iand hx hb dX4_target_6 ?_
  exact W.iret (v := (((pa.toUInt32 >>> ((7 : Int32).toUInt32 &&& Int32.toUInt32 31)).toInt32) &&& (31 : Int32))) hx hb hr (fun t ht9 hW => ⟨⟨(((pa.toUInt32 >>> ((7 : Int32).toUInt32 &&& Int32.toUInt32 31)).toInt32) &&& (31 : Int32)), (), rfl, trivial, by rw [ht9]; exact hP, hD⟩, hS.F ht9⟩) hS.2.2 dX4_target_7
set_option maxHeartbeats 4000000 in
set_option maxRecDepth 100000 in
theorem c_x_X4_first (l : Launch) (dC : Nat → ClassId) (dI : Nat → Nat → Nat) (cI cB cZ cJ cR : ClassId) (tb : Nat → Nat) (sz : Nat) (pa : Int32)  : Met l yX4_first (Cond.code yX4_first cX4_first 1 (some .int) :: tw_W) ({ frames := 0, cells := 0, slots := 0, locals := 0 }) (pc_ (dC, dI) (tyS cI cB cZ cJ cR) tb [] sz [.int pa]) (qi_ (dC, dI) [] sz (fun (r : Int32) (u : Unit) => True) (fun (u : Unit) => [])) 0 0 (va_A [] sz) := by
  refine Met.ofW (cc := cX4_first) (maxL := 1) (ret := (some .int)) (by decide) rfl ?_
  intro p e s m args below meth c s₁ B hml hv
  obtain ⟨rfl, hsz, hP, hKK, hD0, hFx⟩ := hv
  have hK := hKK.1
  have hx := B.exec
  have hb := B.bytes
  have hr := B.returns
  have ht : ∀ w ∈ tw_W, w.before _ s = true := fun w h => atoms_spec (ws := Cond.code yX4_first cX4_first 1 (some .int) :: tw_W) B.pre w (List.mem_cons_of_mem _ h)
  have hown : s.vm.findClass RX4 = some m.cls := findClass_of_methodNamed B.named
  have hlocks := B.notSynchronized
  subst hsz
  unfold qi_
  have hD := hD0.self (sz := s.heap.size)
  generalize hAe : va_A [] s.heap.size = A at hD hFx ⊢
  have hA : ∀ q : Nat, s.heap.size ≤ q → A q := fun q h => by rw [← hAe]; exact Or.inr h
  have hS : va_S A s.heap s.heap [] := va_S.rf
  have hl := lv_entry ([.int pa]) (n := 1) (Nat.le_of_ble_eq_true rfl)
  rw [lg_entry_eq]
  generalize (lg_sl ([.int pa]) ++ List.replicate (1 - (lg_sl ([.int pa])).length) Slot.unset).toArray = ls at hl ⊢
  have hl : lv_has ls 1 [(0, .int pa)] := hl
  refine lv_iload_n hx hb dX4_first_0 rfl (lv_at hl 0 rfl) ?_
  refine lv_bipush (v := 15) hx hb dX4_first_1 (by decide) ?_
  refine lv_iushr hx hb dX4_first_3 rfl ?_
  refine lv_bipush (v := 31) hx hb dX4_first_4 (by decide) ?_
  refine lv_iand hx hb dX4_first_6 ?_
  exact W.iret (v := (((pa.toUInt32 >>> ((15 : Int32).toUInt32 &&& Int32.toUInt32 31)).toInt32) &&& (31 : Int32))) hx hb hr (fun t ht9 hW => ⟨⟨(((pa.toUInt32 >>> ((15 : Int32).toUInt32 &&& Int32.toUInt32 31)).toInt32) &&& (31 : Int32)), (), rfl, trivial, by rw [ht9]; exact hP, hD⟩, hS.F ht9⟩) hS.2.2 dX4_first_7
set_option maxHeartbeats 4000000 in
set_option maxRecDepth 100000 in
theorem c_x_X4_second (l : Launch) (dC : Nat → ClassId) (dI : Nat → Nat → Nat) (cI cB cZ cJ cR : ClassId) (tb : Nat → Nat) (sz : Nat) (pa : Int32)  : Met l yX4_second (Cond.code yX4_second cX4_second 1 (some .int) :: tw_W) ({ frames := 0, cells := 0, slots := 0, locals := 0 }) (pc_ (dC, dI) (tyS cI cB cZ cJ cR) tb [] sz [.int pa]) (qi_ (dC, dI) [] sz (fun (r : Int32) (u : Unit) => True) (fun (u : Unit) => [])) 0 0 (va_A [] sz) := by
  refine Met.ofW (cc := cX4_second) (maxL := 1) (ret := (some .int)) (by decide) rfl ?_
  intro p e s m args below meth c s₁ B hml hv
  obtain ⟨rfl, hsz, hP, hKK, hD0, hFx⟩ := hv
  have hK := hKK.1
  have hx := B.exec
  have hb := B.bytes
  have hr := B.returns
  have ht : ∀ w ∈ tw_W, w.before _ s = true := fun w h => atoms_spec (ws := Cond.code yX4_second cX4_second 1 (some .int) :: tw_W) B.pre w (List.mem_cons_of_mem _ h)
  have hown : s.vm.findClass RX4 = some m.cls := findClass_of_methodNamed B.named
  have hlocks := B.notSynchronized
  subst hsz
  unfold qi_
  have hD := hD0.self (sz := s.heap.size)
  generalize hAe : va_A [] s.heap.size = A at hD hFx ⊢
  have hA : ∀ q : Nat, s.heap.size ≤ q → A q := fun q h => by rw [← hAe]; exact Or.inr h
  have hS : va_S A s.heap s.heap [] := va_S.rf
  have hl := lv_entry ([.int pa]) (n := 1) (Nat.le_of_ble_eq_true rfl)
  rw [lg_entry_eq]
  generalize (lg_sl ([.int pa]) ++ List.replicate (1 - (lg_sl ([.int pa])).length) Slot.unset).toArray = ls at hl ⊢
  have hl : lv_has ls 1 [(0, .int pa)] := hl
  refine lv_iload_n hx hb dX4_second_0 rfl (lv_at hl 0 rfl) ?_
  refine lv_bipush (v := 20) hx hb dX4_second_1 (by decide) ?_
  refine lv_iushr hx hb dX4_second_3 rfl ?_
  refine lv_bipush (v := 31) hx hb dX4_second_4 (by decide) ?_
  refine lv_iand hx hb dX4_second_6 ?_
  exact W.iret (v := (((pa.toUInt32 >>> ((20 : Int32).toUInt32 &&& Int32.toUInt32 31)).toInt32) &&& (31 : Int32))) hx hb hr (fun t ht9 hW => ⟨⟨(((pa.toUInt32 >>> ((20 : Int32).toUInt32 &&& Int32.toUInt32 31)).toInt32) &&& (31 : Int32)), (), rfl, trivial, by rw [ht9]; exact hP, hD⟩, hS.F ht9⟩) hS.2.2 dX4_second_7
theorem om_bcfbde6318 {x0 : Int} (h0 : x0 < (4 : Int)) (h1 : (24 : Int) ≤ x0) : False := by omega
theorem om_93cca1e041 {x0 : Int} (h0 : x0 < (4 : Int)) (h1 : (15 : Int) ≤ x0) : False := by omega
theorem om_e78c7ac817 {x0 : Int} (h0 : x0 < (15 : Int)) (h1 : (24 : Int) ≤ x0) : False := by omega
set_option maxHeartbeats 4000000 in
set_option maxRecDepth 100000 in
theorem c_x_X4_number (l : Launch) (dC : Nat → ClassId) (dI : Nat → Nat → Nat) (cI cB cZ cJ cR : ClassId) (tb : Nat → Nat) (sz : Nat) (pa : Int32) (pb : Int32)  : Met l yX4_number (Cond.code yX4_number cX4_number 2 (some .int) :: tw_W) ({ frames := 1, cells := 0, slots := 0, locals := 20 }) (pc_ (dC, dI) (tyS cI cB cZ cJ cR) tb [] sz [.int pa, .int pb]) (qi_ (dC, dI) [] sz (fun (r : Int32) (u : Unit) => True) (fun (u : Unit) => [])) 0 0 (va_A [] sz) := by
  refine Met.ofW (cc := cX4_number) (maxL := 2) (ret := (some .int)) (by decide) rfl ?_
  intro p e s m args below meth c s₁ B hml hv
  obtain ⟨rfl, hsz, hP, hKK, hD0, hFx⟩ := hv
  have hK := hKK.1
  have hx := B.exec
  have hb := B.bytes
  have hr := B.returns
  have ht : ∀ w ∈ tw_W, w.before _ s = true := fun w h => atoms_spec (ws := Cond.code yX4_number cX4_number 2 (some .int) :: tw_W) B.pre w (List.mem_cons_of_mem _ h)
  have hown : s.vm.findClass RX4 = some m.cls := findClass_of_methodNamed B.named
  have hlocks := B.notSynchronized
  subst hsz
  unfold qi_
  have hD := hD0.self (sz := s.heap.size)
  generalize hAe : va_A [] s.heap.size = A at hD hFx ⊢
  have hA : ∀ q : Nat, s.heap.size ≤ q → A q := fun q h => by rw [← hAe]; exact Or.inr h
  have hS : va_S A s.heap s.heap [] := va_S.rf
  have hl := lv_entry ([.int pa, .int pb]) (n := 2) (Nat.le_of_ble_eq_true rfl)
  rw [lg_entry_eq]
  generalize (lg_sl ([.int pa, .int pb]) ++ List.replicate (2 - (lg_sl ([.int pa, .int pb])).length) Slot.unset).toArray = ls at hl ⊢
  have hl : lv_has ls 2 [(0, .int pa), (1, .int pb)] := hl
  refine lv_iload_n hx hb dX4_number_0 rfl (lv_at hl 1 rfl) ?_
  refine lv_if_eq (tgt := 9) hx hb dX4_number_1 (by decide) (fun h1 => ?_) (fun h1 => ?_)
  · have z2 : pb.toInt = (0 : Int) := eq_z rfl (show (0 : Int32).toInt = (0 : Int) by decide) h1
    refine lv_iload_n hx hb dX4_number_9 rfl (lv_at hl 0 rfl) ?_
    refine lv_sipush (v := -4096) hx hb dX4_number_10 (by decide) ?_
    refine lv_iand hx hb dX4_number_13 ?_
    exact W.iret (v := (pa &&& ((-4096) : Int32))) hx hb hr (fun t ht9 hW => ⟨⟨(pa &&& ((-4096) : Int32)), (), rfl, trivial, by rw [ht9]; exact hP, hD⟩, hS.F ht9⟩) hS.2.2 dX4_number_14
  · have z3 : pb.toInt ≠ (0 : Int) := ne_z rfl (show (0 : Int32).toInt = (0 : Int) by decide) h1
    refine lv_iload_n hx hb dX4_number_4 rfl (lv_at hl 1 rfl) ?_
    refine lv_iconst (v := 1) hx hb dX4_number_5 (by decide) ?_
    refine lv_icmp_ne (tgt := 15) hx hb dX4_number_6 (by decide) (fun h4 => ?_) (fun h4 => ?_)
    · have z5 : pb.toInt ≠ (1 : Int) := ne_z rfl (show (1 : Int32).toInt = (1 : Int) by decide) h4
      refine lv_iload_n hx hb dX4_number_15 rfl (lv_at hl 1 rfl) ?_
      refine lv_iconst (v := 2) hx hb dX4_number_16 (by decide) ?_
      refine lv_icmp_ne (tgt := 61) hx hb dX4_number_17 (by decide) (fun h6 => ?_) (fun h6 => ?_)
      · have z7 : pb.toInt ≠ (2 : Int) := ne_z rfl (show (2 : Int32).toInt = (2 : Int) by decide) h6
        refine lv_iload_n hx hb dX4_number_61 rfl (lv_at hl 1 rfl) ?_
        refine lv_iconst (v := 4) hx hb dX4_number_62 (by decide) ?_
        refine lv_icmp_lt (tgt := 110) hx hb dX4_number_63 (by decide) (fun h8 => ?_) (fun h8 => ?_)
        · have z9 : pb.toInt < (4 : Int) := lt_z rfl (show (4 : Int32).toInt = (4 : Int) by decide) h8
          refine lv_iload_n hx hb dX4_number_110 rfl (lv_at hl 1 rfl) ?_
          refine lv_bipush (v := 15) hx hb dX4_number_111 (by decide) ?_
          refine lv_icmp_lt (tgt := 137) hx hb dX4_number_113 (by decide) (fun h10 => ?_) (fun h10 => ?_)
          · have z11 : pb.toInt < (15 : Int) := lt_z rfl (show (15 : Int32).toInt = (15 : Int) by decide) h10
            refine lv_iload_n hx hb dX4_number_137 rfl (lv_at hl 1 rfl) ?_
            refine lv_bipush (v := 24) hx hb dX4_number_138 (by decide) ?_
            refine lv_icmp_lt (tgt := 156) hx hb dX4_number_140 (by decide) (fun h12 => ?_) (fun h12 => ?_)
            · have z13 : pb.toInt < (24 : Int) := lt_z rfl (show (24 : Int32).toInt = (24 : Int) by decide) h12
              refine lv_iload_n hx hb dX4_number_156 rfl (lv_at hl 0 rfl) ?_
              refine lv_bipush (v := 20) hx hb dX4_number_157 (by decide) ?_
              refine lv_ishr hx hb dX4_number_159 ?_
              exact W.iret (v := (pa >>> ((20 : Int32) &&& 31))) hx hb hr (fun t ht9 hW => ⟨⟨(pa >>> ((20 : Int32) &&& 31)), (), rfl, trivial, by rw [ht9]; exact hP, hD⟩, hS.F ht9⟩) hS.2.2 dX4_number_160
            · have z14 : (24 : Int) ≤ pb.toInt := nlt_z rfl (show (24 : Int32).toInt = (24 : Int) by decide) h12
              exact False.elim (om_bcfbde6318 z9 z14)
          · have z15 : (15 : Int) ≤ pb.toInt := nlt_z rfl (show (15 : Int32).toInt = (15 : Int) by decide) h10
            exact False.elim (om_93cca1e041 z9 z15)
        · have z16 : (4 : Int) ≤ pb.toInt := nlt_z rfl (show (4 : Int32).toInt = (4 : Int) by decide) h8
          refine lv_iload_n hx hb dX4_number_66 rfl (lv_at hl 1 rfl) ?_
          refine lv_bipush (v := 9) hx hb dX4_number_67 (by decide) ?_
          refine lv_icmp_gt (tgt := 110) hx hb dX4_number_69 (by decide) (fun h17 => ?_) (fun h17 => ?_)
          · have z18 : (9 : Int) < pb.toInt := lt_z (show (9 : Int32).toInt = (9 : Int) by decide) rfl h17
            refine lv_iload_n hx hb dX4_number_110 rfl (lv_at hl 1 rfl) ?_
            refine lv_bipush (v := 15) hx hb dX4_number_111 (by decide) ?_
            refine lv_icmp_lt (tgt := 137) hx hb dX4_number_113 (by decide) (fun h19 => ?_) (fun h19 => ?_)
            · have z20 : pb.toInt < (15 : Int) := lt_z rfl (show (15 : Int32).toInt = (15 : Int) by decide) h19
              refine lv_iload_n hx hb dX4_number_137 rfl (lv_at hl 1 rfl) ?_
              refine lv_bipush (v := 24) hx hb dX4_number_138 (by decide) ?_
              refine lv_icmp_lt (tgt := 156) hx hb dX4_number_140 (by decide) (fun h21 => ?_) (fun h21 => ?_)
              · have z22 : pb.toInt < (24 : Int) := lt_z rfl (show (24 : Int32).toInt = (24 : Int) by decide) h21
                refine lv_iload_n hx hb dX4_number_156 rfl (lv_at hl 0 rfl) ?_
                refine lv_bipush (v := 20) hx hb dX4_number_157 (by decide) ?_
                refine lv_ishr hx hb dX4_number_159 ?_
                exact W.iret (v := (pa >>> ((20 : Int32) &&& 31))) hx hb hr (fun t ht9 hW => ⟨⟨(pa >>> ((20 : Int32) &&& 31)), (), rfl, trivial, by rw [ht9]; exact hP, hD⟩, hS.F ht9⟩) hS.2.2 dX4_number_160
              · have z23 : (24 : Int) ≤ pb.toInt := nlt_z rfl (show (24 : Int32).toInt = (24 : Int) by decide) h21
                exact False.elim (om_e78c7ac817 z20 z23)
            · have z24 : (15 : Int) ≤ pb.toInt := nlt_z rfl (show (15 : Int32).toInt = (15 : Int) by decide) h19
              refine lv_iload_n hx hb dX4_number_116 rfl (lv_at hl 1 rfl) ?_
              refine lv_bipush (v := 17) hx hb dX4_number_117 (by decide) ?_
              refine lv_icmp_gt (tgt := 137) hx hb dX4_number_119 (by decide) (fun h25 => ?_) (fun h25 => ?_)
              · have z26 : (17 : Int) < pb.toInt := lt_z (show (17 : Int32).toInt = (17 : Int) by decide) rfl h25
                refine lv_iload_n hx hb dX4_number_137 rfl (lv_at hl 1 rfl) ?_
                refine lv_bipush (v := 24) hx hb dX4_number_138 (by decide) ?_
                refine lv_icmp_lt (tgt := 156) hx hb dX4_number_140 (by decide) (fun h27 => ?_) (fun h27 => ?_)
                · have z28 : pb.toInt < (24 : Int) := lt_z rfl (show (24 : Int32).toInt = (24 : Int) by decide) h27
                  refine lv_iload_n hx hb dX4_number_156 rfl (lv_at hl 0 rfl) ?_
                  refine lv_bipush (v := 20) hx hb dX4_number_157 (by decide) ?_
                  refine lv_ishr hx hb dX4_number_159 ?_
                  exact W.iret (v := (pa >>> ((20 : Int32) &&& 31))) hx hb hr (fun t ht9 hW => ⟨⟨(pa >>> ((20 : Int32) &&& 31)), (), rfl, trivial, by rw [ht9]; exact hP, hD⟩, hS.F ht9⟩) hS.2.2 dX4_number_160
                · have z29 : (24 : Int) ≤ pb.toInt := nlt_z rfl (show (24 : Int32).toInt = (24 : Int) by decide) h27
                  refine lv_iload_n hx hb dX4_number_143 rfl (lv_at hl 1 rfl) ?_
                  refine lv_bipush (v := 26) hx hb dX4_number_144 (by decide) ?_
                  refine lv_icmp_gt (tgt := 156) hx hb dX4_number_146 (by decide) (fun h30 => ?_) (fun h30 => ?_)
                  · have z31 : (26 : Int) < pb.toInt := lt_z (show (26 : Int32).toInt = (26 : Int) by decide) rfl h30
                    refine lv_iload_n hx hb dX4_number_156 rfl (lv_at hl 0 rfl) ?_
                    refine lv_bipush (v := 20) hx hb dX4_number_157 (by decide) ?_
                    refine lv_ishr hx hb dX4_number_159 ?_
                    exact W.iret (v := (pa >>> ((20 : Int32) &&& 31))) hx hb hr (fun t ht9 hW => ⟨⟨(pa >>> ((20 : Int32) &&& 31)), (), rfl, trivial, by rw [ht9]; exact hP, hD⟩, hS.F ht9⟩) hS.2.2 dX4_number_160
                  · have z32 : pb.toInt ≤ (26 : Int) := nlt_z (show (26 : Int32).toInt = (26 : Int) by decide) rfl h30
                    refine lv_iload_n hx hb dX4_number_149 rfl (lv_at hl 0 rfl) ?_
                    refine cu_i (rn_S (n := 1) (As := [.int pa]) (rest := []) hx hb hml hown ht hKK hFx hP hD hS hA (c_x_X4_second l dC dI cI cB cZ cJ cR tb s.heap.size pa ) tw_769 tw_770 (by decide +kernel) rfl rfl ⟨Nat.le_of_ble_eq_true rfl, Nat.le_of_ble_eq_true rfl⟩ [] rfl rfl rfl hl.1 rfl (Nat.le_of_ble_eq_true rfl) dX4_number_150 ⟨Nat.le_of_ble_eq_true rfl, Nat.le_of_ble_eq_true rfl⟩) hP hD hS hA (fun r35 _ H locs hw33 hP hD hS => ?_)
                    refine W.widen (k := 0) (n := 0) (Nat.le_refl _) (Nat.le_refl _) ?_
                    refine lv_goto (tgt := 160) hx hb dX4_number_153 (by decide) ?_
                    exact W.iret (v := r35) hx hb hr (fun t ht9 hW => ⟨⟨r35, (), rfl, trivial, by rw [ht9]; exact hP, hD⟩, hS.F ht9⟩) hS.2.2 dX4_number_160
              · have z36 : pb.toInt ≤ (17 : Int) := nlt_z (show (17 : Int32).toInt = (17 : Int) by decide) rfl h25
                refine lv_iload_n hx hb dX4_number_122 rfl (lv_at hl 0 rfl) ?_
                refine lv_bipush (v := 25) hx hb dX4_number_123 (by decide) ?_
                refine lv_ishr hx hb dX4_number_125 ?_
                refine lv_iconst (v := 5) hx hb dX4_number_126 (by decide) ?_
                refine lv_ishl hx hb dX4_number_127 ?_
                refine lv_iload_n hx hb dX4_number_128 rfl (lv_at hl 0 rfl) ?_
                refine lv_bipush (v := 7) hx hb dX4_number_129 (by decide) ?_
                refine lv_iushr hx hb dX4_number_131 rfl ?_
                refine lv_bipush (v := 31) hx hb dX4_number_132 (by decide) ?_
                refine lv_iand hx hb dX4_number_134 ?_
                refine lv_ior hx hb dX4_number_135 ?_
                exact W.iret (v := (((pa >>> ((25 : Int32) &&& 31)) <<< ((5 : Int32) &&& 31)) ||| (((pa.toUInt32 >>> ((7 : Int32).toUInt32 &&& Int32.toUInt32 31)).toInt32) &&& (31 : Int32)))) hx hb hr (fun t ht9 hW => ⟨⟨(((pa >>> ((25 : Int32) &&& 31)) <<< ((5 : Int32) &&& 31)) ||| (((pa.toUInt32 >>> ((7 : Int32).toUInt32 &&& Int32.toUInt32 31)).toInt32) &&& (31 : Int32))), (), rfl, trivial, by rw [ht9]; exact hP, hD⟩, hS.F ht9⟩) hS.2.2 dX4_number_136
          · have z37 : pb.toInt ≤ (9 : Int) := nlt_z (show (9 : Int32).toInt = (9 : Int) by decide) rfl h17
            refine lv_iload_n hx hb dX4_number_72 rfl (lv_at hl 0 rfl) ?_
            refine lv_bipush (v := 31) hx hb dX4_number_73 (by decide) ?_
            refine lv_ishr hx hb dX4_number_75 ?_
            refine lv_bipush (v := 12) hx hb dX4_number_76 (by decide) ?_
            refine lv_ishl hx hb dX4_number_78 ?_
            refine lv_iload_n hx hb dX4_number_79 rfl (lv_at hl 0 rfl) ?_
            refine lv_bipush (v := 7) hx hb dX4_number_80 (by decide) ?_
            refine lv_iushr hx hb dX4_number_82 rfl ?_
            refine lv_iconst (v := 1) hx hb dX4_number_83 (by decide) ?_
            refine lv_iand hx hb dX4_number_84 ?_
            refine lv_bipush (v := 11) hx hb dX4_number_85 (by decide) ?_
            refine lv_ishl hx hb dX4_number_87 ?_
            refine lv_ior hx hb dX4_number_88 ?_
            refine lv_iload_n hx hb dX4_number_89 rfl (lv_at hl 0 rfl) ?_
            refine lv_bipush (v := 25) hx hb dX4_number_90 (by decide) ?_
            refine lv_iushr hx hb dX4_number_92 rfl ?_
            refine lv_bipush (v := 63) hx hb dX4_number_93 (by decide) ?_
            refine lv_iand hx hb dX4_number_95 ?_
            refine lv_iconst (v := 5) hx hb dX4_number_96 (by decide) ?_
            refine lv_ishl hx hb dX4_number_97 ?_
            refine lv_ior hx hb dX4_number_98 ?_
            refine lv_iload_n hx hb dX4_number_99 rfl (lv_at hl 0 rfl) ?_
            refine lv_bipush (v := 8) hx hb dX4_number_100 (by decide) ?_
            refine lv_iushr hx hb dX4_number_102 rfl ?_
            refine lv_bipush (v := 15) hx hb dX4_number_103 (by decide) ?_
            refine lv_iand hx hb dX4_number_105 ?_
            refine lv_iconst (v := 1) hx hb dX4_number_106 (by decide) ?_
            refine lv_ishl hx hb dX4_number_107 ?_
            refine lv_ior hx hb dX4_number_108 ?_
            exact W.iret (v := (((((pa >>> ((31 : Int32) &&& 31)) <<< ((12 : Int32) &&& 31)) ||| ((((pa.toUInt32 >>> ((7 : Int32).toUInt32 &&& Int32.toUInt32 31)).toInt32) &&& (1 : Int32)) <<< ((11 : Int32) &&& 31))) ||| ((((pa.toUInt32 >>> ((25 : Int32).toUInt32 &&& Int32.toUInt32 31)).toInt32) &&& (63 : Int32)) <<< ((5 : Int32) &&& 31))) ||| ((((pa.toUInt32 >>> ((8 : Int32).toUInt32 &&& Int32.toUInt32 31)).toInt32) &&& (15 : Int32)) <<< ((1 : Int32) &&& 31)))) hx hb hr (fun t ht9 hW => ⟨⟨(((((pa >>> ((31 : Int32) &&& 31)) <<< ((12 : Int32) &&& 31)) ||| ((((pa.toUInt32 >>> ((7 : Int32).toUInt32 &&& Int32.toUInt32 31)).toInt32) &&& (1 : Int32)) <<< ((11 : Int32) &&& 31))) ||| ((((pa.toUInt32 >>> ((25 : Int32).toUInt32 &&& Int32.toUInt32 31)).toInt32) &&& (63 : Int32)) <<< ((5 : Int32) &&& 31))) ||| ((((pa.toUInt32 >>> ((8 : Int32).toUInt32 &&& Int32.toUInt32 31)).toInt32) &&& (15 : Int32)) <<< ((1 : Int32) &&& 31))), (), rfl, trivial, by rw [ht9]; exact hP, hD⟩, hS.F ht9⟩) hS.2.2 dX4_number_109
      · have z38 : pb.toInt = (2 : Int) := eq_z rfl (show (2 : Int32).toInt = (2 : Int) by decide) h6
        refine lv_iload_n hx hb dX4_number_20 rfl (lv_at hl 0 rfl) ?_
        refine lv_bipush (v := 31) hx hb dX4_number_21 (by decide) ?_
        refine lv_ishr hx hb dX4_number_23 ?_
        refine lv_bipush (v := 20) hx hb dX4_number_24 (by decide) ?_
        refine lv_ishl hx hb dX4_number_26 ?_
        refine lv_iload_n hx hb dX4_number_27 rfl (lv_at hl 0 rfl) ?_
        refine lv_bipush (v := 12) hx hb dX4_number_28 (by decide) ?_
        refine lv_iushr hx hb dX4_number_30 rfl ?_
        refine lv_sipush (v := 255) hx hb dX4_number_31 (by decide) ?_
        refine lv_iand hx hb dX4_number_34 ?_
        refine lv_bipush (v := 12) hx hb dX4_number_35 (by decide) ?_
        refine lv_ishl hx hb dX4_number_37 ?_
        refine lv_ior hx hb dX4_number_38 ?_
        refine lv_iload_n hx hb dX4_number_39 rfl (lv_at hl 0 rfl) ?_
        refine lv_bipush (v := 20) hx hb dX4_number_40 (by decide) ?_
        refine lv_iushr hx hb dX4_number_42 rfl ?_
        refine lv_iconst (v := 1) hx hb dX4_number_43 (by decide) ?_
        refine lv_iand hx hb dX4_number_44 ?_
        refine lv_bipush (v := 11) hx hb dX4_number_45 (by decide) ?_
        refine lv_ishl hx hb dX4_number_47 ?_
        refine lv_ior hx hb dX4_number_48 ?_
        refine lv_iload_n hx hb dX4_number_49 rfl (lv_at hl 0 rfl) ?_
        refine lv_bipush (v := 21) hx hb dX4_number_50 (by decide) ?_
        refine lv_iushr hx hb dX4_number_52 rfl ?_
        refine lv_sipush (v := 1023) hx hb dX4_number_53 (by decide) ?_
        refine lv_iand hx hb dX4_number_56 ?_
        refine lv_iconst (v := 1) hx hb dX4_number_57 (by decide) ?_
        refine lv_ishl hx hb dX4_number_58 ?_
        refine lv_ior hx hb dX4_number_59 ?_
        exact W.iret (v := (((((pa >>> ((31 : Int32) &&& 31)) <<< ((20 : Int32) &&& 31)) ||| ((((pa.toUInt32 >>> ((12 : Int32).toUInt32 &&& Int32.toUInt32 31)).toInt32) &&& (255 : Int32)) <<< ((12 : Int32) &&& 31))) ||| ((((pa.toUInt32 >>> ((20 : Int32).toUInt32 &&& Int32.toUInt32 31)).toInt32) &&& (1 : Int32)) <<< ((11 : Int32) &&& 31))) ||| ((((pa.toUInt32 >>> ((21 : Int32).toUInt32 &&& Int32.toUInt32 31)).toInt32) &&& (1023 : Int32)) <<< ((1 : Int32) &&& 31)))) hx hb hr (fun t ht9 hW => ⟨⟨(((((pa >>> ((31 : Int32) &&& 31)) <<< ((20 : Int32) &&& 31)) ||| ((((pa.toUInt32 >>> ((12 : Int32).toUInt32 &&& Int32.toUInt32 31)).toInt32) &&& (255 : Int32)) <<< ((12 : Int32) &&& 31))) ||| ((((pa.toUInt32 >>> ((20 : Int32).toUInt32 &&& Int32.toUInt32 31)).toInt32) &&& (1 : Int32)) <<< ((11 : Int32) &&& 31))) ||| ((((pa.toUInt32 >>> ((21 : Int32).toUInt32 &&& Int32.toUInt32 31)).toInt32) &&& (1023 : Int32)) <<< ((1 : Int32) &&& 31))), (), rfl, trivial, by rw [ht9]; exact hP, hD⟩, hS.F ht9⟩) hS.2.2 dX4_number_60
    · have z39 : pb.toInt = (1 : Int) := eq_z rfl (show (1 : Int32).toInt = (1 : Int) by decide) h4
      refine lv_iload_n hx hb dX4_number_9 rfl (lv_at hl 0 rfl) ?_
      refine lv_sipush (v := -4096) hx hb dX4_number_10 (by decide) ?_
      refine lv_iand hx hb dX4_number_13 ?_
      exact W.iret (v := (pa &&& ((-4096) : Int32))) hx hb hr (fun t ht9 hW => ⟨⟨(pa &&& ((-4096) : Int32)), (), rfl, trivial, by rw [ht9]; exact hP, hD⟩, hS.F ht9⟩) hS.2.2 dX4_number_14
