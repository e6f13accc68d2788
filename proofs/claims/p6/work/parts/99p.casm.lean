theorem dX0_high_0 : decode cX0_high 0 = .ok (.iload_n 0, 1) := by decide +kernel
theorem dX0_high_1 : decode cX0_high 1 = .ok (.sipush 2048, 3) := by decide +kernel
theorem dX0_high_4 : decode cX0_high 4 = .ok (.iadd, 1) := by decide +kernel
theorem dX0_high_5 : decode cX0_high 5 = .ok (.bipush 12, 2) := by decide +kernel
theorem dX0_high_7 : decode cX0_high 7 = .ok (.iushr, 1) := by decide +kernel
theorem dX0_high_8 : decode cX0_high 8 = .ok (.ireturn, 1) := by decide +kernel
theorem dX0_low_0 : decode cX0_low 0 = .ok (.iload_n 0, 1) := by decide +kernel
theorem dX0_low_1 : decode cX0_low 1 = .ok (.iload_n 0, 1) := by decide +kernel
theorem dX0_low_2 : decode cX0_low 2 = .ok (.invokestatic 98, 3) := by decide +kernel
theorem tw_670 : (.code yX0_high cX0_high 1 (some .int) : Cond) ∈ tw_W := tw_in (t8_5 (List.mem_of_getElem? (i := 54) rfl)) rfl
theorem tw_671 : ∀ w ∈ ([.methodLink RX0 98 yX0_high, .static yX0_high, .initialized yX0_high.cls] : List Cond), w ∈ tw_W := al_c (tw_in (t8_5 (List.mem_of_getElem? (i := 52) rfl)) rfl) (al_c (tw_in (t8_5 (List.mem_of_getElem? (i := 53) rfl)) rfl) (al_c (tw_in (t8_1 (List.mem_of_getElem? (i := 13) rfl)) rfl) al_n))
theorem dX0_low_5 : decode cX0_low 5 = .ok (.bipush 12, 2) := by decide +kernel
theorem dX0_low_7 : decode cX0_low 7 = .ok (.ishl, 1) := by decide +kernel
theorem dX0_low_8 : decode cX0_low 8 = .ok (.isub, 1) := by decide +kernel
theorem dX0_low_9 : decode cX0_low 9 = .ok (.ireturn, 1) := by decide +kernel
theorem dX0_fromFrame_0 : decode cX0_fromFrame 0 = .ok (.bipush (-12), 2) := by decide +kernel
theorem dX0_fromFrame_2 : decode cX0_fromFrame 2 = .ok (.iconst 4, 1) := by decide +kernel
theorem dX0_fromFrame_3 : decode cX0_fromFrame 3 = .ok (.iload_n 0, 1) := by decide +kernel
theorem dX0_fromFrame_4 : decode cX0_fromFrame 4 = .ok (.imul, 1) := by decide +kernel
theorem dX0_fromFrame_5 : decode cX0_fromFrame 5 = .ok (.isub, 1) := by decide +kernel
theorem dX0_fromFrame_6 : decode cX0_fromFrame 6 = .ok (.ireturn, 1) := by decide +kernel
theorem dX0_emit_0 : decode cX0_emit 0 = .ok (.aload_n 0, 1) := by decide +kernel
theorem dX0_emit_1 : decode cX0_emit 1 = .ok (.getfield 23, 3) := by decide +kernel
theorem tw_672 : (.fieldLink RX0 23 "PocketCompiler$Assembler" "isWriting" "Z" : Cond) ∈ tw_W := tw_in (t8_2 (List.mem_of_getElem? (i := 87) rfl)) rfl
theorem itX0 : ∀ w ∈ wsX00, w ∈ tw_W := tw_all (by decide +kernel)
theorem dX0_emit_4 : decode cX0_emit 4 = .ok (.ifCond .eq 31, 3) := by decide +kernel
theorem dX0_emit_35 : decode cX0_emit 35 = .ok (.aload_n 0, 1) := by decide +kernel
theorem dX0_emit_36 : decode cX0_emit 36 = .ok (.dup, 1) := by decide +kernel
theorem dX0_emit_37 : decode cX0_emit 37 = .ok (.getfield 33, 3) := by decide +kernel
theorem tw_673 : (.fieldLink RX0 33 "PocketCompiler$Assembler" "size" "I" : Cond) ∈ tw_W := tw_in (t8_2 (List.mem_of_getElem? (i := 86) rfl)) rfl
theorem dX0_emit_40 : decode cX0_emit 40 = .ok (.iconst 1, 1) := by decide +kernel
theorem dX0_emit_41 : decode cX0_emit 41 = .ok (.iadd, 1) := by decide +kernel
theorem dX0_emit_42 : decode cX0_emit 42 = .ok (.putfield 33, 3) := by decide +kernel
theorem dX0_emit_45 : decode cX0_emit 45 = .ok (.return_, 1) := by decide +kernel
theorem dX0_emit_7 : decode cX0_emit 7 = .ok (.aload_n 0, 1) := by decide +kernel
theorem dX0_emit_8 : decode cX0_emit 8 = .ok (.getfield 33, 3) := by decide +kernel
theorem dX0_emit_11 : decode cX0_emit 11 = .ok (.aload_n 0, 1) := by decide +kernel
theorem dX0_emit_12 : decode cX0_emit 12 = .ok (.getfield 15, 3) := by decide +kernel
theorem tw_674 : (.fieldLink RX0 15 "PocketCompiler$Assembler" "program" "LPocketCompiler$Program;" : Cond) ∈ tw_W := tw_in (t8_2 (List.mem_of_getElem? (i := 83) rfl)) rfl
theorem dX0_emit_15 : decode cX0_emit 15 = .ok (.getfield 95, 3) := by decide +kernel
theorem tw_675 : (.fieldLink RX0 95 "PocketCompiler$Program" "words" "[I" : Cond) ∈ tw_W := tw_in (t8_1 (List.mem_of_getElem? (i := 143) rfl)) rfl
theorem dX0_emit_18 : decode cX0_emit 18 = .ok (.arraylength, 1) := by decide +kernel
theorem dX0_emit_19 : decode cX0_emit 19 = .ok (.if_icmp .ge 16, 3) := by decide +kernel
theorem dX0_emit_22 : decode cX0_emit 22 = .ok (.aload_n 0, 1) := by decide +kernel
theorem dX0_emit_23 : decode cX0_emit 23 = .ok (.getfield 15, 3) := by decide +kernel
theorem dX0_emit_26 : decode cX0_emit 26 = .ok (.getfield 95, 3) := by decide +kernel
theorem dX0_emit_29 : decode cX0_emit 29 = .ok (.aload_n 0, 1) := by decide +kernel
theorem dX0_emit_30 : decode cX0_emit 30 = .ok (.getfield 33, 3) := by decide +kernel
theorem dX0_emit_33 : decode cX0_emit 33 = .ok (.iload_n 1, 1) := by decide +kernel
theorem dX0_emit_34 : decode cX0_emit 34 = .ok (.iastore, 1) := by decide +kernel
theorem dX0_immediate_0 : decode cX0_immediate 0 = .ok (.aload_n 0, 1) := by decide +kernel
theorem dX0_immediate_1 : decode cX0_immediate 1 = .ok (.iload_n 1, 1) := by decide +kernel
theorem dX0_immediate_2 : decode cX0_immediate 2 = .ok (.iload_n 2, 1) := by decide +kernel
theorem dX0_immediate_3 : decode cX0_immediate 3 = .ok (.bipush 7, 2) := by decide +kernel
theorem dX0_immediate_5 : decode cX0_immediate 5 = .ok (.ishl, 1) := by decide +kernel
theorem dX0_immediate_6 : decode cX0_immediate 6 = .ok (.ior, 1) := by decide +kernel
theorem dX0_immediate_7 : decode cX0_immediate 7 = .ok (.iload_n 3, 1) := by decide +kernel
theorem dX0_immediate_8 : decode cX0_immediate 8 = .ok (.bipush 15, 2) := by decide +kernel
theorem dX0_immediate_10 : decode cX0_immediate 10 = .ok (.ishl, 1) := by decide +kernel
theorem dX0_immediate_11 : decode cX0_immediate 11 = .ok (.ior, 1) := by decide +kernel
theorem dX0_immediate_12 : decode cX0_immediate 12 = .ok (.iload 4, 2) := by decide +kernel
theorem dX0_immediate_14 : decode cX0_immediate 14 = .ok (.bipush 20, 2) := by decide +kernel
theorem dX0_immediate_16 : decode cX0_immediate 16 = .ok (.ishl, 1) := by decide +kernel
theorem dX0_immediate_17 : decode cX0_immediate 17 = .ok (.ior, 1) := by decide +kernel
theorem dX0_immediate_18 : decode cX0_immediate 18 = .ok (.invokevirtual 47, 3) := by decide +kernel
theorem tw_676 : (.code yX0_emit cX0_emit 2 none : Cond) ∈ tw_W := tw_in (t8_5 (List.mem_of_getElem? (i := 36) rfl)) rfl
theorem tw_677 : ∀ w ∈ ([.methodLink RX0 47 yX0_emit, .instanceMethod yX0_emit, .selects RX0 yX0_emit yX0_emit, .initialized RX0] : List Cond), w ∈ tw_W := al_c (tw_in (t8_5 (List.mem_of_getElem? (i := 33) rfl)) rfl) (al_c (tw_in (t8_5 (List.mem_of_getElem? (i := 35) rfl)) rfl) (al_c (tw_in (t7_4 (q := (yX0_emit, 9)) (List.mem_of_getElem? (i := 2) rfl)) rfl) (al_c (tw_in (t8_1 (List.mem_of_getElem? (i := 13) rfl)) rfl) al_n)))
theorem dX0_immediate_21 : decode cX0_immediate 21 = .ok (.return_, 1) := by decide +kernel
theorem dX0_three_0 : decode cX0_three 0 = .ok (.aload_n 0, 1) := by decide +kernel
theorem dX0_three_1 : decode cX0_three 1 = .ok (.iload_n 1, 1) := by decide +kernel
theorem dX0_three_2 : decode cX0_three 2 = .ok (.iload_n 2, 1) := by decide +kernel
theorem dX0_three_3 : decode cX0_three 3 = .ok (.bipush 7, 2) := by decide +kernel
theorem dX0_three_5 : decode cX0_three 5 = .ok (.ishl, 1) := by decide +kernel
theorem dX0_three_6 : decode cX0_three 6 = .ok (.ior, 1) := by decide +kernel
theorem dX0_three_7 : decode cX0_three 7 = .ok (.iload_n 3, 1) := by decide +kernel
theorem dX0_three_8 : decode cX0_three 8 = .ok (.bipush 15, 2) := by decide +kernel
theorem dX0_three_10 : decode cX0_three 10 = .ok (.ishl, 1) := by decide +kernel
theorem dX0_three_11 : decode cX0_three 11 = .ok (.ior, 1) := by decide +kernel
theorem dX0_three_12 : decode cX0_three 12 = .ok (.iload 4, 2) := by decide +kernel
theorem dX0_three_14 : decode cX0_three 14 = .ok (.bipush 20, 2) := by decide +kernel
theorem dX0_three_16 : decode cX0_three 16 = .ok (.ishl, 1) := by decide +kernel
theorem dX0_three_17 : decode cX0_three 17 = .ok (.ior, 1) := by decide +kernel
theorem dX0_three_18 : decode cX0_three 18 = .ok (.invokevirtual 47, 3) := by decide +kernel
theorem dX0_three_21 : decode cX0_three 21 = .ok (.return_, 1) := by decide +kernel
theorem dX0_storeWord_0 : decode cX0_storeWord 0 = .ok (.aload_n 0, 1) := by decide +kernel
theorem dX0_storeWord_1 : decode cX0_storeWord 1 = .ok (.sipush 8227, 3) := by decide +kernel
theorem dX0_storeWord_4 : decode cX0_storeWord 4 = .ok (.iload_n 2, 1) := by decide +kernel
theorem dX0_storeWord_5 : decode cX0_storeWord 5 = .ok (.bipush 31, 2) := by decide +kernel
theorem dX0_storeWord_7 : decode cX0_storeWord 7 = .ok (.iand, 1) := by decide +kernel
theorem dX0_storeWord_8 : decode cX0_storeWord 8 = .ok (.bipush 7, 2) := by decide +kernel
theorem dX0_storeWord_10 : decode cX0_storeWord 10 = .ok (.ishl, 1) := by decide +kernel
theorem dX0_storeWord_11 : decode cX0_storeWord 11 = .ok (.ior, 1) := by decide +kernel
theorem dX0_storeWord_12 : decode cX0_storeWord 12 = .ok (.iload_n 3, 1) := by decide +kernel
theorem dX0_storeWord_13 : decode cX0_storeWord 13 = .ok (.bipush 15, 2) := by decide +kernel
theorem dX0_storeWord_15 : decode cX0_storeWord 15 = .ok (.ishl, 1) := by decide +kernel
theorem dX0_storeWord_16 : decode cX0_storeWord 16 = .ok (.ior, 1) := by decide +kernel
theorem dX0_storeWord_17 : decode cX0_storeWord 17 = .ok (.iload_n 1, 1) := by decide +kernel
theorem dX0_storeWord_18 : decode cX0_storeWord 18 = .ok (.bipush 20, 2) := by decide +kernel
theorem dX0_storeWord_20 : decode cX0_storeWord 20 = .ok (.ishl, 1) := by decide +kernel
theorem dX0_storeWord_21 : decode cX0_storeWord 21 = .ok (.ior, 1) := by decide +kernel
theorem dX0_storeWord_22 : decode cX0_storeWord 22 = .ok (.iload_n 2, 1) := by decide +kernel
theorem dX0_storeWord_23 : decode cX0_storeWord 23 = .ok (.iconst 5, 1) := by decide +kernel
theorem dX0_storeWord_24 : decode cX0_storeWord 24 = .ok (.ishr, 1) := by decide +kernel
theorem dX0_storeWord_25 : decode cX0_storeWord 25 = .ok (.bipush 25, 2) := by decide +kernel
theorem dX0_storeWord_27 : decode cX0_storeWord 27 = .ok (.ishl, 1) := by decide +kernel
theorem dX0_storeWord_28 : decode cX0_storeWord 28 = .ok (.ior, 1) := by decide +kernel
theorem dX0_storeWord_29 : decode cX0_storeWord 29 = .ok (.invokevirtual 47, 3) := by decide +kernel
theorem dX0_storeWord_32 : decode cX0_storeWord 32 = .ok (.return_, 1) := by decide +kernel
theorem dX0_branch_0 : decode cX0_branch 0 = .ok (.aload_n 0, 1) := by decide +kernel
theorem dX0_branch_1 : decode cX0_branch 1 = .ok (.iload_n 1, 1) := by decide +kernel
theorem dX0_branch_2 : decode cX0_branch 2 = .ok (.iload 4, 2) := by decide +kernel
theorem dX0_branch_4 : decode cX0_branch 4 = .ok (.bipush 11, 2) := by decide +kernel
theorem dX0_branch_6 : decode cX0_branch 6 = .ok (.ishr, 1) := by decide +kernel
theorem dX0_branch_7 : decode cX0_branch 7 = .ok (.iconst 1, 1) := by decide +kernel
theorem dX0_branch_8 : decode cX0_branch 8 = .ok (.iand, 1) := by decide +kernel
theorem dX0_branch_9 : decode cX0_branch 9 = .ok (.bipush 7, 2) := by decide +kernel
theorem dX0_branch_11 : decode cX0_branch 11 = .ok (.ishl, 1) := by decide +kernel
theorem dX0_branch_12 : decode cX0_branch 12 = .ok (.ior, 1) := by decide +kernel
theorem dX0_branch_13 : decode cX0_branch 13 = .ok (.iload 4, 2) := by decide +kernel
theorem dX0_branch_15 : decode cX0_branch 15 = .ok (.iconst 1, 1) := by decide +kernel
theorem dX0_branch_16 : decode cX0_branch 16 = .ok (.ishr, 1) := by decide +kernel
theorem dX0_branch_17 : decode cX0_branch 17 = .ok (.bipush 15, 2) := by decide +kernel
theorem dX0_branch_19 : decode cX0_branch 19 = .ok (.iand, 1) := by decide +kernel
theorem dX0_branch_20 : decode cX0_branch 20 = .ok (.bipush 8, 2) := by decide +kernel
theorem dX0_branch_22 : decode cX0_branch 22 = .ok (.ishl, 1) := by decide +kernel
theorem dX0_branch_23 : decode cX0_branch 23 = .ok (.ior, 1) := by decide +kernel
theorem dX0_branch_24 : decode cX0_branch 24 = .ok (.iload_n 2, 1) := by decide +kernel
theorem dX0_branch_25 : decode cX0_branch 25 = .ok (.bipush 15, 2) := by decide +kernel
theorem dX0_branch_27 : decode cX0_branch 27 = .ok (.ishl, 1) := by decide +kernel
theorem dX0_branch_28 : decode cX0_branch 28 = .ok (.ior, 1) := by decide +kernel
theorem dX0_branch_29 : decode cX0_branch 29 = .ok (.iload_n 3, 1) := by decide +kernel
theorem dX0_branch_30 : decode cX0_branch 30 = .ok (.bipush 20, 2) := by decide +kernel
theorem dX0_branch_32 : decode cX0_branch 32 = .ok (.ishl, 1) := by decide +kernel
theorem dX0_branch_33 : decode cX0_branch 33 = .ok (.ior, 1) := by decide +kernel
theorem dX0_branch_34 : decode cX0_branch 34 = .ok (.iload 4, 2) := by decide +kernel
theorem dX0_branch_36 : decode cX0_branch 36 = .ok (.iconst 5, 1) := by decide +kernel
theorem dX0_branch_37 : decode cX0_branch 37 = .ok (.ishr, 1) := by decide +kernel
theorem dX0_branch_38 : decode cX0_branch 38 = .ok (.bipush 63, 2) := by decide +kernel
theorem dX0_branch_40 : decode cX0_branch 40 = .ok (.iand, 1) := by decide +kernel
theorem dX0_branch_41 : decode cX0_branch 41 = .ok (.bipush 25, 2) := by decide +kernel
theorem dX0_branch_43 : decode cX0_branch 43 = .ok (.ishl, 1) := by decide +kernel
theorem dX0_branch_44 : decode cX0_branch 44 = .ok (.ior, 1) := by decide +kernel
theorem dX0_branch_45 : decode cX0_branch 45 = .ok (.iload 4, 2) := by decide +kernel
theorem dX0_branch_47 : decode cX0_branch 47 = .ok (.bipush 12, 2) := by decide +kernel
theorem dX0_branch_49 : decode cX0_branch 49 = .ok (.ishr, 1) := by decide +kernel
theorem dX0_branch_50 : decode cX0_branch 50 = .ok (.bipush 31, 2) := by decide +kernel
theorem dX0_branch_52 : decode cX0_branch 52 = .ok (.ishl, 1) := by decide +kernel
theorem dX0_branch_53 : decode cX0_branch 53 = .ok (.ior, 1) := by decide +kernel
theorem dX0_branch_54 : decode cX0_branch 54 = .ok (.invokevirtual 47, 3) := by decide +kernel
theorem dX0_branch_57 : decode cX0_branch 57 = .ok (.return_, 1) := by decide +kernel
theorem dX0_upper_0 : decode cX0_upper 0 = .ok (.aload_n 0, 1) := by decide +kernel
theorem dX0_upper_1 : decode cX0_upper 1 = .ok (.bipush 55, 2) := by decide +kernel
theorem dX0_upper_3 : decode cX0_upper 3 = .ok (.iload_n 1, 1) := by decide +kernel
theorem dX0_upper_4 : decode cX0_upper 4 = .ok (.bipush 7, 2) := by decide +kernel
theorem dX0_upper_6 : decode cX0_upper 6 = .ok (.ishl, 1) := by decide +kernel
theorem dX0_upper_7 : decode cX0_upper 7 = .ok (.ior, 1) := by decide +kernel
theorem dX0_upper_8 : decode cX0_upper 8 = .ok (.iload_n 2, 1) := by decide +kernel
theorem dX0_upper_9 : decode cX0_upper 9 = .ok (.invokestatic 98, 3) := by decide +kernel
theorem dX0_upper_12 : decode cX0_upper 12 = .ok (.bipush 12, 2) := by decide +kernel
theorem dX0_upper_14 : decode cX0_upper 14 = .ok (.ishl, 1) := by decide +kernel
theorem dX0_upper_15 : decode cX0_upper 15 = .ok (.ior, 1) := by decide +kernel
theorem dX0_upper_16 : decode cX0_upper 16 = .ok (.invokevirtual 47, 3) := by decide +kernel
theorem dX0_upper_19 : decode cX0_upper 19 = .ok (.return_, 1) := by decide +kernel
theorem dX0_jump_0 : decode cX0_jump 0 = .ok (.iload_n 2, 1) := by decide +kernel
theorem dX0_jump_1 : decode cX0_jump 1 = .ok (.iconst 4, 1) := by decide +kernel
theorem dX0_jump_2 : decode cX0_jump 2 = .ok (.aload_n 0, 1) := by decide +kernel
theorem dX0_jump_3 : decode cX0_jump 3 = .ok (.getfield 33, 3) := by decide +kernel
theorem dX0_jump_6 : decode cX0_jump 6 = .ok (.imul, 1) := by decide +kernel
theorem dX0_jump_7 : decode cX0_jump 7 = .ok (.isub, 1) := by decide +kernel
theorem dX0_jump_8 : decode cX0_jump 8 = .ok (.istore_n 3, 1) := by decide +kernel
theorem dX0_jump_9 : decode cX0_jump 9 = .ok (.aload_n 0, 1) := by decide +kernel
theorem dX0_jump_10 : decode cX0_jump 10 = .ok (.bipush 111, 2) := by decide +kernel
theorem dX0_jump_12 : decode cX0_jump 12 = .ok (.iload_n 1, 1) := by decide +kernel
theorem dX0_jump_13 : decode cX0_jump 13 = .ok (.bipush 7, 2) := by decide +kernel
theorem dX0_jump_15 : decode cX0_jump 15 = .ok (.ishl, 1) := by decide +kernel
theorem dX0_jump_16 : decode cX0_jump 16 = .ok (.ior, 1) := by decide +kernel
theorem dX0_jump_17 : decode cX0_jump 17 = .ok (.iload_n 3, 1) := by decide +kernel
theorem dX0_jump_18 : decode cX0_jump 18 = .ok (.bipush 12, 2) := by decide +kernel
theorem dX0_jump_20 : decode cX0_jump 20 = .ok (.ishr, 1) := by decide +kernel
theorem dX0_jump_21 : decode cX0_jump 21 = .ok (.sipush 255, 3) := by decide +kernel
theorem dX0_jump_24 : decode cX0_jump 24 = .ok (.iand, 1) := by decide +kernel
theorem dX0_jump_25 : decode cX0_jump 25 = .ok (.bipush 12, 2) := by decide +kernel
theorem dX0_jump_27 : decode cX0_jump 27 = .ok (.ishl, 1) := by decide +kernel
theorem dX0_jump_28 : decode cX0_jump 28 = .ok (.ior, 1) := by decide +kernel
theorem dX0_jump_29 : decode cX0_jump 29 = .ok (.iload_n 3, 1) := by decide +kernel
theorem dX0_jump_30 : decode cX0_jump 30 = .ok (.bipush 11, 2) := by decide +kernel
theorem dX0_jump_32 : decode cX0_jump 32 = .ok (.ishr, 1) := by decide +kernel
theorem dX0_jump_33 : decode cX0_jump 33 = .ok (.iconst 1, 1) := by decide +kernel
theorem dX0_jump_34 : decode cX0_jump 34 = .ok (.iand, 1) := by decide +kernel
theorem dX0_jump_35 : decode cX0_jump 35 = .ok (.bipush 20, 2) := by decide +kernel
theorem dX0_jump_37 : decode cX0_jump 37 = .ok (.ishl, 1) := by decide +kernel
theorem dX0_jump_38 : decode cX0_jump 38 = .ok (.ior, 1) := by decide +kernel
theorem dX0_jump_39 : decode cX0_jump 39 = .ok (.iload_n 3, 1) := by decide +kernel
theorem dX0_jump_40 : decode cX0_jump 40 = .ok (.iconst 1, 1) := by decide +kernel
theorem dX0_jump_41 : decode cX0_jump 41 = .ok (.ishr, 1) := by decide +kernel
theorem dX0_jump_42 : decode cX0_jump 42 = .ok (.sipush 1023, 3) := by decide +kernel
theorem dX0_jump_45 : decode cX0_jump 45 = .ok (.iand, 1) := by decide +kernel
theorem dX0_jump_46 : decode cX0_jump 46 = .ok (.bipush 21, 2) := by decide +kernel
theorem dX0_jump_48 : decode cX0_jump 48 = .ok (.ishl, 1) := by decide +kernel
theorem dX0_jump_49 : decode cX0_jump 49 = .ok (.ior, 1) := by decide +kernel
theorem dX0_jump_50 : decode cX0_jump 50 = .ok (.iload_n 3, 1) := by decide +kernel
theorem dX0_jump_51 : decode cX0_jump 51 = .ok (.bipush 20, 2) := by decide +kernel
theorem dX0_jump_53 : decode cX0_jump 53 = .ok (.ishr, 1) := by decide +kernel
theorem dX0_jump_54 : decode cX0_jump 54 = .ok (.bipush 31, 2) := by decide +kernel
theorem dX0_jump_56 : decode cX0_jump 56 = .ok (.ishl, 1) := by decide +kernel
theorem dX0_jump_57 : decode cX0_jump 57 = .ok (.ior, 1) := by decide +kernel
theorem dX0_jump_58 : decode cX0_jump 58 = .ok (.invokevirtual 47, 3) := by decide +kernel
theorem dX0_jump_61 : decode cX0_jump 61 = .ok (.return_, 1) := by decide +kernel
theorem dX0_halt_0 : decode cX0_halt 0 = .ok (.aload_n 0, 1) := by decide +kernel
theorem dX0_halt_1 : decode cX0_halt 1 = .ok (.bipush 19, 2) := by decide +kernel
theorem dX0_halt_3 : decode cX0_halt 3 = .ok (.bipush 17, 2) := by decide +kernel
theorem dX0_halt_5 : decode cX0_halt 5 = .ok (.iconst 0, 1) := by decide +kernel
theorem dX0_halt_6 : decode cX0_halt 6 = .ok (.iload_n 1, 1) := by decide +kernel
theorem dX0_halt_7 : decode cX0_halt 7 = .ok (.invokevirtual 42, 3) := by decide +kernel
theorem tw_678 : (.code yX0_immediate cX0_immediate 5 none : Cond) ∈ tw_W := tw_in (t8_5 (List.mem_of_getElem? (i := 32) rfl)) rfl
theorem tw_679 : ∀ w ∈ ([.methodLink RX0 42 yX0_immediate, .instanceMethod yX0_immediate, .selects RX0 yX0_immediate yX0_immediate, .initialized RX0] : List Cond), w ∈ tw_W := al_c (tw_in (t8_5 (List.mem_of_getElem? (i := 29) rfl)) rfl) (al_c (tw_in (t8_5 (List.mem_of_getElem? (i := 31) rfl)) rfl) (al_c (tw_in (t7_4 (q := (yX0_immediate, 9)) (List.mem_of_getElem? (i := 1) rfl)) rfl) (al_c (tw_in (t8_1 (List.mem_of_getElem? (i := 13) rfl)) rfl) al_n)))
theorem dX0_halt_10 : decode cX0_halt 10 = .ok (.aload_n 0, 1) := by decide +kernel
theorem dX0_halt_11 : decode cX0_halt 11 = .ok (.ldc 46, 2) := by decide +kernel
theorem tw_680 : (.constant RX0 46 (1048691) : Cond) ∈ tw_W := tw_in (t8_5 (List.mem_of_getElem? (i := 37) rfl)) rfl
theorem dX0_halt_13 : decode cX0_halt 13 = .ok (.invokevirtual 47, 3) := by decide +kernel
theorem dX0_halt_16 : decode cX0_halt 16 = .ok (.return_, 1) := by decide +kernel
theorem dX0_outside_0 : decode cX0_outside 0 = .ok (.aload_n 0, 1) := by decide +kernel
theorem dX0_outside_1 : decode cX0_outside 1 = .ok (.bipush 19, 2) := by decide +kernel
theorem dX0_outside_3 : decode cX0_outside 3 = .ok (.bipush 17, 2) := by decide +kernel
theorem dX0_outside_5 : decode cX0_outside 5 = .ok (.iconst 0, 1) := by decide +kernel
theorem dX0_outside_6 : decode cX0_outside 6 = .ok (.iload_n 1, 1) := by decide +kernel
theorem dX0_outside_7 : decode cX0_outside 7 = .ok (.invokevirtual 42, 3) := by decide +kernel
theorem dX0_outside_10 : decode cX0_outside 10 = .ok (.aload_n 0, 1) := by decide +kernel
theorem dX0_outside_11 : decode cX0_outside 11 = .ok (.bipush 115, 2) := by decide +kernel
theorem dX0_outside_13 : decode cX0_outside 13 = .ok (.invokevirtual 47, 3) := by decide +kernel
theorem dX0_outside_16 : decode cX0_outside 16 = .ok (.return_, 1) := by decide +kernel
theorem dX0_loadSlot_0 : decode cX0_loadSlot 0 = .ok (.aload_n 0, 1) := by decide +kernel
theorem dX0_loadSlot_1 : decode cX0_loadSlot 1 = .ok (.sipush 8195, 3) := by decide +kernel
theorem dX0_loadSlot_4 : decode cX0_loadSlot 4 = .ok (.iload_n 1, 1) := by decide +kernel
theorem dX0_loadSlot_5 : decode cX0_loadSlot 5 = .ok (.bipush 8, 2) := by decide +kernel
theorem dX0_loadSlot_7 : decode cX0_loadSlot 7 = .ok (.iload_n 2, 1) := by decide +kernel
theorem dX0_loadSlot_8 : decode cX0_loadSlot 8 = .ok (.invokestatic 102, 3) := by decide +kernel
theorem tw_681 : (.code yX0_fromFrame cX0_fromFrame 1 (some .int) : Cond) ∈ tw_W := tw_in (t8_5 (List.mem_of_getElem? (i := 72) rfl)) rfl
theorem tw_682 : ∀ w ∈ ([.methodLink RX0 102 yX0_fromFrame, .static yX0_fromFrame, .initialized yX0_fromFrame.cls] : List Cond), w ∈ tw_W := al_c (tw_in (t8_5 (List.mem_of_getElem? (i := 70) rfl)) rfl) (al_c (tw_in (t8_5 (List.mem_of_getElem? (i := 71) rfl)) rfl) (al_c (tw_in (t8_1 (List.mem_of_getElem? (i := 13) rfl)) rfl) al_n))
theorem dX0_loadSlot_11 : decode cX0_loadSlot 11 = .ok (.invokevirtual 42, 3) := by decide +kernel
theorem dX0_loadSlot_14 : decode cX0_loadSlot 14 = .ok (.return_, 1) := by decide +kernel
theorem dX0_storeSlot_0 : decode cX0_storeSlot 0 = .ok (.aload_n 0, 1) := by decide +kernel
theorem dX0_storeSlot_1 : decode cX0_storeSlot 1 = .ok (.bipush 10, 2) := by decide +kernel
theorem dX0_storeSlot_3 : decode cX0_storeSlot 3 = .ok (.iload_n 1, 1) := by decide +kernel
theorem dX0_storeSlot_4 : decode cX0_storeSlot 4 = .ok (.invokestatic 102, 3) := by decide +kernel
theorem dX0_storeSlot_7 : decode cX0_storeSlot 7 = .ok (.bipush 8, 2) := by decide +kernel
theorem dX0_storeSlot_9 : decode cX0_storeSlot 9 = .ok (.invokevirtual 105, 3) := by decide +kernel
theorem tw_683 : (.code yX0_storeWord cX0_storeWord 4 none : Cond) ∈ tw_W := tw_in (t8_5 (List.mem_of_getElem? (i := 69) rfl)) rfl
theorem tw_684 : ∀ w ∈ ([.methodLink RX0 105 yX0_storeWord, .instanceMethod yX0_storeWord, .selects RX0 yX0_storeWord yX0_storeWord, .initialized RX0] : List Cond), w ∈ tw_W := al_c (tw_in (t8_5 (List.mem_of_getElem? (i := 66) rfl)) rfl) (al_c (tw_in (t8_5 (List.mem_of_getElem? (i := 68) rfl)) rfl) (al_c (tw_in (t7_4 (q := (yX0_storeWord, 9)) (List.mem_of_getElem? (i := 8) rfl)) rfl) (al_c (tw_in (t8_1 (List.mem_of_getElem? (i := 13) rfl)) rfl) al_n)))
theorem dX0_storeSlot_12 : decode cX0_storeSlot 12 = .ok (.return_, 1) := by decide +kernel
theorem dX0_addressOfGlobal_0 : decode cX0_addressOfGlobal 0 = .ok (.aload_n 0, 1) := by decide +kernel
theorem dX0_addressOfGlobal_1 : decode cX0_addressOfGlobal 1 = .ok (.getfield 15, 3) := by decide +kernel
theorem dX0_addressOfGlobal_4 : decode cX0_addressOfGlobal 4 = .ok (.iload_n 1, 1) := by decide +kernel
theorem dX0_addressOfGlobal_5 : decode cX0_addressOfGlobal 5 = .ok (.iconst 1, 1) := by decide +kernel
theorem dX0_addressOfGlobal_6 : decode cX0_addressOfGlobal 6 = .ok (.invokevirtual 91, 3) := by decide +kernel
theorem tw_685 : ∀ w ∈ ([.methodLink RX0 91 yX7_globalFact, .instanceMethod yX7_globalFact, .selects RX7 yX7_globalFact yX7_globalFact, .initialized RX7] : List Cond), w ∈ tw_W := al_c (tw_in (t8_5 (List.mem_of_getElem? (i := 131) rfl)) rfl) (al_c (tw_in (t8_3 (List.mem_of_getElem? (i := 220) rfl)) rfl) (al_c (tw_in (t8_3 (List.mem_of_getElem? (i := 221) rfl)) rfl) (al_c (tw_in (t8_1 (List.mem_of_getElem? (i := 8) rfl)) rfl) al_n)))
theorem dX0_addressOfGlobal_9 : decode cX0_addressOfGlobal 9 = .ok (.ireturn, 1) := by decide +kernel
theorem dX0_addressOfDeed_0 : decode cX0_addressOfDeed 0 = .ok (.iload_n 1, 1) := by decide +kernel
theorem dX0_addressOfDeed_1 : decode cX0_addressOfDeed 1 = .ok (.ifCond .lt 21, 3) := by decide +kernel
theorem dX0_addressOfDeed_22 : decode cX0_addressOfDeed 22 = .ok (.iconst 0, 1) := by decide +kernel
theorem dX0_addressOfDeed_23 : decode cX0_addressOfDeed 23 = .ok (.ireturn, 1) := by decide +kernel
theorem dX0_addressOfDeed_4 : decode cX0_addressOfDeed 4 = .ok (.iload_n 1, 1) := by decide +kernel
theorem dX0_addressOfDeed_5 : decode cX0_addressOfDeed 5 = .ok (.aload_n 0, 1) := by decide +kernel
theorem dX0_addressOfDeed_6 : decode cX0_addressOfDeed 6 = .ok (.getfield 9, 3) := by decide +kernel
theorem tw_686 : (.fieldLink RX0 9 "PocketCompiler$Assembler" "addresses" "[I" : Cond) ∈ tw_W := tw_in (t8_2 (List.mem_of_getElem? (i := 85) rfl)) rfl
theorem dX0_addressOfDeed_9 : decode cX0_addressOfDeed 9 = .ok (.arraylength, 1) := by decide +kernel
theorem dX0_addressOfDeed_10 : decode cX0_addressOfDeed 10 = .ok (.if_icmp .ge 12, 3) := by decide +kernel
theorem dX0_addressOfDeed_13 : decode cX0_addressOfDeed 13 = .ok (.aload_n 0, 1) := by decide +kernel
theorem dX0_addressOfDeed_14 : decode cX0_addressOfDeed 14 = .ok (.getfield 9, 3) := by decide +kernel
theorem dX0_addressOfDeed_17 : decode cX0_addressOfDeed 17 = .ok (.iload_n 1, 1) := by decide +kernel
theorem dX0_addressOfDeed_18 : decode cX0_addressOfDeed 18 = .ok (.iaload, 1) := by decide +kernel
theorem dX0_addressOfDeed_19 : decode cX0_addressOfDeed 19 = .ok (.goto 4, 3) := by decide +kernel
theorem dX0_layLeave_0 : decode cX0_layLeave 0 = .ok (.aload_n 0, 1) := by decide +kernel
theorem dX0_layLeave_1 : decode cX0_layLeave 1 = .ok (.sipush 8195, 3) := by decide +kernel
theorem dX0_layLeave_4 : decode cX0_layLeave 4 = .ok (.iconst 1, 1) := by decide +kernel
theorem dX0_layLeave_5 : decode cX0_layLeave 5 = .ok (.bipush 8, 2) := by decide +kernel
theorem dX0_layLeave_7 : decode cX0_layLeave 7 = .ok (.bipush (-4), 2) := by decide +kernel
theorem dX0_layLeave_9 : decode cX0_layLeave 9 = .ok (.invokevirtual 42, 3) := by decide +kernel
theorem dX0_layLeave_12 : decode cX0_layLeave 12 = .ok (.aload_n 0, 1) := by decide +kernel
theorem dX0_layLeave_13 : decode cX0_layLeave 13 = .ok (.bipush 19, 2) := by decide +kernel
theorem dX0_layLeave_15 : decode cX0_layLeave 15 = .ok (.iconst 2, 1) := by decide +kernel
theorem dX0_layLeave_16 : decode cX0_layLeave 16 = .ok (.bipush 8, 2) := by decide +kernel
theorem dX0_layLeave_18 : decode cX0_layLeave 18 = .ok (.iconst 0, 1) := by decide +kernel
theorem dX0_layLeave_19 : decode cX0_layLeave 19 = .ok (.invokevirtual 42, 3) := by decide +kernel
theorem dX0_layLeave_22 : decode cX0_layLeave 22 = .ok (.aload_n 0, 1) := by decide +kernel
theorem dX0_layLeave_23 : decode cX0_layLeave 23 = .ok (.sipush 8195, 3) := by decide +kernel
theorem dX0_layLeave_26 : decode cX0_layLeave 26 = .ok (.bipush 8, 2) := by decide +kernel
theorem dX0_layLeave_28 : decode cX0_layLeave 28 = .ok (.bipush 8, 2) := by decide +kernel
theorem dX0_layLeave_30 : decode cX0_layLeave 30 = .ok (.bipush (-8), 2) := by decide +kernel
theorem dX0_layLeave_32 : decode cX0_layLeave 32 = .ok (.invokevirtual 42, 3) := by decide +kernel
theorem dX0_layLeave_35 : decode cX0_layLeave 35 = .ok (.aload_n 0, 1) := by decide +kernel
theorem dX0_layLeave_36 : decode cX0_layLeave 36 = .ok (.bipush 103, 2) := by decide +kernel
theorem dX0_layLeave_38 : decode cX0_layLeave 38 = .ok (.iconst 0, 1) := by decide +kernel
theorem dX0_layLeave_39 : decode cX0_layLeave 39 = .ok (.iconst 1, 1) := by decide +kernel
theorem dX0_layLeave_40 : decode cX0_layLeave 40 = .ok (.iconst 0, 1) := by decide +kernel
theorem dX0_layLeave_41 : decode cX0_layLeave 41 = .ok (.invokevirtual 42, 3) := by decide +kernel
theorem dX0_layLeave_44 : decode cX0_layLeave 44 = .ok (.return_, 1) := by decide +kernel
theorem dX0_layNumber_0 : decode cX0_layNumber 0 = .ok (.iload_n 1, 1) := by decide +kernel
theorem dX0_layNumber_1 : decode cX0_layNumber 1 = .ok (.sipush (-2048), 3) := by decide +kernel
theorem dX0_layNumber_4 : decode cX0_layNumber 4 = .ok (.if_icmp .lt 23, 3) := by decide +kernel
theorem dX0_layNumber_27 : decode cX0_layNumber 27 = .ok (.aload_n 0, 1) := by decide +kernel
theorem dX0_layNumber_28 : decode cX0_layNumber 28 = .ok (.bipush 10, 2) := by decide +kernel
theorem dX0_layNumber_30 : decode cX0_layNumber 30 = .ok (.iload_n 1, 1) := by decide +kernel
theorem dX0_layNumber_31 : decode cX0_layNumber 31 = .ok (.invokevirtual 149, 3) := by decide +kernel
theorem tw_687 : (.code yX0_upper cX0_upper 3 none : Cond) ∈ tw_W := tw_in (t8_5 (List.mem_of_getElem? (i := 51) rfl)) rfl
theorem tw_688 : ∀ w ∈ ([.methodLink RX0 149 yX0_upper, .instanceMethod yX0_upper, .selects RX0 yX0_upper yX0_upper, .initialized RX0] : List Cond), w ∈ tw_W := al_c (tw_in (t8_5 (List.mem_of_getElem? (i := 48) rfl)) rfl) (al_c (tw_in (t8_5 (List.mem_of_getElem? (i := 50) rfl)) rfl) (al_c (tw_in (t7_4 (q := (yX0_upper, 9)) (List.mem_of_getElem? (i := 5) rfl)) rfl) (al_c (tw_in (t8_1 (List.mem_of_getElem? (i := 13) rfl)) rfl) al_n)))
theorem dX0_layNumber_34 : decode cX0_layNumber 34 = .ok (.aload_n 0, 1) := by decide +kernel
theorem dX0_layNumber_35 : decode cX0_layNumber 35 = .ok (.bipush 19, 2) := by decide +kernel
theorem dX0_layNumber_37 : decode cX0_layNumber 37 = .ok (.bipush 10, 2) := by decide +kernel
theorem dX0_layNumber_39 : decode cX0_layNumber 39 = .ok (.bipush 10, 2) := by decide +kernel
theorem dX0_layNumber_41 : decode cX0_layNumber 41 = .ok (.iload_n 1, 1) := by decide +kernel
theorem dX0_layNumber_42 : decode cX0_layNumber 42 = .ok (.invokestatic 152, 3) := by decide +kernel
theorem tw_689 : (.code yX0_low cX0_low 1 (some .int) : Cond) ∈ tw_W := tw_in (t8_5 (List.mem_of_getElem? (i := 57) rfl)) rfl
theorem tw_690 : ∀ w ∈ ([.methodLink RX0 152 yX0_low, .static yX0_low, .initialized yX0_low.cls] : List Cond), w ∈ tw_W := al_c (tw_in (t8_5 (List.mem_of_getElem? (i := 55) rfl)) rfl) (al_c (tw_in (t8_5 (List.mem_of_getElem? (i := 56) rfl)) rfl) (al_c (tw_in (t8_1 (List.mem_of_getElem? (i := 13) rfl)) rfl) al_n))
theorem dX0_layNumber_45 : decode cX0_layNumber 45 = .ok (.invokevirtual 42, 3) := by decide +kernel
theorem dX0_layNumber_48 : decode cX0_layNumber 48 = .ok (.return_, 1) := by decide +kernel
theorem dX0_layNumber_7 : decode cX0_layNumber 7 = .ok (.iload_n 1, 1) := by decide +kernel
theorem dX0_layNumber_8 : decode cX0_layNumber 8 = .ok (.sipush 2047, 3) := by decide +kernel
theorem dX0_layNumber_11 : decode cX0_layNumber 11 = .ok (.if_icmp .gt 16, 3) := by decide +kernel
theorem dX0_layNumber_14 : decode cX0_layNumber 14 = .ok (.aload_n 0, 1) := by decide +kernel
theorem dX0_layNumber_15 : decode cX0_layNumber 15 = .ok (.bipush 19, 2) := by decide +kernel
theorem dX0_layNumber_17 : decode cX0_layNumber 17 = .ok (.bipush 10, 2) := by decide +kernel
theorem dX0_layNumber_19 : decode cX0_layNumber 19 = .ok (.iconst 0, 1) := by decide +kernel
theorem dX0_layNumber_20 : decode cX0_layNumber 20 = .ok (.iload_n 1, 1) := by decide +kernel
theorem dX0_layNumber_21 : decode cX0_layNumber 21 = .ok (.invokevirtual 42, 3) := by decide +kernel
theorem dX0_layNumber_24 : decode cX0_layNumber 24 = .ok (.goto 24, 3) := by decide +kernel
theorem dX0_layIndex_0 : decode cX0_layIndex 0 = .ok (.aload_n 0, 1) := by decide +kernel
theorem dX0_layIndex_1 : decode cX0_layIndex 1 = .ok (.bipush 6, 2) := by decide +kernel
theorem dX0_layIndex_3 : decode cX0_layIndex 3 = .ok (.iload_n 1, 1) := by decide +kernel
theorem dX0_layIndex_4 : decode cX0_layIndex 4 = .ok (.invokevirtual 149, 3) := by decide +kernel
theorem dX0_layIndex_7 : decode cX0_layIndex 7 = .ok (.aload_n 0, 1) := by decide +kernel
theorem dX0_layIndex_8 : decode cX0_layIndex 8 = .ok (.bipush 19, 2) := by decide +kernel
theorem dX0_layIndex_10 : decode cX0_layIndex 10 = .ok (.bipush 6, 2) := by decide +kernel
theorem dX0_layIndex_12 : decode cX0_layIndex 12 = .ok (.bipush 6, 2) := by decide +kernel
theorem dX0_layIndex_14 : decode cX0_layIndex 14 = .ok (.iload_n 1, 1) := by decide +kernel
theorem dX0_layIndex_15 : decode cX0_layIndex 15 = .ok (.invokestatic 152, 3) := by decide +kernel
theorem dX0_layIndex_18 : decode cX0_layIndex 18 = .ok (.invokevirtual 42, 3) := by decide +kernel
theorem dX0_layIndex_21 : decode cX0_layIndex 21 = .ok (.aload_n 0, 1) := by decide +kernel
theorem dX0_layIndex_22 : decode cX0_layIndex 22 = .ok (.sipush 24675, 3) := by decide +kernel
theorem dX0_layIndex_25 : decode cX0_layIndex 25 = .ok (.bipush 10, 2) := by decide +kernel
theorem dX0_layIndex_27 : decode cX0_layIndex 27 = .ok (.bipush 6, 2) := by decide +kernel
theorem dX0_layIndex_29 : decode cX0_layIndex 29 = .ok (.bipush 12, 2) := by decide +kernel
theorem dX0_layIndex_31 : decode cX0_layIndex 31 = .ok (.invokevirtual 155, 3) := by decide +kernel
theorem tw_691 : (.code yX0_branch cX0_branch 5 none : Cond) ∈ tw_W := tw_in (t8_5 (List.mem_of_getElem? (i := 61) rfl)) rfl
theorem tw_692 : ∀ w ∈ ([.methodLink RX0 155 yX0_branch, .instanceMethod yX0_branch, .selects RX0 yX0_branch yX0_branch, .initialized RX0] : List Cond), w ∈ tw_W := al_c (tw_in (t8_5 (List.mem_of_getElem? (i := 58) rfl)) rfl) (al_c (tw_in (t8_5 (List.mem_of_getElem? (i := 60) rfl)) rfl) (al_c (tw_in (t7_4 (q := (yX0_branch, 9)) (List.mem_of_getElem? (i := 6) rfl)) rfl) (al_c (tw_in (t8_1 (List.mem_of_getElem? (i := 13) rfl)) rfl) al_n)))
theorem dX0_layIndex_34 : decode cX0_layIndex 34 = .ok (.aload_n 0, 1) := by decide +kernel
theorem dX0_layIndex_35 : decode cX0_layIndex 35 = .ok (.bipush 19, 2) := by decide +kernel
theorem dX0_layIndex_37 : decode cX0_layIndex 37 = .ok (.bipush 17, 2) := by decide +kernel
theorem dX0_layIndex_39 : decode cX0_layIndex 39 = .ok (.iconst 0, 1) := by decide +kernel
theorem dX0_layIndex_40 : decode cX0_layIndex 40 = .ok (.iconst 3, 1) := by decide +kernel
theorem dX0_layIndex_41 : decode cX0_layIndex 41 = .ok (.invokevirtual 42, 3) := by decide +kernel
theorem dX0_layIndex_44 : decode cX0_layIndex 44 = .ok (.aload_n 0, 1) := by decide +kernel
theorem dX0_layIndex_45 : decode cX0_layIndex 45 = .ok (.ldc 46, 2) := by decide +kernel
theorem dX0_layIndex_47 : decode cX0_layIndex 47 = .ok (.invokevirtual 47, 3) := by decide +kernel
theorem dX0_layIndex_50 : decode cX0_layIndex 50 = .ok (.aload_n 0, 1) := by decide +kernel
theorem dX0_layIndex_51 : decode cX0_layIndex 51 = .ok (.sipush 4115, 3) := by decide +kernel
theorem dX0_layIndex_54 : decode cX0_layIndex 54 = .ok (.bipush 10, 2) := by decide +kernel
theorem dX0_layIndex_56 : decode cX0_layIndex 56 = .ok (.bipush 10, 2) := by decide +kernel
theorem dX0_layIndex_58 : decode cX0_layIndex 58 = .ok (.iconst 2, 1) := by decide +kernel
theorem dX0_layIndex_59 : decode cX0_layIndex 59 = .ok (.invokevirtual 42, 3) := by decide +kernel
theorem dX0_layIndex_62 : decode cX0_layIndex 62 = .ok (.aload_n 0, 1) := by decide +kernel
theorem dX0_layIndex_63 : decode cX0_layIndex 63 = .ok (.bipush 6, 2) := by decide +kernel
theorem dX0_layIndex_65 : decode cX0_layIndex 65 = .ok (.iload_n 2, 1) := by decide +kernel
theorem dX0_layIndex_66 : decode cX0_layIndex 66 = .ok (.invokevirtual 149, 3) := by decide +kernel
theorem dX0_layIndex_69 : decode cX0_layIndex 69 = .ok (.aload_n 0, 1) := by decide +kernel
theorem dX0_layIndex_70 : decode cX0_layIndex 70 = .ok (.bipush 51, 2) := by decide +kernel
theorem dX0_layIndex_72 : decode cX0_layIndex 72 = .ok (.bipush 10, 2) := by decide +kernel
theorem dX0_layIndex_74 : decode cX0_layIndex 74 = .ok (.bipush 10, 2) := by decide +kernel
theorem dX0_layIndex_76 : decode cX0_layIndex 76 = .ok (.bipush 6, 2) := by decide +kernel
theorem dX0_layIndex_78 : decode cX0_layIndex 78 = .ok (.invokevirtual 125, 3) := by decide +kernel
theorem tw_693 : (.code yX0_three cX0_three 5 none : Cond) ∈ tw_W := tw_in (t8_5 (List.mem_of_getElem? (i := 93) rfl)) rfl
theorem tw_694 : ∀ w ∈ ([.methodLink RX0 125 yX0_three, .instanceMethod yX0_three, .selects RX0 yX0_three yX0_three, .initialized RX0] : List Cond), w ∈ tw_W := al_c (tw_in (t8_5 (List.mem_of_getElem? (i := 90) rfl)) rfl) (al_c (tw_in (t8_5 (List.mem_of_getElem? (i := 92) rfl)) rfl) (al_c (tw_in (t7_4 (q := (yX0_three, 9)) (List.mem_of_getElem? (i := 13) rfl)) rfl) (al_c (tw_in (t8_1 (List.mem_of_getElem? (i := 13) rfl)) rfl) al_n)))
theorem dX0_layIndex_81 : decode cX0_layIndex 81 = .ok (.return_, 1) := by decide +kernel
theorem dX0_layJump_0 : decode cX0_layJump 0 = .ok (.iload_n 1, 1) := by decide +kernel
theorem dX0_layJump_1 : decode cX0_layJump 1 = .ok (.bipush 16, 2) := by decide +kernel
theorem dX0_layJump_3 : decode cX0_layJump 3 = .ok (.if_icmp .ne 18, 3) := by decide +kernel
theorem dX0_layJump_21 : decode cX0_layJump 21 = .ok (.iload_n 1, 1) := by decide +kernel
theorem dX0_layJump_22 : decode cX0_layJump 22 = .ok (.bipush 17, 2) := by decide +kernel
theorem dX0_layJump_24 : decode cX0_layJump 24 = .ok (.if_icmp .ne 17, 3) := by decide +kernel
theorem dX0_layJump_41 : decode cX0_layJump 41 = .ok (.iload_n 1, 1) := by decide +kernel
theorem dX0_layJump_42 : decode cX0_layJump 42 = .ok (.bipush 18, 2) := by decide +kernel
theorem dX0_layJump_44 : decode cX0_layJump 44 = .ok (.if_icmp .ne 24, 3) := by decide +kernel
theorem dX0_layJump_68 : decode cX0_layJump 68 = .ok (.aload_n 0, 1) := by decide +kernel
theorem dX0_layJump_69 : decode cX0_layJump 69 = .ok (.iconst 0, 1) := by decide +kernel
theorem dX0_layJump_70 : decode cX0_layJump 70 = .ok (.aload_n 0, 1) := by decide +kernel
theorem dX0_layJump_71 : decode cX0_layJump 71 = .ok (.iload_n 2, 1) := by decide +kernel
theorem dX0_layJump_72 : decode cX0_layJump 72 = .ok (.invokevirtual 167, 3) := by decide +kernel
theorem tw_695 : (.code yX0_addressOfDeed cX0_addressOfDeed 2 (some .int) : Cond) ∈ tw_W := tw_in (t8_5 (List.mem_of_getElem? (i := 122) rfl)) rfl
theorem tw_696 : ∀ w ∈ ([.methodLink RX0 167 yX0_addressOfDeed, .instanceMethod yX0_addressOfDeed, .selects RX0 yX0_addressOfDeed yX0_addressOfDeed, .initialized RX0] : List Cond), w ∈ tw_W := al_c (tw_in (t8_5 (List.mem_of_getElem? (i := 119) rfl)) rfl) (al_c (tw_in (t8_5 (List.mem_of_getElem? (i := 121) rfl)) rfl) (al_c (tw_in (t7_5 (q := (yX0_addressOfDeed, 9)) (List.mem_of_getElem? (i := 4) rfl)) rfl) (al_c (tw_in (t8_1 (List.mem_of_getElem? (i := 13) rfl)) rfl) al_n)))
theorem dX0_layJump_75 : decode cX0_layJump 75 = .ok (.invokevirtual 170, 3) := by decide +kernel
theorem tw_697 : (.code yX0_jump cX0_jump 4 none : Cond) ∈ tw_W := tw_in (t8_5 (List.mem_of_getElem? (i := 102) rfl)) rfl
theorem tw_698 : ∀ w ∈ ([.methodLink RX0 170 yX0_jump, .instanceMethod yX0_jump, .selects RX0 yX0_jump yX0_jump, .initialized RX0] : List Cond), w ∈ tw_W := al_c (tw_in (t8_5 (List.mem_of_getElem? (i := 99) rfl)) rfl) (al_c (tw_in (t8_5 (List.mem_of_getElem? (i := 101) rfl)) rfl) (al_c (tw_in (t7_4 (q := (yX0_jump, 9)) (List.mem_of_getElem? (i := 15) rfl)) rfl) (al_c (tw_in (t8_1 (List.mem_of_getElem? (i := 13) rfl)) rfl) al_n)))
theorem dX0_layJump_78 : decode cX0_layJump 78 = .ok (.return_, 1) := by decide +kernel
theorem dX0_layJump_47 : decode cX0_layJump 47 = .ok (.aload_n 0, 1) := by decide +kernel
theorem dX0_layJump_48 : decode cX0_layJump 48 = .ok (.bipush 99, 2) := by decide +kernel
theorem dX0_layJump_50 : decode cX0_layJump 50 = .ok (.bipush 10, 2) := by decide +kernel
theorem dX0_layJump_52 : decode cX0_layJump 52 = .ok (.iconst 0, 1) := by decide +kernel
theorem dX0_layJump_53 : decode cX0_layJump 53 = .ok (.bipush 12, 2) := by decide +kernel
theorem dX0_layJump_55 : decode cX0_layJump 55 = .ok (.invokevirtual 155, 3) := by decide +kernel
theorem dX0_layJump_58 : decode cX0_layJump 58 = .ok (.aload_n 0, 1) := by decide +kernel
theorem dX0_layJump_59 : decode cX0_layJump 59 = .ok (.bipush 19, 2) := by decide +kernel
theorem dX0_layJump_61 : decode cX0_layJump 61 = .ok (.bipush 10, 2) := by decide +kernel
theorem dX0_layJump_63 : decode cX0_layJump 63 = .ok (.iconst 0, 1) := by decide +kernel
theorem dX0_layJump_64 : decode cX0_layJump 64 = .ok (.iconst 1, 1) := by decide +kernel
theorem dX0_layJump_65 : decode cX0_layJump 65 = .ok (.invokevirtual 42, 3) := by decide +kernel
theorem dX0_layJump_27 : decode cX0_layJump 27 = .ok (.aload_n 0, 1) := by decide +kernel
theorem dX0_layJump_28 : decode cX0_layJump 28 = .ok (.bipush 99, 2) := by decide +kernel
theorem dX0_layJump_30 : decode cX0_layJump 30 = .ok (.bipush 10, 2) := by decide +kernel
theorem dX0_layJump_32 : decode cX0_layJump 32 = .ok (.iconst 0, 1) := by decide +kernel
theorem dX0_layJump_33 : decode cX0_layJump 33 = .ok (.bipush 8, 2) := by decide +kernel
theorem dX0_layJump_35 : decode cX0_layJump 35 = .ok (.invokevirtual 155, 3) := by decide +kernel
theorem dX0_layJump_38 : decode cX0_layJump 38 = .ok (.goto 30, 3) := by decide +kernel
theorem dX0_layJump_6 : decode cX0_layJump 6 = .ok (.aload_n 0, 1) := by decide +kernel
theorem dX0_layJump_7 : decode cX0_layJump 7 = .ok (.sipush 4195, 3) := by decide +kernel
theorem dX0_layJump_10 : decode cX0_layJump 10 = .ok (.bipush 10, 2) := by decide +kernel
theorem dX0_layJump_12 : decode cX0_layJump 12 = .ok (.iconst 0, 1) := by decide +kernel
theorem dX0_layJump_13 : decode cX0_layJump 13 = .ok (.bipush 8, 2) := by decide +kernel
theorem dX0_layJump_15 : decode cX0_layJump 15 = .ok (.invokevirtual 155, 3) := by decide +kernel
theorem dX0_layJump_18 : decode cX0_layJump 18 = .ok (.goto 50, 3) := by decide +kernel
theorem dX0_layCall_0 : decode cX0_layCall 0 = .ok (.aload_n 0, 1) := by decide +kernel
theorem dX0_layCall_1 : decode cX0_layCall 1 = .ok (.getfield 15, 3) := by decide +kernel
theorem dX0_layCall_4 : decode cX0_layCall 4 = .ok (.iload_n 1, 1) := by decide +kernel
theorem dX0_layCall_5 : decode cX0_layCall 5 = .ok (.iconst 0, 1) := by decide +kernel
theorem dX0_layCall_6 : decode cX0_layCall 6 = .ok (.invokevirtual 143, 3) := by decide +kernel
theorem tw_699 : ∀ w ∈ ([.methodLink RX0 143 yX7_functionFact, .instanceMethod yX7_functionFact, .selects RX7 yX7_functionFact yX7_functionFact, .initialized RX7] : List Cond), w ∈ tw_W := al_c (tw_in (t8_5 (List.mem_of_getElem? (i := 46) rfl)) rfl) (al_c (tw_in (t8_3 (List.mem_of_getElem? (i := 212) rfl)) rfl) (al_c (tw_in (t8_3 (List.mem_of_getElem? (i := 213) rfl)) rfl) (al_c (tw_in (t8_1 (List.mem_of_getElem? (i := 8) rfl)) rfl) al_n)))
theorem dX0_layCall_9 : decode cX0_layCall 9 = .ok (.ifCond .le 16, 3) := by decide +kernel
theorem dX0_layCall_25 : decode cX0_layCall 25 = .ok (.aload_n 0, 1) := by decide +kernel
theorem dX0_layCall_26 : decode cX0_layCall 26 = .ok (.iconst 1, 1) := by decide +kernel
theorem dX0_layCall_27 : decode cX0_layCall 27 = .ok (.aload_n 0, 1) := by decide +kernel
theorem dX0_layCall_28 : decode cX0_layCall 28 = .ok (.getfield 15, 3) := by decide +kernel
theorem dX0_layCall_31 : decode cX0_layCall 31 = .ok (.iload_n 1, 1) := by decide +kernel
theorem dX0_layCall_32 : decode cX0_layCall 32 = .ok (.iconst 1, 1) := by decide +kernel
theorem dX0_layCall_33 : decode cX0_layCall 33 = .ok (.invokevirtual 143, 3) := by decide +kernel
theorem dX0_layCall_36 : decode cX0_layCall 36 = .ok (.invokevirtual 170, 3) := by decide +kernel
theorem dX0_layCall_39 : decode cX0_layCall 39 = .ok (.return_, 1) := by decide +kernel
theorem dX0_layCall_12 : decode cX0_layCall 12 = .ok (.aload_n 0, 1) := by decide +kernel
theorem dX0_layCall_13 : decode cX0_layCall 13 = .ok (.bipush 19, 2) := by decide +kernel
theorem dX0_layCall_15 : decode cX0_layCall 15 = .ok (.iconst 5, 1) := by decide +kernel
theorem dX0_layCall_16 : decode cX0_layCall 16 = .ok (.bipush 8, 2) := by decide +kernel
theorem dX0_layCall_18 : decode cX0_layCall 18 = .ok (.iload_n 2, 1) := by decide +kernel
theorem dX0_layCall_19 : decode cX0_layCall 19 = .ok (.invokestatic 102, 3) := by decide +kernel
theorem dX0_layCall_22 : decode cX0_layCall 22 = .ok (.invokevirtual 42, 3) := by decide +kernel
set_option maxHeartbeats 4000000 in
set_option maxRecDepth 100000 in
theorem c_x_X0_high (l : Launch) (dC : Nat → ClassId) (dI : Nat → Nat → Nat) (cI cB cZ cJ cR : ClassId) (tb : Nat → Nat) (sz : Nat) (pa : Int32)  : Met l yX0_high (Cond.code yX0_high cX0_high 1 (some .int) :: tw_W) ({ frames := 0, cells := 0, slots := 0, locals := 0 }) (pc_ (dC, dI) (tyS cI cB cZ cJ cR) tb [] sz [.int pa]) (qi_ (dC, dI) [] sz (fun (r : Int32) (u : Unit) => (Q_x_X0_high pa r)) (fun (u : Unit) => [])) 0 0 (va_A [] sz) := by
  refine Met.ofW (cc := cX0_high) (maxL := 1) (ret := (some .int)) (by decide) rfl ?_
  intro p e s m args below meth c s₁ B hml hv
  obtain ⟨rfl, hsz, hP, hKK, hD0, hFx⟩ := hv
  have hK := hKK.1
  have hx := B.exec
  have hb := B.bytes
  have hr := B.returns
  have ht : ∀ w ∈ tw_W, w.before _ s = true := fun w h => atoms_spec (ws := Cond.code yX0_high cX0_high 1 (some .int) :: tw_W) B.pre w (List.mem_cons_of_mem _ h)
  have hown : s.vm.findClass RX0 = some m.cls := findClass_of_methodNamed B.named
  have hlocks := B.notSynchronized
  subst hsz
  unfold qi_
  have hD := hD0.self (sz := s.heap.size)
  generalize hAe : va_A [] s.heap.size = A at hD hFx ⊢
  have hA : ∀ q : Nat, s.heap.size ≤ q → A q := fun q h => by rw [← hAe]; exact Or.inr h
  have hS : va_S A s.heap s.heap [] := va_S.rf
  have hl := lv_entry ([.int pa]) (n := 1) (Nat.le_of_ble_eq_true rfl)
  rw [lg_entry_eq]
  generalize (lg_sl ([.int pa]) ++ List.replicate (1 - (lg_sl ([.int pa])).length) Slot.unset).toArray = ls at hl ⊢
  have hl : lv_has ls 1 [(0, .int pa)] := hl
  refine lv_iload_n hx hb dX0_high_0 rfl (lv_at hl 0 rfl) ?_
  refine lv_sipush (v := 2048) hx hb dX0_high_1 (by decide) ?_
  refine lv_iadd hx hb dX0_high_4 ?_
  refine lv_bipush (v := 12) hx hb dX0_high_5 (by decide) ?_
  refine lv_iushr hx hb dX0_high_7 rfl ?_
  exact W.iret (v := (((pa + (2048 : Int32)).toUInt32 >>> ((12 : Int32).toUInt32 &&& Int32.toUInt32 31)).toInt32)) hx hb hr (fun t ht9 hW => ⟨⟨(((pa + (2048 : Int32)).toUInt32 >>> ((12 : Int32).toUInt32 &&& Int32.toUInt32 31)).toInt32), (), rfl, rfl, by rw [ht9]; exact hP, hD⟩, hS.F ht9⟩) hS.2.2 dX0_high_8
set_option maxHeartbeats 4000000 in
set_option maxRecDepth 100000 in
theorem c_x_X0_low (l : Launch) (dC : Nat → ClassId) (dI : Nat → Nat → Nat) (cI cB cZ cJ cR : ClassId) (tb : Nat → Nat) (sz : Nat) (pa : Int32)  : Met l yX0_low (Cond.code yX0_low cX0_low 1 (some .int) :: tw_W) ({ frames := 1, cells := 0, slots := 0, locals := 20 }) (pc_ (dC, dI) (tyS cI cB cZ cJ cR) tb [] sz [.int pa]) (qi_ (dC, dI) [] sz (fun (r : Int32) (u : Unit) => (Q_x_X0_low pa r)) (fun (u : Unit) => [])) 0 0 (va_A [] sz) := by
  refine Met.ofW (cc := cX0_low) (maxL := 1) (ret := (some .int)) (by decide) rfl ?_
  intro p e s m args below meth c s₁ B hml hv
  obtain ⟨rfl, hsz, hP, hKK, hD0, hFx⟩ := hv
  have hK := hKK.1
  have hx := B.exec
  have hb := B.bytes
  have hr := B.returns
  have ht : ∀ w ∈ tw_W, w.before _ s = true := fun w h => atoms_spec (ws := Cond.code yX0_low cX0_low 1 (some .int) :: tw_W) B.pre w (List.mem_cons_of_mem _ h)
  have hown : s.vm.findClass RX0 = some m.cls := findClass_of_methodNamed B.named
  have hlocks := B.notSynchronized
  subst hsz
  unfold qi_
  have hD := hD0.self (sz := s.heap.size)
  generalize hAe : va_A [] s.heap.size = A at hD hFx ⊢
  have hA : ∀ q : Nat, s.heap.size ≤ q → A q := fun q h => by rw [← hAe]; exact Or.inr h
  have hS : va_S A s.heap s.heap [] := va_S.rf
  have hl := lv_entry ([.int pa]) (n := 1) (Nat.le_of_ble_eq_true rfl)
  rw [lg_entry_eq]
  generalize (lg_sl ([.int pa]) ++ List.replicate (1 - (lg_sl ([.int pa])).length) Slot.unset).toArray = ls at hl ⊢
  have hl : lv_has ls 1 [(0, .int pa)] := hl
  refine lv_iload_n hx hb dX0_low_0 rfl (lv_at hl 0 rfl) ?_
  refine lv_iload_n hx hb dX0_low_1 rfl (lv_at hl 0 rfl) ?_
  refine cu_i (rn_S (n := 1) (As := [.int pa]) (rest := [.int pa]) hx hb hml hown ht hKK hFx hP hD hS hA (c_x_X0_high l dC dI cI cB cZ cJ cR tb s.heap.size pa ) tw_670 tw_671 (by decide +kernel) rfl rfl ⟨Nat.le_of_ble_eq_true rfl, Nat.le_of_ble_eq_true rfl⟩ [] rfl rfl rfl hl.1 rfl (Nat.le_of_ble_eq_true rfl) dX0_low_2 ⟨Nat.le_of_ble_eq_true rfl, Nat.le_of_ble_eq_true rfl⟩) hP hD hS hA (fun r3 _ H locs hw1 hP hD hS => ?_)
  have ex1 := hw1
  refine W.widen (k := 0) (n := 0) (Nat.le_refl _) (Nat.le_refl _) ?_
  refine lv_bipush (v := 12) hx hb dX0_low_5 (by decide) ?_
  refine lv_ishl hx hb dX0_low_7 ?_
  refine lv_isub hx hb dX0_low_8 ?_
  exact W.iret (v := (pa - (r3 <<< ((12 : Int32) &&& 31)))) hx hb hr (fun t ht9 hW => ⟨⟨(pa - (r3 <<< ((12 : Int32) &&& 31))), (), rfl, ⟨r3, ex1, rfl⟩, by rw [ht9]; exact hP, hD⟩, hS.F ht9⟩) hS.2.2 dX0_low_9
set_option maxHeartbeats 4000000 in
set_option maxRecDepth 100000 in
theorem c_x_X0_fromFrame (l : Launch) (dC : Nat → ClassId) (dI : Nat → Nat → Nat) (cI cB cZ cJ cR : ClassId) (tb : Nat → Nat) (sz : Nat) (pa : Int32)  : Met l yX0_fromFrame (Cond.code yX0_fromFrame cX0_fromFrame 1 (some .int) :: tw_W) ({ frames := 0, cells := 0, slots := 0, locals := 0 }) (pc_ (dC, dI) (tyS cI cB cZ cJ cR) tb [] sz [.int pa]) (qi_ (dC, dI) [] sz (fun (r : Int32) (u : Unit) => (Q_x_X0_fromFrame pa r)) (fun (u : Unit) => [])) 0 0 (va_A [] sz) := by
  refine Met.ofW (cc := cX0_fromFrame) (maxL := 1) (ret := (some .int)) (by decide) rfl ?_
  intro p e s m args below meth c s₁ B hml hv
  obtain ⟨rfl, hsz, hP, hKK, hD0, hFx⟩ := hv
  have hK := hKK.1
  have hx := B.exec
  have hb := B.bytes
  have hr := B.returns
  have ht : ∀ w ∈ tw_W, w.before _ s = true := fun w h => atoms_spec (ws := Cond.code yX0_fromFrame cX0_fromFrame 1 (some .int) :: tw_W) B.pre w (List.mem_cons_of_mem _ h)
  have hown : s.vm.findClass RX0 = some m.cls := findClass_of_methodNamed B.named
  have hlocks := B.notSynchronized
  subst hsz
  unfold qi_
  have hD := hD0.self (sz := s.heap.size)
  generalize hAe : va_A [] s.heap.size = A at hD hFx ⊢
  have hA : ∀ q : Nat, s.heap.size ≤ q → A q := fun q h => by rw [← hAe]; exact Or.inr h
  have hS : va_S A s.heap s.heap [] := va_S.rf
  have hl := lv_entry ([.int pa]) (n := 1) (Nat.le_of_ble_eq_true rfl)
  rw [lg_entry_eq]
  generalize (lg_sl ([.int pa]) ++ List.replicate (1 - (lg_sl ([.int pa])).length) Slot.unset).toArray = ls at hl ⊢
  have hl : lv_has ls 1 [(0, .int pa)] := hl
  refine lv_bipush (v := -12) hx hb dX0_fromFrame_0 (by decide) ?_
  refine lv_iconst (v := 4) hx hb dX0_fromFrame_2 (by decide) ?_
  refine lv_iload_n hx hb dX0_fromFrame_3 rfl (lv_at hl 0 rfl) ?_
  refine lv_imul hx hb dX0_fromFrame_4 ?_
  refine lv_isub hx hb dX0_fromFrame_5 ?_
  exact W.iret (v := (((-12) : Int32) - ((4 : Int32) * pa))) hx hb hr (fun t ht9 hW => ⟨⟨(((-12) : Int32) - ((4 : Int32) * pa)), (), rfl, rfl, by rw [ht9]; exact hP, hD⟩, hS.F ht9⟩) hS.2.2 dX0_fromFrame_6
theorem om_2c4918ac59 {x0 : Int} (h0 : 0 ≤ x0 ∧ x0 + 1 ≤ 7000000) : -2147483648 ≤ (x0) + (1 : Int) := by omega
theorem om_8f06e57a29 {x0 : Int} (h0 : 0 ≤ x0 ∧ x0 + 1 ≤ 7000000) : (x0) + (1 : Int) < 2147483648 := by omega
theorem om_2fc4952110 {x0 : Int} (h0 : 0 ≤ x0 ∧ x0 + 1 ≤ 7000000) : 0 ≤ x0 := by omega
set_option maxHeartbeats 4000000 in
set_option maxRecDepth 100000 in
theorem c_x_X0_emit (l : Launch) (dC : Nat → ClassId) (dI : Nat → Nat → Nat) (cI cB cZ cJ cR : ClassId) (tb : Nat → Nat) (sz : Nat) (ad : Nat → Nat) (pr : Int32 → Nat) (N : Nat) (L1 L2 : List Nat) (v : MS) (pa : Int32) (ps : Int32) (zNN : (N : Int) ≤ 4096) (hps : pr ps = ad 908) (es334 : (v.1 0 334) = ps) (zs : 0 ≤ (v.1 0 337).toInt ∧ (v.1 0 337).toInt + 1 ≤ 7000000) : Met l yX0_emit (Cond.code yX0_emit cX0_emit 2 none :: tw_W) ({ frames := 0, cells := 0, slots := 0, locals := 0 }) (pc_ (dC, dI) (tyS cI cB cZ cJ cR) tb (cW ad pr N cI cR L1 L2 v) sz [.ref (ad 904), .int pa]) (qv_ (dC, dI) (cW ad pr N cI cR L1 L2 v) sz (fun (u : MS) => FC [337] [0, 382] v u ∧ (Q_x_X0_emit L1 L2 N v pa u) ∧ ((u.1 0 337).toInt = (v.1 0 337).toInt + 1) ∧ (RS v u)) (fun (u : MS) => (cW ad pr N cI cR L1 L2 u))) 0 0 (va_A (cW ad pr N cI cR L1 L2 v) sz) := by
  refine Met.ofW (cc := cX0_emit) (maxL := 2) (ret := none) (by decide) rfl ?_
  intro p e s m args below meth c s₁ B hml hv
  obtain ⟨rfl, hsz, hP, hKK, hD0, hFx⟩ := hv
  have hK := hKK.1
  have hx := B.exec
  have hb := B.bytes
  have hr := B.returns
  have ht : ∀ w ∈ tw_W, w.before _ s = true := fun w h => atoms_spec (ws := Cond.code yX0_emit cX0_emit 2 none :: tw_W) B.pre w (List.mem_cons_of_mem _ h)
  have hown : s.vm.findClass RX0 = some m.cls := findClass_of_methodNamed B.named
  have hlocks := B.notSynchronized
  subst hsz
  unfold qv_
  have hD := hD0.self (sz := s.heap.size)
  generalize hAe : va_A (cW ad pr N cI cR L1 L2 v) s.heap.size = A at hD hFx ⊢
  have hA : ∀ q : Nat, s.heap.size ≤ q → A q := fun q h => by rw [← hAe]; exact Or.inr h
  have hS : va_S A s.heap s.heap [] := va_S.rf
  have hl := lv_entry ([.ref (ad 904), .int pa]) (n := 2) (Nat.le_of_ble_eq_true rfl)
  rw [lg_entry_eq]
  generalize (lg_sl ([.ref (ad 904), .int pa]) ++ List.replicate (2 - (lg_sl ([.ref (ad 904), .int pa])).length) Slot.unset).toArray = ls at hl ⊢
  have hl : lv_has ls 2 [(0, .ref (ad 904)), (1, .int pa)] := hl
  refine lv_aload_n hx hb dX0_emit_0 rfl (lv_at hl 0 rfl) ?_
  refine va_get (D := (dC, dI)) (ci := 4) (fs := oF_X0 ad pr v) (v := .int (v.1 0 338)) (C := RX0) (T := TX0) (N := 9) hx hb ht itX0 hown hK hP 4 rfl rfl 4 (by decide) (ht _ tw_672) (fun _ h9 => h9) rfl dX0_emit_1 ?_
  refine lv_if_eq (tgt := 35) hx hb dX0_emit_4 (by decide) (fun h1 => ?_) (fun h1 => ?_)
  · have z2 : (v.1 0 338).toInt = (0 : Int) := eq_z rfl (show (0 : Int32).toInt = (0 : Int) by decide) h1
    refine lv_aload_n hx hb dX0_emit_35 rfl (lv_at hl 0 rfl) ?_
    refine lv_dup hx hb dX0_emit_36 rfl ?_
    refine va_get (D := (dC, dI)) (ci := 4) (fs := oF_X0 ad pr v) (v := .int (v.1 0 337)) (C := RX0) (T := TX0) (N := 9) hx hb ht itX0 hown hK hP 4 rfl rfl 3 (by decide) (ht _ tw_673) (fun _ h9 => h9) rfl dX0_emit_37 ?_
    refine lv_iconst (v := 1) hx hb dX0_emit_40 (by decide) ?_
    refine lv_iadd hx hb dX0_emit_41 ?_
    have z3 : ((v.1 0 337) + (1 : Int32)).toInt = ((v.1 0 337).toInt) + (1 : Int) := add_z rfl (show (1 : Int32).toInt = (1 : Int) by decide) (om_2c4918ac59 zs) (om_8f06e57a29 zs)
    refine va_put (D := (dC, dI)) (ci := 4) (fs := oF_X0 ad pr v) (v := .int ((v.1 0 337) + (1 : Int32))) (ty := .int) (C := RX0) (T := TX0) (N := 9) hx hb ht itX0 tyX0 tyX0_ok nmX0 hown hK hP hD hS 4 rfl rfl 3 (by decide) (ht _ tw_673) (fun _ h9 => h9) rfl (by decide +kernel) rfl rfl (Nat.le_of_ble_eq_true rfl) dX0_emit_42 (fun H locs hP hD hS => ?_)
    have hP := cP_ (cw_337 ad pr N cI cR L1 L2 v ((v.1 0 337) + (1 : Int32))) hP
    have hD := cD_ (cw_337 ad pr N cI cR L1 L2 v ((v.1 0 337) + (1 : Int32))) hD
    exact W.vret hx hb hr (fun t ht9 hW => ⟨⟨(wA v 0 337 ((v.1 0 337) + (1 : Int32))), rfl, ⟨(FC.f (FC.rf _) ((v.1 0 337) + (1 : Int32)) (by decide)), ⟨zs, (Or.inl ⟨z2, rfl⟩)⟩, (show ((v.1 0 337) + (1 : Int32)).toInt = (v.1 0 337).toInt + 1 from (om_5bccfc38cf z3)), (RS.w0 RS.rf (by decide))⟩, by rw [ht9]; exact hP, hD⟩, hS.F ht9⟩) hS.2.2 dX0_emit_45
  · have z4 : (v.1 0 338).toInt ≠ (0 : Int) := ne_z rfl (show (0 : Int32).toInt = (0 : Int) by decide) h1
    refine lv_aload_n hx hb dX0_emit_7 rfl (lv_at hl 0 rfl) ?_
    refine va_get (D := (dC, dI)) (ci := 4) (fs := oF_X0 ad pr v) (v := .int (v.1 0 337)) (C := RX0) (T := TX0) (N := 9) hx hb ht itX0 hown hK hP 4 rfl rfl 3 (by decide) (ht _ tw_673) (fun _ h9 => h9) rfl dX0_emit_8 ?_
    refine lv_aload_n hx hb dX0_emit_11 rfl (lv_at hl 0 rfl) ?_
    refine va_get (D := (dC, dI)) (ci := 4) (fs := oF_X0 ad pr v) (v := .ref (pr (v.1 0 334))) (C := RX0) (T := TX0) (N := 9) hx hb ht itX0 hown hK hP 4 rfl rfl 0 (by decide) (ht _ tw_674) (fun _ h9 => h9) rfl dX0_emit_12 ?_
    refine W.eq (g2 := F0 m 15 ls [.ref (ad 908), .int (v.1 0 337)]) (by rw [show pr (v.1 0 334) = (ad 908) from (by rw [show (v.1 0 334) = ps from es334]; exact hps)]) ?_
    refine va_get (D := (dC, dI)) (ci := 10) (fs := oF_X7 ad pr v) (v := .ref (ad 382)) (C := RX7) (T := TX7) (N := 13) hx hb ht itX7 hown hK hP 8 rfl rfl 10 (by decide) (ht _ tw_675) (fun _ h9 => h9) rfl dX0_emit_15 ?_
    refine va_alen (D := (dC, dI)) (v := (nI N)) hx hb hK hP 32 0 rfl rfl rfl dX0_emit_18 ?_
    have zN5 : (nI N).toInt = (N : Int) := nI_N (by have := (om_1c2c49c46c zNN); omega)
    refine lv_icmp_ge (tgt := 35) hx hb dX0_emit_19 (by decide) (fun h6 => ?_) (fun h6 => ?_)
    · have z7 : (nI N).toInt ≤ (v.1 0 337).toInt := le_z rfl rfl h6
      refine lv_aload_n hx hb dX0_emit_35 rfl (lv_at hl 0 rfl) ?_
      refine lv_dup hx hb dX0_emit_36 rfl ?_
      refine va_get (D := (dC, dI)) (ci := 4) (fs := oF_X0 ad pr v) (v := .int (v.1 0 337)) (C := RX0) (T := TX0) (N := 9) hx hb ht itX0 hown hK hP 4 rfl rfl 3 (by decide) (ht _ tw_673) (fun _ h9 => h9) rfl dX0_emit_37 ?_
      refine lv_iconst (v := 1) hx hb dX0_emit_40 (by decide) ?_
      refine lv_iadd hx hb dX0_emit_41 ?_
      have z8 : ((v.1 0 337) + (1 : Int32)).toInt = ((v.1 0 337).toInt) + (1 : Int) := add_z rfl (show (1 : Int32).toInt = (1 : Int) by decide) (om_2c4918ac59 zs) (om_8f06e57a29 zs)
      refine va_put (D := (dC, dI)) (ci := 4) (fs := oF_X0 ad pr v) (v := .int ((v.1 0 337) + (1 : Int32))) (ty := .int) (C := RX0) (T := TX0) (N := 9) hx hb ht itX0 tyX0 tyX0_ok nmX0 hown hK hP hD hS 4 rfl rfl 3 (by decide) (ht _ tw_673) (fun _ h9 => h9) rfl (by decide +kernel) rfl rfl (Nat.le_of_ble_eq_true rfl) dX0_emit_42 (fun H locs hP hD hS => ?_)
      have hP := cP_ (cw_337 ad pr N cI cR L1 L2 v ((v.1 0 337) + (1 : Int32))) hP
      have hD := cD_ (cw_337 ad pr N cI cR L1 L2 v ((v.1 0 337) + (1 : Int32))) hD
      exact W.vret hx hb hr (fun t ht9 hW => ⟨⟨(wA v 0 337 ((v.1 0 337) + (1 : Int32))), rfl, ⟨(FC.f (FC.rf _) ((v.1 0 337) + (1 : Int32)) (by decide)), ⟨zs, (Or.inr (⟨z4, (Or.inl ⟨z7, rfl⟩)⟩))⟩, (show ((v.1 0 337) + (1 : Int32)).toInt = (v.1 0 337).toInt + 1 from (om_5bccfc38cf z8)), (RS.w0 RS.rf (by decide))⟩, by rw [ht9]; exact hP, hD⟩, hS.F ht9⟩) hS.2.2 dX0_emit_45
    · have z9 : (v.1 0 337).toInt < (nI N).toInt := nle_z rfl rfl h6
      refine lv_aload_n hx hb dX0_emit_22 rfl (lv_at hl 0 rfl) ?_
      refine va_get (D := (dC, dI)) (ci := 4) (fs := oF_X0 ad pr v) (v := .ref (pr (v.1 0 334))) (C := RX0) (T := TX0) (N := 9) hx hb ht itX0 hown hK hP 4 rfl rfl 0 (by decide) (ht _ tw_674) (fun _ h9 => h9) rfl dX0_emit_23 ?_
      refine W.eq (g2 := F0 m 26 ls [.ref (ad 908)]) (by rw [show pr (v.1 0 334) = (ad 908) from (by rw [show (v.1 0 334) = ps from es334]; exact hps)]) ?_
      refine va_get (D := (dC, dI)) (ci := 10) (fs := oF_X7 ad pr v) (v := .ref (ad 382)) (C := RX7) (T := TX7) (N := 13) hx hb ht itX7 hown hK hP 8 rfl rfl 10 (by decide) (ht _ tw_675) (fun _ h9 => h9) rfl dX0_emit_26 ?_
      refine lv_aload_n hx hb dX0_emit_29 rfl (lv_at hl 0 rfl) ?_
      refine va_get (D := (dC, dI)) (ci := 4) (fs := oF_X0 ad pr v) (v := .int (v.1 0 337)) (C := RX0) (T := TX0) (N := 9) hx hb ht itX0 hown hK hP 4 rfl rfl 3 (by decide) (ht _ tw_673) (fun _ h9 => h9) rfl dX0_emit_30 ?_
      refine lv_iload_n hx hb dX0_emit_33 rfl (lv_at hl 1 rfl) ?_
      refine va_iast (D := (dC, dI)) (f := (v.1 382)) hx hb hK hP hD hS 32 0 rfl rfl (in_y (a := (v.1 0 337).toInt) (b := (N : Int)) rfl (om_2fc4952110 zs) (om_267f7d2370 zN5 z9) rfl) dX0_emit_34 (fun H locs hP hD hS => ?_)
      have hP := cP_ (cq_382 ad pr N cI cR L1 L2 v ((v.1 0 337).toNatClampNeg) pa) hP
      have hD := cD_ (cq_382 ad pr N cI cR L1 L2 v ((v.1 0 337).toNatClampNeg) pa) hD
      refine lv_aload_n hx hb dX0_emit_35 rfl (lv_at hl 0 rfl) ?_
      refine lv_dup hx hb dX0_emit_36 rfl ?_
      refine va_get (D := (dC, dI)) (ci := 4) (fs := oF_X0 ad pr (wA v 382 ((v.1 0 337).toNatClampNeg) pa)) (v := .int (v.1 0 337)) (C := RX0) (T := TX0) (N := 9) hx hb ht itX0 hown hK hP 4 rfl rfl 3 (by decide) (ht _ tw_673) (fun _ h9 => h9) rfl dX0_emit_37 ?_
      refine lv_iconst (v := 1) hx hb dX0_emit_40 (by decide) ?_
      refine lv_iadd hx hb dX0_emit_41 ?_
      have z10 : ((v.1 0 337) + (1 : Int32)).toInt = (v.1 0 337).toInt + 1 := inc_lt z9
      refine va_put (D := (dC, dI)) (ci := 4) (fs := oF_X0 ad pr (wA v 382 ((v.1 0 337).toNatClampNeg) pa)) (v := .int ((v.1 0 337) + (1 : Int32))) (ty := .int) (C := RX0) (T := TX0) (N := 9) hx hb ht itX0 tyX0 tyX0_ok nmX0 hown hK hP hD hS 4 rfl rfl 3 (by decide) (ht _ tw_673) (fun _ h9 => h9) rfl (by decide +kernel) rfl rfl (Nat.le_of_ble_eq_true rfl) dX0_emit_42 (fun H locs hP hD hS => ?_)
      have hP := cP_ (cw_337 ad pr N cI cR L1 L2 (wA v 382 ((v.1 0 337).toNatClampNeg) pa) ((v.1 0 337) + (1 : Int32))) hP
      have hD := cD_ (cw_337 ad pr N cI cR L1 L2 (wA v 382 ((v.1 0 337).toNatClampNeg) pa) ((v.1 0 337) + (1 : Int32))) hD
      exact W.vret hx hb hr (fun t ht9 hW => ⟨⟨(wA (wA v 382 ((v.1 0 337).toNatClampNeg) pa) 0 337 ((v.1 0 337) + (1 : Int32))), rfl, ⟨(FC.f (FC.a (FC.rf _) ((v.1 0 337).toNatClampNeg) pa (by decide) (by decide)) ((v.1 0 337) + (1 : Int32)) (by decide)), ⟨zs, (Or.inr (⟨z4, (Or.inr (⟨z9, rfl⟩))⟩))⟩, (show ((v.1 0 337) + (1 : Int32)).toInt = (v.1 0 337).toInt + 1 from (om_0431d2536c z10)), (RS.w0 (RS.w RS.rf (by decide)) (by decide))⟩, by rw [ht9]; exact hP, hD⟩, hS.F ht9⟩) hS.2.2 dX0_emit_45
theorem om_193c31bfc5 {x0 : Int} (h0 : 0 ≤ x0 ∧ x0 + 1 ≤ 7000000) : 0 ≤ x0 ∧ x0 + 1 ≤ 7000000 := by omega
set_option maxHeartbeats 4000000 in
set_option maxRecDepth 100000 in
theorem c_x_X0_immediate (l : Launch) (dC : Nat → ClassId) (dI : Nat → Nat → Nat) (cI cB cZ cJ cR : ClassId) (tb : Nat → Nat) (sz : Nat) (ad : Nat → Nat) (pr : Int32 → Nat) (N : Nat) (L1 L2 : List Nat) (v : MS) (pa : Int32) (pb : Int32) (pc1 : Int32) (pd : Int32) (ps : Int32) (zNN : (N : Int) ≤ 4096) (hps : pr ps = ad 908) (es334 : (v.1 0 334) = ps) (zs : 0 ≤ (v.1 0 337).toInt ∧ (v.1 0 337).toInt + 1 ≤ 7000000) : Met l yX0_immediate (Cond.code yX0_immediate cX0_immediate 5 none :: tw_W) ({ frames := 1, cells := 0, slots := 0, locals := 21 }) (pc_ (dC, dI) (tyS cI cB cZ cJ cR) tb (cW ad pr N cI cR L1 L2 v) sz [.ref (ad 904), .int pa, .int pb, .int pc1, .int pd]) (qv_ (dC, dI) (cW ad pr N cI cR L1 L2 v) sz (fun (u : MS) => FC [337] [0, 382] v u ∧ (Q_x_X0_immediate L1 L2 N v pa pb pc1 pd u) ∧ ((u.1 0 337).toInt = (v.1 0 337).toInt + 1) ∧ (RS v u)) (fun (u : MS) => (cW ad pr N cI cR L1 L2 u))) 0 0 (va_A (cW ad pr N cI cR L1 L2 v) sz) := by
  refine Met.ofW (cc := cX0_immediate) (maxL := 5) (ret := none) (by decide) rfl ?_
  intro p e s m args below meth c s₁ B hml hv
  obtain ⟨rfl, hsz, hP, hKK, hD0, hFx⟩ := hv
  have hK := hKK.1
  have hx := B.exec
  have hb := B.bytes
  have hr := B.returns
  have ht : ∀ w ∈ tw_W, w.before _ s = true := fun w h => atoms_spec (ws := Cond.code yX0_immediate cX0_immediate 5 none :: tw_W) B.pre w (List.mem_cons_of_mem _ h)
  have hown : s.vm.findClass RX0 = some m.cls := findClass_of_methodNamed B.named
  have hlocks := B.notSynchronized
  subst hsz
  unfold qv_
  have hD := hD0.self (sz := s.heap.size)
  generalize hAe : va_A (cW ad pr N cI cR L1 L2 v) s.heap.size = A at hD hFx ⊢
  have hA : ∀ q : Nat, s.heap.size ≤ q → A q := fun q h => by rw [← hAe]; exact Or.inr h
  have hS : va_S A s.heap s.heap [] := va_S.rf
  have hl := lv_entry ([.ref (ad 904), .int pa, .int pb, .int pc1, .int pd]) (n := 5) (Nat.le_of_ble_eq_true rfl)
  rw [lg_entry_eq]
  generalize (lg_sl ([.ref (ad 904), .int pa, .int pb, .int pc1, .int pd]) ++ List.replicate (5 - (lg_sl ([.ref (ad 904), .int pa, .int pb, .int pc1, .int pd])).length) Slot.unset).toArray = ls at hl ⊢
  have hl : lv_has ls 5 [(0, .ref (ad 904)), (1, .int pa), (2, .int pb), (3, .int pc1), (4, .int pd)] := hl
  refine lv_aload_n hx hb dX0_immediate_0 rfl (lv_at hl 0 rfl) ?_
  refine lv_iload_n hx hb dX0_immediate_1 rfl (lv_at hl 1 rfl) ?_
  refine lv_iload_n hx hb dX0_immediate_2 rfl (lv_at hl 2 rfl) ?_
  refine lv_bipush (v := 7) hx hb dX0_immediate_3 (by decide) ?_
  refine lv_ishl hx hb dX0_immediate_5 ?_
  refine lv_ior hx hb dX0_immediate_6 ?_
  refine lv_iload_n hx hb dX0_immediate_7 rfl (lv_at hl 3 rfl) ?_
  refine lv_bipush (v := 15) hx hb dX0_immediate_8 (by decide) ?_
  refine lv_ishl hx hb dX0_immediate_10 ?_
  refine lv_ior hx hb dX0_immediate_11 ?_
  refine lv_iload hx hb dX0_immediate_12 (lv_at hl 4 rfl) ?_
  refine lv_bipush (v := 20) hx hb dX0_immediate_14 (by decide) ?_
  refine lv_ishl hx hb dX0_immediate_16 ?_
  refine lv_ior hx hb dX0_immediate_17 ?_
  refine cu_v (rn_Vk (n := 1) (As := [.int (((pa ||| (pb <<< ((7 : Int32) &&& 31))) ||| (pc1 <<< ((15 : Int32) &&& 31))) ||| (pd <<< ((20 : Int32) &&& 31)))]) (rest := []) hx hb hml hown ht hKK hFx hP hD hS hA (c_x_X0_emit l dC dI cI cB cZ cJ cR tb s.heap.size ad pr N L1 L2 v (((pa ||| (pb <<< ((7 : Int32) &&& 31))) ||| (pc1 <<< ((15 : Int32) &&& 31))) ||| (pd <<< ((20 : Int32) &&& 31))) ps (show (N : Int) ≤ 4096 from (om_1c2c49c46c zNN)) (show pr ps = ad 908 from hps) (show (v.1 0 334) = ps from es334) (show 0 ≤ (v.1 0 337).toInt ∧ (v.1 0 337).toInt + 1 ≤ 7000000 from (om_193c31bfc5 zs))) tw_676 tw_677 (by decide +kernel) rfl rfl ⟨Nat.le_of_ble_eq_true rfl, Nat.le_of_ble_eq_true rfl⟩ (List.range (cW ad pr N cI cR L1 L2 v).length) (rg_map _) (nd_range _) 4 rfl rfl rfl rfl hl.1 rfl (Nat.le_of_ble_eq_true rfl) dX0_immediate_18 ⟨Nat.le_of_ble_eq_true rfl, Nat.le_of_ble_eq_true rfl⟩) hP hD hS hA (fun u2 H locs hw1 hP hD hS => ?_)
  obtain ⟨fr1, ex1, pz1, rs1⟩ := hw1
  refine W.widen (k := 0) (n := 0) (Nat.le_refl _) (Nat.le_refl _) ?_
  exact W.vret hx hb hr (fun t ht9 hW => ⟨⟨u2, rfl, ⟨(FC.tr (FC.rf _) (FC.up fr1 (by decide) (by decide))), ⟨zs, u2, ex1, ⟨fr1, pz1, rs1⟩, rfl⟩, (show (u2.1 0 337).toInt = (v.1 0 337).toInt + 1 from (om_0431d2536c pz1)), (RS.tr RS.rf rs1)⟩, by rw [ht9]; exact hP, hD⟩, hS.F ht9⟩) hS.2.2 dX0_immediate_21
set_option maxHeartbeats 4000000 in
set_option maxRecDepth 100000 in
theorem c_x_X0_three (l : Launch) (dC : Nat → ClassId) (dI : Nat → Nat → Nat) (cI cB cZ cJ cR : ClassId) (tb : Nat → Nat) (sz : Nat) (ad : Nat → Nat) (pr : Int32 → Nat) (N : Nat) (L1 L2 : List Nat) (v : MS) (pa : Int32) (pb : Int32) (pc1 : Int32) (pd : Int32) (ps : Int32) (zNN : (N : Int) ≤ 4096) (hps : pr ps = ad 908) (es334 : (v.1 0 334) = ps) (zs : 0 ≤ (v.1 0 337).toInt ∧ (v.1 0 337).toInt + 1 ≤ 7000000) : Met l yX0_three (Cond.code yX0_three cX0_three 5 none :: tw_W) ({ frames := 1, cells := 0, slots := 0, locals := 21 }) (pc_ (dC, dI) (tyS cI cB cZ cJ cR) tb (cW ad pr N cI cR L1 L2 v) sz [.ref (ad 904), .int pa, .int pb, .int pc1, .int pd]) (qv_ (dC, dI) (cW ad pr N cI cR L1 L2 v) sz (fun (u : MS) => FC [337] [0, 382] v u ∧ (Q_x_X0_three L1 L2 N v pa pb pc1 pd u) ∧ ((u.1 0 337).toInt = (v.1 0 337).toInt + 1) ∧ (RS v u)) (fun (u : MS) => (cW ad pr N cI cR L1 L2 u))) 0 0 (va_A (cW ad pr N cI cR L1 L2 v) sz) := by
  refine Met.ofW (cc := cX0_three) (maxL := 5) (ret := none) (by decide) rfl ?_
  intro p e s m args below meth c s₁ B hml hv
  obtain ⟨rfl, hsz, hP, hKK, hD0, hFx⟩ := hv
  have hK := hKK.1
  have hx := B.exec
  have hb := B.bytes
  have hr := B.returns
  have ht : ∀ w ∈ tw_W, w.before _ s = true := fun w h => atoms_spec (ws := Cond.code yX0_three cX0_three 5 none :: tw_W) B.pre w (List.mem_cons_of_mem _ h)
  have hown : s.vm.findClass RX0 = some m.cls := findClass_of_methodNamed B.named
  have hlocks := B.notSynchronized
  subst hsz
  unfold qv_
  have hD := hD0.self (sz := s.heap.size)
  generalize hAe : va_A (cW ad pr N cI cR L1 L2 v) s.heap.size = A at hD hFx ⊢
  have hA : ∀ q : Nat, s.heap.size ≤ q → A q := fun q h => by rw [← hAe]; exact Or.inr h
  have hS : va_S A s.heap s.heap [] := va_S.rf
  have hl := lv_entry ([.ref (ad 904), .int pa, .int pb, .int pc1, .int pd]) (n := 5) (Nat.le_of_ble_eq_true rfl)
  rw [lg_entry_eq]
  generalize (lg_sl ([.ref (ad 904), .int pa, .int pb, .int pc1, .int pd]) ++ List.replicate (5 - (lg_sl ([.ref (ad 904), .int pa, .int pb, .int pc1, .int pd])).length) Slot.unset).toArray = ls at hl ⊢
  have hl : lv_has ls 5 [(0, .ref (ad 904)), (1, .int pa), (2, .int pb), (3, .int pc1), (4, .int pd)] := hl
  refine lv_aload_n hx hb dX0_three_0 rfl (lv_at hl 0 rfl) ?_
  refine lv_iload_n hx hb dX0_three_1 rfl (lv_at hl 1 rfl) ?_
  refine lv_iload_n hx hb dX0_three_2 rfl (lv_at hl 2 rfl) ?_
  refine lv_bipush (v := 7) hx hb dX0_three_3 (by decide) ?_
  refine lv_ishl hx hb dX0_three_5 ?_
  refine lv_ior hx hb dX0_three_6 ?_
  refine lv_iload_n hx hb dX0_three_7 rfl (lv_at hl 3 rfl) ?_
  refine lv_bipush (v := 15) hx hb dX0_three_8 (by decide) ?_
  refine lv_ishl hx hb dX0_three_10 ?_
  refine lv_ior hx hb dX0_three_11 ?_
  refine lv_iload hx hb dX0_three_12 (lv_at hl 4 rfl) ?_
  refine lv_bipush (v := 20) hx hb dX0_three_14 (by decide) ?_
  refine lv_ishl hx hb dX0_three_16 ?_
  refine lv_ior hx hb dX0_three_17 ?_
  refine cu_v (rn_Vk (n := 1) (As := [.int (((pa ||| (pb <<< ((7 : Int32) &&& 31))) ||| (pc1 <<< ((15 : Int32) &&& 31))) ||| (pd <<< ((20 : Int32) &&& 31)))]) (rest := []) hx hb hml hown ht hKK hFx hP hD hS hA (c_x_X0_emit l dC dI cI cB cZ cJ cR tb s.heap.size ad pr N L1 L2 v (((pa ||| (pb <<< ((7 : Int32) &&& 31))) ||| (pc1 <<< ((15 : Int32) &&& 31))) ||| (pd <<< ((20 : Int32) &&& 31))) ps (show (N : Int) ≤ 4096 from (om_1c2c49c46c zNN)) (show pr ps = ad 908 from hps) (show (v.1 0 334) = ps from es334) (show 0 ≤ (v.1 0 337).toInt ∧ (v.1 0 337).toInt + 1 ≤ 7000000 from (om_193c31bfc5 zs))) tw_676 tw_677 (by decide +kernel) rfl rfl ⟨Nat.le_of_ble_eq_true rfl, Nat.le_of_ble_eq_true rfl⟩ (List.range (cW ad pr N cI cR L1 L2 v).length) (rg_map _) (nd_range _) 4 rfl rfl rfl rfl hl.1 rfl (Nat.le_of_ble_eq_true rfl) dX0_three_18 ⟨Nat.le_of_ble_eq_true rfl, Nat.le_of_ble_eq_true rfl⟩) hP hD hS hA (fun u2 H locs hw1 hP hD hS => ?_)
  obtain ⟨fr1, ex1, pz1, rs1⟩ := hw1
  refine W.widen (k := 0) (n := 0) (Nat.le_refl _) (Nat.le_refl _) ?_
  exact W.vret hx hb hr (fun t ht9 hW => ⟨⟨u2, rfl, ⟨(FC.tr (FC.rf _) (FC.up fr1 (by decide) (by decide))), ⟨zs, u2, ex1, ⟨fr1, pz1, rs1⟩, rfl⟩, (show (u2.1 0 337).toInt = (v.1 0 337).toInt + 1 from (om_0431d2536c pz1)), (RS.tr RS.rf rs1)⟩, by rw [ht9]; exact hP, hD⟩, hS.F ht9⟩) hS.2.2 dX0_three_21
set_option maxHeartbeats 4000000 in
set_option maxRecDepth 100000 in
theorem c_x_X0_storeWord (l : Launch) (dC : Nat → ClassId) (dI : Nat → Nat → Nat) (cI cB cZ cJ cR : ClassId) (tb : Nat → Nat) (sz : Nat) (ad : Nat → Nat) (pr : Int32 → Nat) (N : Nat) (L1 L2 : List Nat) (v : MS) (pa : Int32) (pb : Int32) (pc1 : Int32) (ps : Int32) (zNN : (N : Int) ≤ 4096) (hps : pr ps = ad 908) (es334 : (v.1 0 334) = ps) (zs : 0 ≤ (v.1 0 337).toInt ∧ (v.1 0 337).toInt + 1 ≤ 7000000) : Met l yX0_storeWord (Cond.code yX0_storeWord cX0_storeWord 4 none :: tw_W) ({ frames := 1, cells := 0, slots := 0, locals := 21 }) (pc_ (dC, dI) (tyS cI cB cZ cJ cR) tb (cW ad pr N cI cR L1 L2 v) sz [.ref (ad 904), .int pa, .int pb, .int pc1]) (qv_ (dC, dI) (cW ad pr N cI cR L1 L2 v) sz (fun (u : MS) => FC [337] [0, 382] v u ∧ (Q_x_X0_storeWord L1 L2 N v pa pb pc1 u) ∧ ((u.1 0 337).toInt = (v.1 0 337).toInt + 1) ∧ (RS v u)) (fun (u : MS) => (cW ad pr N cI cR L1 L2 u))) 0 0 (va_A (cW ad pr N cI cR L1 L2 v) sz) := by
  refine Met.ofW (cc := cX0_storeWord) (maxL := 4) (ret := none) (by decide) rfl ?_
  intro p e s m args below meth c s₁ B hml hv
  obtain ⟨rfl, hsz, hP, hKK, hD0, hFx⟩ := hv
  have hK := hKK.1
  have hx := B.exec
  have hb := B.bytes
  have hr := B.returns
  have ht : ∀ w ∈ tw_W, w.before _ s = true := fun w h => atoms_spec (ws := Cond.code yX0_storeWord cX0_storeWord 4 none :: tw_W) B.pre w (List.mem_cons_of_mem _ h)
  have hown : s.vm.findClass RX0 = some m.cls := findClass_of_methodNamed B.named
  have hlocks := B.notSynchronized
  subst hsz
  unfold qv_
  have hD := hD0.self (sz := s.heap.size)
  generalize hAe : va_A (cW ad pr N cI cR L1 L2 v) s.heap.size = A at hD hFx ⊢
  have hA : ∀ q : Nat, s.heap.size ≤ q → A q := fun q h => by rw [← hAe]; exact Or.inr h
  have hS : va_S A s.heap s.heap [] := va_S.rf
  have hl := lv_entry ([.ref (ad 904), .int pa, .int pb, .int pc1]) (n := 4) (Nat.le_of_ble_eq_true rfl)
  rw [lg_entry_eq]
  generalize (lg_sl ([.ref (ad 904), .int pa, .int pb, .int pc1]) ++ List.replicate (4 - (lg_sl ([.ref (ad 904), .int pa, .int pb, .int pc1])).length) Slot.unset).toArray = ls at hl ⊢
  have hl : lv_has ls 4 [(0, .ref (ad 904)), (1, .int pa), (2, .int pb), (3, .int pc1)] := hl
  refine lv_aload_n hx hb dX0_storeWord_0 rfl (lv_at hl 0 rfl) ?_
  refine lv_sipush (v := 8227) hx hb dX0_storeWord_1 (by decide) ?_
  refine lv_iload_n hx hb dX0_storeWord_4 rfl (lv_at hl 2 rfl) ?_
  refine lv_bipush (v := 31) hx hb dX0_storeWord_5 (by decide) ?_
  refine lv_iand hx hb dX0_storeWord_7 ?_
  refine lv_bipush (v := 7) hx hb dX0_storeWord_8 (by decide) ?_
  refine lv_ishl hx hb dX0_storeWord_10 ?_
  refine lv_ior hx hb dX0_storeWord_11 ?_
  refine lv_iload_n hx hb dX0_storeWord_12 rfl (lv_at hl 3 rfl) ?_
  refine lv_bipush (v := 15) hx hb dX0_storeWord_13 (by decide) ?_
  refine lv_ishl hx hb dX0_storeWord_15 ?_
  refine lv_ior hx hb dX0_storeWord_16 ?_
  refine lv_iload_n hx hb dX0_storeWord_17 rfl (lv_at hl 1 rfl) ?_
  refine lv_bipush (v := 20) hx hb dX0_storeWord_18 (by decide) ?_
  refine lv_ishl hx hb dX0_storeWord_20 ?_
  refine lv_ior hx hb dX0_storeWord_21 ?_
  refine lv_iload_n hx hb dX0_storeWord_22 rfl (lv_at hl 2 rfl) ?_
  refine lv_iconst (v := 5) hx hb dX0_storeWord_23 (by decide) ?_
  refine lv_ishr hx hb dX0_storeWord_24 ?_
  refine lv_bipush (v := 25) hx hb dX0_storeWord_25 (by decide) ?_
  refine lv_ishl hx hb dX0_storeWord_27 ?_
  refine lv_ior hx hb dX0_storeWord_28 ?_
  refine cu_v (rn_Vk (n := 1) (As := [.int (((((8227 : Int32) ||| ((pb &&& (31 : Int32)) <<< ((7 : Int32) &&& 31))) ||| (pc1 <<< ((15 : Int32) &&& 31))) ||| (pa <<< ((20 : Int32) &&& 31))) ||| ((pb >>> ((5 : Int32) &&& 31)) <<< ((25 : Int32) &&& 31)))]) (rest := []) hx hb hml hown ht hKK hFx hP hD hS hA (c_x_X0_emit l dC dI cI cB cZ cJ cR tb s.heap.size ad pr N L1 L2 v (((((8227 : Int32) ||| ((pb &&& (31 : Int32)) <<< ((7 : Int32) &&& 31))) ||| (pc1 <<< ((15 : Int32) &&& 31))) ||| (pa <<< ((20 : Int32) &&& 31))) ||| ((pb >>> ((5 : Int32) &&& 31)) <<< ((25 : Int32) &&& 31))) ps (show (N : Int) ≤ 4096 from (om_1c2c49c46c zNN)) (show pr ps = ad 908 from hps) (show (v.1 0 334) = ps from es334) (show 0 ≤ (v.1 0 337).toInt ∧ (v.1 0 337).toInt + 1 ≤ 7000000 from (om_193c31bfc5 zs))) tw_676 tw_677 (by decide +kernel) rfl rfl ⟨Nat.le_of_ble_eq_true rfl, Nat.le_of_ble_eq_true rfl⟩ (List.range (cW ad pr N cI cR L1 L2 v).length) (rg_map _) (nd_range _) 4 rfl rfl rfl rfl hl.1 rfl (Nat.le_of_ble_eq_true rfl) dX0_storeWord_29 ⟨Nat.le_of_ble_eq_true rfl, Nat.le_of_ble_eq_true rfl⟩) hP hD hS hA (fun u2 H locs hw1 hP hD hS => ?_)
  obtain ⟨fr1, ex1, pz1, rs1⟩ := hw1
  refine W.widen (k := 0) (n := 0) (Nat.le_refl _) (Nat.le_refl _) ?_
  exact W.vret hx hb hr (fun t ht9 hW => ⟨⟨u2, rfl, ⟨(FC.tr (FC.rf _) (FC.up fr1 (by decide) (by decide))), ⟨zs, u2, ex1, ⟨fr1, pz1, rs1⟩, rfl⟩, (show (u2.1 0 337).toInt = (v.1 0 337).toInt + 1 from (om_0431d2536c pz1)), (RS.tr RS.rf rs1)⟩, by rw [ht9]; exact hP, hD⟩, hS.F ht9⟩) hS.2.2 dX0_storeWord_32
set_option maxHeartbeats 4000000 in
set_option maxRecDepth 100000 in
theorem c_x_X0_branch (l : Launch) (dC : Nat → ClassId) (dI : Nat → Nat → Nat) (cI cB cZ cJ cR : ClassId) (tb : Nat → Nat) (sz : Nat) (ad : Nat → Nat) (pr : Int32 → Nat) (N : Nat) (L1 L2 : List Nat) (v : MS) (pa : Int32) (pb : Int32) (pc1 : Int32) (pd : Int32) (ps : Int32) (zNN : (N : Int) ≤ 4096) (hps : pr ps = ad 908) (es334 : (v.1 0 334) = ps) (zs : 0 ≤ (v.1 0 337).toInt ∧ (v.1 0 337).toInt + 1 ≤ 7000000) : Met l yX0_branch (Cond.code yX0_branch cX0_branch 5 none :: tw_W) ({ frames := 1, cells := 0, slots := 0, locals := 21 }) (pc_ (dC, dI) (tyS cI cB cZ cJ cR) tb (cW ad pr N cI cR L1 L2 v) sz [.ref (ad 904), .int pa, .int pb, .int pc1, .int pd]) (qv_ (dC, dI) (cW ad pr N cI cR L1 L2 v) sz (fun (u : MS) => FC [337] [0, 382] v u ∧ (Q_x_X0_branch L1 L2 N v pa pb pc1 pd u) ∧ ((u.1 0 337).toInt = (v.1 0 337).toInt + 1) ∧ (RS v u)) (fun (u : MS) => (cW ad pr N cI cR L1 L2 u))) 0 0 (va_A (cW ad pr N cI cR L1 L2 v) sz) := by
  refine Met.ofW (cc := cX0_branch) (maxL := 5) (ret := none) (by decide) rfl ?_
  intro p e s m args below meth c s₁ B hml hv
  obtain ⟨rfl, hsz, hP, hKK, hD0, hFx⟩ := hv
  have hK := hKK.1
  have hx := B.exec
  have hb := B.bytes
  have hr := B.returns
  have ht : ∀ w ∈ tw_W, w.before _ s = true := fun w h => atoms_spec (ws := Cond.code yX0_branch cX0_branch 5 none :: tw_W) B.pre w (List.mem_cons_of_mem _ h)
  have hown : s.vm.findClass RX0 = some m.cls := findClass_of_methodNamed B.named
  have hlocks := B.notSynchronized
  subst hsz
  unfold qv_
  have hD := hD0.self (sz := s.heap.size)
  generalize hAe : va_A (cW ad pr N cI cR L1 L2 v) s.heap.size = A at hD hFx ⊢
  have hA : ∀ q : Nat, s.heap.size ≤ q → A q := fun q h => by rw [← hAe]; exact Or.inr h
  have hS : va_S A s.heap s.heap [] := va_S.rf
  have hl := lv_entry ([.ref (ad 904), .int pa, .int pb, .int pc1, .int pd]) (n := 5) (Nat.le_of_ble_eq_true rfl)
  rw [lg_entry_eq]
  generalize (lg_sl ([.ref (ad 904), .int pa, .int pb, .int pc1, .int pd]) ++ List.replicate (5 - (lg_sl ([.ref (ad 904), .int pa, .int pb, .int pc1, .int pd])).length) Slot.unset).toArray = ls at hl ⊢
  have hl : lv_has ls 5 [(0, .ref (ad 904)), (1, .int pa), (2, .int pb), (3, .int pc1), (4, .int pd)] := hl
  refine lv_aload_n hx hb dX0_branch_0 rfl (lv_at hl 0 rfl) ?_
  refine lv_iload_n hx hb dX0_branch_1 rfl (lv_at hl 1 rfl) ?_
  refine lv_iload hx hb dX0_branch_2 (lv_at hl 4 rfl) ?_
  refine lv_bipush (v := 11) hx hb dX0_branch_4 (by decide) ?_
  refine lv_ishr hx hb dX0_branch_6 ?_
  refine lv_iconst (v := 1) hx hb dX0_branch_7 (by decide) ?_
  refine lv_iand hx hb dX0_branch_8 ?_
  refine lv_bipush (v := 7) hx hb dX0_branch_9 (by decide) ?_
  refine lv_ishl hx hb dX0_branch_11 ?_
  refine lv_ior hx hb dX0_branch_12 ?_
  refine lv_iload hx hb dX0_branch_13 (lv_at hl 4 rfl) ?_
  refine lv_iconst (v := 1) hx hb dX0_branch_15 (by decide) ?_
  refine lv_ishr hx hb dX0_branch_16 ?_
  refine lv_bipush (v := 15) hx hb dX0_branch_17 (by decide) ?_
  refine lv_iand hx hb dX0_branch_19 ?_
  refine lv_bipush (v := 8) hx hb dX0_branch_20 (by decide) ?_
  refine lv_ishl hx hb dX0_branch_22 ?_
  refine lv_ior hx hb dX0_branch_23 ?_
  refine lv_iload_n hx hb dX0_branch_24 rfl (lv_at hl 2 rfl) ?_
  refine lv_bipush (v := 15) hx hb dX0_branch_25 (by decide) ?_
  refine lv_ishl hx hb dX0_branch_27 ?_
  refine lv_ior hx hb dX0_branch_28 ?_
  refine lv_iload_n hx hb dX0_branch_29 rfl (lv_at hl 3 rfl) ?_
  refine lv_bipush (v := 20) hx hb dX0_branch_30 (by decide) ?_
  refine lv_ishl hx hb dX0_branch_32 ?_
  refine lv_ior hx hb dX0_branch_33 ?_
  refine lv_iload hx hb dX0_branch_34 (lv_at hl 4 rfl) ?_
  refine lv_iconst (v := 5) hx hb dX0_branch_36 (by decide) ?_
  refine lv_ishr hx hb dX0_branch_37 ?_
  refine lv_bipush (v := 63) hx hb dX0_branch_38 (by decide) ?_
  refine lv_iand hx hb dX0_branch_40 ?_
  refine lv_bipush (v := 25) hx hb dX0_branch_41 (by decide) ?_
  refine lv_ishl hx hb dX0_branch_43 ?_
  refine lv_ior hx hb dX0_branch_44 ?_
  refine lv_iload hx hb dX0_branch_45 (lv_at hl 4 rfl) ?_
  refine lv_bipush (v := 12) hx hb dX0_branch_47 (by decide) ?_
  refine lv_ishr hx hb dX0_branch_49 ?_
  refine lv_bipush (v := 31) hx hb dX0_branch_50 (by decide) ?_
  refine lv_ishl hx hb dX0_branch_52 ?_
  refine lv_ior hx hb dX0_branch_53 ?_
  refine cu_v (rn_Vk (n := 1) (As := [.int ((((((pa ||| (((pd >>> ((11 : Int32) &&& 31)) &&& (1 : Int32)) <<< ((7 : Int32) &&& 31))) ||| (((pd >>> ((1 : Int32) &&& 31)) &&& (15 : Int32)) <<< ((8 : Int32) &&& 31))) ||| (pb <<< ((15 : Int32) &&& 31))) ||| (pc1 <<< ((20 : Int32) &&& 31))) ||| (((pd >>> ((5 : Int32) &&& 31)) &&& (63 : Int32)) <<< ((25 : Int32) &&& 31))) ||| ((pd >>> ((12 : Int32) &&& 31)) <<< ((31 : Int32) &&& 31)))]) (rest := []) hx hb hml hown ht hKK hFx hP hD hS hA (c_x_X0_emit l dC dI cI cB cZ cJ cR tb s.heap.size ad pr N L1 L2 v ((((((pa ||| (((pd >>> ((11 : Int32) &&& 31)) &&& (1 : Int32)) <<< ((7 : Int32) &&& 31))) ||| (((pd >>> ((1 : Int32) &&& 31)) &&& (15 : Int32)) <<< ((8 : Int32) &&& 31))) ||| (pb <<< ((15 : Int32) &&& 31))) ||| (pc1 <<< ((20 : Int32) &&& 31))) ||| (((pd >>> ((5 : Int32) &&& 31)) &&& (63 : Int32)) <<< ((25 : Int32) &&& 31))) ||| ((pd >>> ((12 : Int32) &&& 31)) <<< ((31 : Int32) &&& 31))) ps (show (N : Int) ≤ 4096 from (om_1c2c49c46c zNN)) (show pr ps = ad 908 from hps) (show (v.1 0 334) = ps from es334) (show 0 ≤ (v.1 0 337).toInt ∧ (v.1 0 337).toInt + 1 ≤ 7000000 from (om_193c31bfc5 zs))) tw_676 tw_677 (by decide +kernel) rfl rfl ⟨Nat.le_of_ble_eq_true rfl, Nat.le_of_ble_eq_true rfl⟩ (List.range (cW ad pr N cI cR L1 L2 v).length) (rg_map _) (nd_range _) 4 rfl rfl rfl rfl hl.1 rfl (Nat.le_of_ble_eq_true rfl) dX0_branch_54 ⟨Nat.le_of_ble_eq_true rfl, Nat.le_of_ble_eq_true rfl⟩) hP hD hS hA (fun u2 H locs hw1 hP hD hS => ?_)
  obtain ⟨fr1, ex1, pz1, rs1⟩ := hw1
  refine W.widen (k := 0) (n := 0) (Nat.le_refl _) (Nat.le_refl _) ?_
  exact W.vret hx hb hr (fun t ht9 hW => ⟨⟨u2, rfl, ⟨(FC.tr (FC.rf _) (FC.up fr1 (by decide) (by decide))), ⟨zs, u2, ex1, ⟨fr1, pz1, rs1⟩, rfl⟩, (show (u2.1 0 337).toInt = (v.1 0 337).toInt + 1 from (om_0431d2536c pz1)), (RS.tr RS.rf rs1)⟩, by rw [ht9]; exact hP, hD⟩, hS.F ht9⟩) hS.2.2 dX0_branch_57
set_option maxHeartbeats 4000000 in
set_option maxRecDepth 100000 in
theorem c_x_X0_upper (l : Launch) (dC : Nat → ClassId) (dI : Nat → Nat → Nat) (cI cB cZ cJ cR : ClassId) (tb : Nat → Nat) (sz : Nat) (ad : Nat → Nat) (pr : Int32 → Nat) (N : Nat) (L1 L2 : List Nat) (v : MS) (pa : Int32) (pb : Int32) (ps : Int32) (zNN : (N : Int) ≤ 4096) (hps : pr ps = ad 908) (es334 : (v.1 0 334) = ps) (zs : 0 ≤ (v.1 0 337).toInt ∧ (v.1 0 337).toInt + 1 ≤ 7000000) : Met l yX0_upper (Cond.code yX0_upper cX0_upper 3 none :: tw_W) ({ frames := 1, cells := 0, slots := 0, locals := 21 }) (pc_ (dC, dI) (tyS cI cB cZ cJ cR) tb (cW ad pr N cI cR L1 L2 v) sz [.ref (ad 904), .int pa, .int pb]) (qv_ (dC, dI) (cW ad pr N cI cR L1 L2 v) sz (fun (u : MS) => FC [337] [0, 382] v u ∧ (Q_x_X0_upper L1 L2 N v pa pb u) ∧ ((u.1 0 337).toInt = (v.1 0 337).toInt + 1) ∧ (RS v u)) (fun (u : MS) => (cW ad pr N cI cR L1 L2 u))) 0 0 (va_A (cW ad pr N cI cR L1 L2 v) sz) := by
  refine Met.ofW (cc := cX0_upper) (maxL := 3) (ret := none) (by decide) rfl ?_
  intro p e s m args below meth c s₁ B hml hv
  obtain ⟨rfl, hsz, hP, hKK, hD0, hFx⟩ := hv
  have hK := hKK.1
  have hx := B.exec
  have hb := B.bytes
  have hr := B.returns
  have ht : ∀ w ∈ tw_W, w.before _ s = true := fun w h => atoms_spec (ws := Cond.code yX0_upper cX0_upper 3 none :: tw_W) B.pre w (List.mem_cons_of_mem _ h)
  have hown : s.vm.findClass RX0 = some m.cls := findClass_of_methodNamed B.named
  have hlocks := B.notSynchronized
  subst hsz
  unfold qv_
  have hD := hD0.self (sz := s.heap.size)
  generalize hAe : va_A (cW ad pr N cI cR L1 L2 v) s.heap.size = A at hD hFx ⊢
  have hA : ∀ q : Nat, s.heap.size ≤ q → A q := fun q h => by rw [← hAe]; exact Or.inr h
  have hS : va_S A s.heap s.heap [] := va_S.rf
  have hl := lv_entry ([.ref (ad 904), .int pa, .int pb]) (n := 3) (Nat.le_of_ble_eq_true rfl)
  rw [lg_entry_eq]
  generalize (lg_sl ([.ref (ad 904), .int pa, .int pb]) ++ List.replicate (3 - (lg_sl ([.ref (ad 904), .int pa, .int pb])).length) Slot.unset).toArray = ls at hl ⊢
  have hl : lv_has ls 3 [(0, .ref (ad 904)), (1, .int pa), (2, .int pb)] := hl
  refine lv_aload_n hx hb dX0_upper_0 rfl (lv_at hl 0 rfl) ?_
  refine lv_bipush (v := 55) hx hb dX0_upper_1 (by decide) ?_
  refine lv_iload_n hx hb dX0_upper_3 rfl (lv_at hl 1 rfl) ?_
  refine lv_bipush (v := 7) hx hb dX0_upper_4 (by decide) ?_
  refine lv_ishl hx hb dX0_upper_6 ?_
  refine lv_ior hx hb dX0_upper_7 ?_
  refine lv_iload_n hx hb dX0_upper_8 rfl (lv_at hl 2 rfl) ?_
  refine cu_s (nd_range _) (rn_S (n := 1) (As := [.int pb]) (rest := [.int ((55 : Int32) ||| (pa <<< ((7 : Int32) &&& 31))), .ref (ad 904)]) hx hb hml hown ht hKK hFx hP hD hS hA (c_x_X0_high l dC dI cI cB cZ cJ cR tb s.heap.size pb ) tw_670 tw_671 (by decide +kernel) rfl rfl ⟨Nat.le_of_ble_eq_true rfl, Nat.le_of_ble_eq_true rfl⟩ [] rfl rfl rfl hl.1 rfl (Nat.le_of_ble_eq_true rfl) dX0_upper_9 ⟨Nat.le_of_ble_eq_true rfl, Nat.le_of_ble_eq_true rfl⟩) hP hD hS hA (fun r3 H locs hw1 hP hD hS => ?_)
  have ex1 := hw1
  refine W.widen (k := 0) (n := 0) (Nat.le_refl _) (Nat.le_refl _) ?_
  refine lv_bipush (v := 12) hx hb dX0_upper_12 (by decide) ?_
  refine lv_ishl hx hb dX0_upper_14 ?_
  refine lv_ior hx hb dX0_upper_15 ?_
  refine cu_v (rn_Vk (n := 1) (As := [.int (((55 : Int32) ||| (pa <<< ((7 : Int32) &&& 31))) ||| (r3 <<< ((12 : Int32) &&& 31)))]) (rest := []) hx hb hml hown ht hKK hFx hP hD hS hA (c_x_X0_emit l dC dI cI cB cZ cJ cR tb H.size ad pr N L1 L2 v (((55 : Int32) ||| (pa <<< ((7 : Int32) &&& 31))) ||| (r3 <<< ((12 : Int32) &&& 31))) ps (show (N : Int) ≤ 4096 from (om_1c2c49c46c zNN)) (show pr ps = ad 908 from hps) (show (v.1 0 334) = ps from es334) (show 0 ≤ (v.1 0 337).toInt ∧ (v.1 0 337).toInt + 1 ≤ 7000000 from (om_193c31bfc5 zs))) tw_676 tw_677 (by decide +kernel) rfl rfl ⟨Nat.le_of_ble_eq_true rfl, Nat.le_of_ble_eq_true rfl⟩ (List.range (cW ad pr N cI cR L1 L2 v).length) (rg_map _) (nd_range _) 4 rfl rfl rfl rfl hl.1 rfl (Nat.le_of_ble_eq_true rfl) dX0_upper_16 ⟨Nat.le_of_ble_eq_true rfl, Nat.le_of_ble_eq_true rfl⟩) hP hD hS hA (fun u5 H locs hw4 hP hD hS => ?_)
  obtain ⟨fr4, ex4, pz4, rs4⟩ := hw4
  refine W.widen (k := 0) (n := 0) (Nat.le_refl _) (Nat.le_refl _) ?_
  exact W.vret hx hb hr (fun t ht9 hW => ⟨⟨u5, rfl, ⟨(FC.tr (FC.rf _) (FC.up fr4 (by decide) (by decide))), ⟨zs, r3, ex1, u5, ex4, ⟨fr4, pz4, rs4⟩, rfl⟩, (show (u5.1 0 337).toInt = (v.1 0 337).toInt + 1 from (om_0431d2536c pz4)), (RS.tr RS.rf rs4)⟩, by rw [ht9]; exact hP, hD⟩, hS.F ht9⟩) hS.2.2 dX0_upper_19
theorem om_dc978cf154 {x0 : Int} (h0 : 0 ≤ x0 ∧ x0 + 1 ≤ 7000000) : -2147483648 ≤ (4 : Int) * (x0) := by omega
theorem om_bd873b6952 {x0 : Int} (h0 : 0 ≤ x0 ∧ x0 + 1 ≤ 7000000) : (4 : Int) * (x0) < 2147483648 := by omega
set_option maxHeartbeats 4000000 in
set_option maxRecDepth 100000 in
theorem c_x_X0_jump (l : Launch) (dC : Nat → ClassId) (dI : Nat → Nat → Nat) (cI cB cZ cJ cR : ClassId) (tb : Nat → Nat) (sz : Nat) (ad : Nat → Nat) (pr : Int32 → Nat) (N : Nat) (L1 L2 : List Nat) (v : MS) (pa : Int32) (pb : Int32) (ps : Int32) (zNN : (N : Int) ≤ 4096) (hps : pr ps = ad 908) (es334 : (v.1 0 334) = ps) (zs : 0 ≤ (v.1 0 337).toInt ∧ (v.1 0 337).toInt + 1 ≤ 7000000) : Met l yX0_jump (Cond.code yX0_jump cX0_jump 4 none :: tw_W) ({ frames := 1, cells := 0, slots := 0, locals := 21 }) (pc_ (dC, dI) (tyS cI cB cZ cJ cR) tb (cW ad pr N cI cR L1 L2 v) sz [.ref (ad 904), .int pa, .int pb]) (qv_ (dC, dI) (cW ad pr N cI cR L1 L2 v) sz (fun (u : MS) => FC [337] [0, 382] v u ∧ (Q_x_X0_jump L1 L2 N v pa pb u) ∧ ((u.1 0 337).toInt = (v.1 0 337).toInt + 1) ∧ (RS v u)) (fun (u : MS) => (cW ad pr N cI cR L1 L2 u))) 0 0 (va_A (cW ad pr N cI cR L1 L2 v) sz) := by
  refine Met.ofW (cc := cX0_jump) (maxL := 4) (ret := none) (by decide) rfl ?_
  intro p e s m args below meth c s₁ B hml hv
  obtain ⟨rfl, hsz, hP, hKK, hD0, hFx⟩ := hv
  have hK := hKK.1
  have hx := B.exec
  have hb := B.bytes
  have hr := B.returns
  have ht : ∀ w ∈ tw_W, w.before _ s = true := fun w h => atoms_spec (ws := Cond.code yX0_jump cX0_jump 4 none :: tw_W) B.pre w (List.mem_cons_of_mem _ h)
  have hown : s.vm.findClass RX0 = some m.cls := findClass_of_methodNamed B.named
  have hlocks := B.notSynchronized
  subst hsz
  unfold qv_
  have hD := hD0.self (sz := s.heap.size)
  generalize hAe : va_A (cW ad pr N cI cR L1 L2 v) s.heap.size = A at hD hFx ⊢
  have hA : ∀ q : Nat, s.heap.size ≤ q → A q := fun q h => by rw [← hAe]; exact Or.inr h
  have hS : va_S A s.heap s.heap [] := va_S.rf
  have hl := lv_entry ([.ref (ad 904), .int pa, .int pb]) (n := 4) (Nat.le_of_ble_eq_true rfl)
  rw [lg_entry_eq]
  generalize (lg_sl ([.ref (ad 904), .int pa, .int pb]) ++ List.replicate (4 - (lg_sl ([.ref (ad 904), .int pa, .int pb])).length) Slot.unset).toArray = ls at hl ⊢
  have hl : lv_has ls 4 [(0, .ref (ad 904)), (1, .int pa), (2, .int pb)] := hl
  refine lv_iload_n hx hb dX0_jump_0 rfl (lv_at hl 2 rfl) ?_
  refine lv_iconst (v := 4) hx hb dX0_jump_1 (by decide) ?_
  refine lv_aload_n hx hb dX0_jump_2 rfl (lv_at hl 0 rfl) ?_
  refine va_get (D := (dC, dI)) (ci := 4) (fs := oF_X0 ad pr v) (v := .int (v.1 0 337)) (C := RX0) (T := TX0) (N := 9) hx hb ht itX0 hown hK hP 4 rfl rfl 3 (by decide) (ht _ tw_673) (fun _ h9 => h9) rfl dX0_jump_3 ?_
  refine lv_imul hx hb dX0_jump_6 ?_
  have z1 : ((4 : Int32) * (v.1 0 337)).toInt = (4 : Int) * ((v.1 0 337).toInt) := mul_z (show (4 : Int32).toInt = (4 : Int) by decide) rfl (om_dc978cf154 zs) (om_bd873b6952 zs)
  refine lv_isub hx hb dX0_jump_7 ?_
  refine lv_istore_n (lv' := [(3, .int (pb - ((4 : Int32) * (v.1 0 337)))), (0, .ref (ad 904)), (1, .int pa), (2, .int pb)]) hx hb dX0_jump_8 rfl hl (by decide) rfl (fun ls hl => ?_)
  refine lv_aload_n hx hb dX0_jump_9 rfl (lv_at hl 1 rfl) ?_
  refine lv_bipush (v := 111) hx hb dX0_jump_10 (by decide) ?_
  refine lv_iload_n hx hb dX0_jump_12 rfl (lv_at hl 2 rfl) ?_
  refine lv_bipush (v := 7) hx hb dX0_jump_13 (by decide) ?_
  refine lv_ishl hx hb dX0_jump_15 ?_
  refine lv_ior hx hb dX0_jump_16 ?_
  refine lv_iload_n hx hb dX0_jump_17 rfl (lv_at hl 0 rfl) ?_
  refine lv_bipush (v := 12) hx hb dX0_jump_18 (by decide) ?_
  refine lv_ishr hx hb dX0_jump_20 ?_
  refine lv_sipush (v := 255) hx hb dX0_jump_21 (by decide) ?_
  refine lv_iand hx hb dX0_jump_24 ?_
  refine lv_bipush (v := 12) hx hb dX0_jump_25 (by decide) ?_
  refine lv_ishl hx hb dX0_jump_27 ?_
  refine lv_ior hx hb dX0_jump_28 ?_
  refine lv_iload_n hx hb dX0_jump_29 rfl (lv_at hl 0 rfl) ?_
  refine lv_bipush (v := 11) hx hb dX0_jump_30 (by decide) ?_
  refine lv_ishr hx hb dX0_jump_32 ?_
  refine lv_iconst (v := 1) hx hb dX0_jump_33 (by decide) ?_
  refine lv_iand hx hb dX0_jump_34 ?_
  refine lv_bipush (v := 20) hx hb dX0_jump_35 (by decide) ?_
  refine lv_ishl hx hb dX0_jump_37 ?_
  refine lv_ior hx hb dX0_jump_38 ?_
  refine lv_iload_n hx hb dX0_jump_39 rfl (lv_at hl 0 rfl) ?_
  refine lv_iconst (v := 1) hx hb dX0_jump_40 (by decide) ?_
  refine lv_ishr hx hb dX0_jump_41 ?_
  refine lv_sipush (v := 1023) hx hb dX0_jump_42 (by decide) ?_
  refine lv_iand hx hb dX0_jump_45 ?_
  refine lv_bipush (v := 21) hx hb dX0_jump_46 (by decide) ?_
  refine lv_ishl hx hb dX0_jump_48 ?_
  refine lv_ior hx hb dX0_jump_49 ?_
  refine lv_iload_n hx hb dX0_jump_50 rfl (lv_at hl 0 rfl) ?_
  refine lv_bipush (v := 20) hx hb dX0_jump_51 (by decide) ?_
  refine lv_ishr hx hb dX0_jump_53 ?_
  refine lv_bipush (v := 31) hx hb dX0_jump_54 (by decide) ?_
  refine lv_ishl hx hb dX0_jump_56 ?_
  refine lv_ior hx hb dX0_jump_57 ?_
  refine cu_v (rn_Vk (n := 1) (As := [.int ((((((111 : Int32) ||| (pa <<< ((7 : Int32) &&& 31))) ||| ((((pb - ((4 : Int32) * (v.1 0 337))) >>> ((12 : Int32) &&& 31)) &&& (255 : Int32)) <<< ((12 : Int32) &&& 31))) ||| ((((pb - ((4 : Int32) * (v.1 0 337))) >>> ((11 : Int32) &&& 31)) &&& (1 : Int32)) <<< ((20 : Int32) &&& 31))) ||| ((((pb - ((4 : Int32) * (v.1 0 337))) >>> ((1 : Int32) &&& 31)) &&& (1023 : Int32)) <<< ((21 : Int32) &&& 31))) ||| (((pb - ((4 : Int32) * (v.1 0 337))) >>> ((20 : Int32) &&& 31)) <<< ((31 : Int32) &&& 31)))]) (rest := []) hx hb hml hown ht hKK hFx hP hD hS hA (c_x_X0_emit l dC dI cI cB cZ cJ cR tb s.heap.size ad pr N L1 L2 v ((((((111 : Int32) ||| (pa <<< ((7 : Int32) &&& 31))) ||| ((((pb - ((4 : Int32) * (v.1 0 337))) >>> ((12 : Int32) &&& 31)) &&& (255 : Int32)) <<< ((12 : Int32) &&& 31))) ||| ((((pb - ((4 : Int32) * (v.1 0 337))) >>> ((11 : Int32) &&& 31)) &&& (1 : Int32)) <<< ((20 : Int32) &&& 31))) ||| ((((pb - ((4 : Int32) * (v.1 0 337))) >>> ((1 : Int32) &&& 31)) &&& (1023 : Int32)) <<< ((21 : Int32) &&& 31))) ||| (((pb - ((4 : Int32) * (v.1 0 337))) >>> ((20 : Int32) &&& 31)) <<< ((31 : Int32) &&& 31))) ps (show (N : Int) ≤ 4096 from (om_1c2c49c46c zNN)) (show pr ps = ad 908 from hps) (show (v.1 0 334) = ps from es334) (show 0 ≤ (v.1 0 337).toInt ∧ (v.1 0 337).toInt + 1 ≤ 7000000 from (om_193c31bfc5 zs))) tw_676 tw_677 (by decide +kernel) rfl rfl ⟨Nat.le_of_ble_eq_true rfl, Nat.le_of_ble_eq_true rfl⟩ (List.range (cW ad pr N cI cR L1 L2 v).length) (rg_map _) (nd_range _) 4 rfl rfl rfl rfl hl.1 rfl (Nat.le_of_ble_eq_true rfl) dX0_jump_58 ⟨Nat.le_of_ble_eq_true rfl, Nat.le_of_ble_eq_true rfl⟩) hP hD hS hA (fun u3 H locs hw2 hP hD hS => ?_)
  obtain ⟨fr2, ex2, pz2, rs2⟩ := hw2
  refine W.widen (k := 0) (n := 0) (Nat.le_refl _) (Nat.le_refl _) ?_
  exact W.vret hx hb hr (fun t ht9 hW => ⟨⟨u3, rfl, ⟨(FC.tr (FC.rf _) (FC.up fr2 (by decide) (by decide))), ⟨zs, u3, ex2, ⟨fr2, pz2, rs2⟩, rfl⟩, (show (u3.1 0 337).toInt = (v.1 0 337).toInt + 1 from (om_0431d2536c pz2)), (RS.tr RS.rf rs2)⟩, by rw [ht9]; exact hP, hD⟩, hS.F ht9⟩) hS.2.2 dX0_jump_61
theorem om_d0491bd047 {x0 : Int} (h0 : 0 ≤ x0 ∧ x0 + 2 ≤ 7000000) : 0 ≤ x0 ∧ x0 + 1 ≤ 7000000 := by omega
theorem om_d2a48ee112 {x0 x1 : Int} (h0 : 0 ≤ x0 ∧ x0 + 2 ≤ 7000000) (h1 : x1 = x0 + 1) : 0 ≤ x1 ∧ x1 + 1 ≤ 7000000 := by omega
theorem om_ab4775948a {x0 x1 x2 : Int} (h0 : x0 = x1 + 1) (h1 : x2 = x0 + 1) : x2 = x1 + 2 := by omega
set_option maxHeartbeats 4000000 in
set_option maxRecDepth 100000 in
theorem c_x_X0_halt (l : Launch) (dC : Nat → ClassId) (dI : Nat → Nat → Nat) (cI cB cZ cJ cR : ClassId) (tb : Nat → Nat) (sz : Nat) (ad : Nat → Nat) (pr : Int32 → Nat) (N : Nat) (L1 L2 : List Nat) (v : MS) (pa : Int32) (ps : Int32) (zNN : (N : Int) ≤ 4096) (hps : pr ps = ad 908) (es334 : (v.1 0 334) = ps) (zs : 0 ≤ (v.1 0 337).toInt ∧ (v.1 0 337).toInt + 2 ≤ 7000000) : Met l yX0_halt (Cond.code yX0_halt cX0_halt 2 none :: tw_W) ({ frames := 2, cells := 0, slots := 0, locals := 45 }) (pc_ (dC, dI) (tyS cI cB cZ cJ cR) tb (cW ad pr N cI cR L1 L2 v) sz [.ref (ad 904), .int pa]) (qv_ (dC, dI) (cW ad pr N cI cR L1 L2 v) sz (fun (u : MS) => FC [337] [0, 382] v u ∧ (Q_x_X0_halt L1 L2 N v pa u) ∧ ((u.1 0 337).toInt = (v.1 0 337).toInt + 2) ∧ (RS v u)) (fun (u : MS) => (cW ad pr N cI cR L1 L2 u))) 0 0 (va_A (cW ad pr N cI cR L1 L2 v) sz) := by
  refine Met.ofW (cc := cX0_halt) (maxL := 2) (ret := none) (by decide) rfl ?_
  intro p e s m args below meth c s₁ B hml hv
  obtain ⟨rfl, hsz, hP, hKK, hD0, hFx⟩ := hv
  have hK := hKK.1
  have hx := B.exec
  have hb := B.bytes
  have hr := B.returns
  have ht : ∀ w ∈ tw_W, w.before _ s = true := fun w h => atoms_spec (ws := Cond.code yX0_halt cX0_halt 2 none :: tw_W) B.pre w (List.mem_cons_of_mem _ h)
  have hown : s.vm.findClass RX0 = some m.cls := findClass_of_methodNamed B.named
  have hlocks := B.notSynchronized
  subst hsz
  unfold qv_
  have hD := hD0.self (sz := s.heap.size)
  generalize hAe : va_A (cW ad pr N cI cR L1 L2 v) s.heap.size = A at hD hFx ⊢
  have hA : ∀ q : Nat, s.heap.size ≤ q → A q := fun q h => by rw [← hAe]; exact Or.inr h
  have hS : va_S A s.heap s.heap [] := va_S.rf
  have hl := lv_entry ([.ref (ad 904), .int pa]) (n := 2) (Nat.le_of_ble_eq_true rfl)
  rw [lg_entry_eq]
  generalize (lg_sl ([.ref (ad 904), .int pa]) ++ List.replicate (2 - (lg_sl ([.ref (ad 904), .int pa])).length) Slot.unset).toArray = ls at hl ⊢
  have hl : lv_has ls 2 [(0, .ref (ad 904)), (1, .int pa)] := hl
  refine lv_aload_n hx hb dX0_halt_0 rfl (lv_at hl 0 rfl) ?_
  refine lv_bipush (v := 19) hx hb dX0_halt_1 (by decide) ?_
  refine lv_bipush (v := 17) hx hb dX0_halt_3 (by decide) ?_
  refine lv_iconst (v := 0) hx hb dX0_halt_5 (by decide) ?_
  refine lv_iload_n hx hb dX0_halt_6 rfl (lv_at hl 1 rfl) ?_
  refine cu_v (rn_Vk (n := 4) (As := [.int 19, .int 17, .int 0, .int pa]) (rest := []) hx hb hml hown ht hKK hFx hP hD hS hA (c_x_X0_immediate l dC dI cI cB cZ cJ cR tb s.heap.size ad pr N L1 L2 v (19 : Int32) (17 : Int32) (0 : Int32) pa ps (show (N : Int) ≤ 4096 from (om_1c2c49c46c zNN)) (show pr ps = ad 908 from hps) (show (v.1 0 334) = ps from es334) (show 0 ≤ (v.1 0 337).toInt ∧ (v.1 0 337).toInt + 1 ≤ 7000000 from (om_d0491bd047 zs))) tw_678 tw_679 (by decide +kernel) rfl rfl ⟨Nat.le_of_ble_eq_true rfl, Nat.le_of_ble_eq_true rfl⟩ (List.range (cW ad pr N cI cR L1 L2 v).length) (rg_map _) (nd_range _) 4 rfl rfl rfl rfl hl.1 rfl (Nat.le_of_ble_eq_true rfl) dX0_halt_7 ⟨Nat.le_of_ble_eq_true rfl, Nat.le_of_ble_eq_true rfl⟩) hP hD hS hA (fun u2 H locs hw1 hP hD hS => ?_)
  obtain ⟨fr1, ex1, pz1, rs1⟩ := hw1
  refine W.widen (k := 0) (n := 0) (Nat.le_refl _) (Nat.le_refl _) ?_
  refine lv_aload_n hx hb dX0_halt_10 rfl (lv_at hl 0 rfl) ?_
  refine lv_ldc (v := 1048691) hx hb hown (ht _ tw_680) dX0_halt_11 ?_
  refine cu_v (rn_Vk (n := 1) (As := [.int 1048691]) (rest := []) hx hb hml hown ht hKK hFx hP hD hS hA (c_x_X0_emit l dC dI cI cB cZ cJ cR tb H.size ad pr N L1 L2 u2 (1048691 : Int32) ps (show (N : Int) ≤ 4096 from (om_1c2c49c46c zNN)) (show pr ps = ad 908 from hps) (show (u2.1 0 334) = ps from (Eq.trans (fr1.2.1 334 (by decide)) es334)) (show 0 ≤ (u2.1 0 337).toInt ∧ (u2.1 0 337).toInt + 1 ≤ 7000000 from (om_d2a48ee112 zs pz1))) tw_676 tw_677 (by decide +kernel) rfl rfl ⟨Nat.le_of_ble_eq_true rfl, Nat.le_of_ble_eq_true rfl⟩ (List.range (cW ad pr N cI cR L1 L2 u2).length) (rg_map _) (nd_range _) 4 rfl rfl rfl rfl hl.1 rfl (Nat.le_of_ble_eq_true rfl) dX0_halt_13 ⟨Nat.le_of_ble_eq_true rfl, Nat.le_of_ble_eq_true rfl⟩) hP hD hS hA (fun u5 H locs hw4 hP hD hS => ?_)
  obtain ⟨fr4, ex4, pz4, rs4⟩ := hw4
  have pz4 : (u5.1 0 337).toInt = (u2.1 0 337).toInt + 1 := pz4
  have rs4 : RS u2 u5 := rs4
  refine W.widen (k := 0) (n := 0) (Nat.le_refl _) (Nat.le_refl _) ?_
  exact W.vret hx hb hr (fun t ht9 hW => ⟨⟨u5, rfl, ⟨(FC.tr (FC.tr (FC.rf _) (FC.up fr1 (by decide) (by decide))) (FC.up fr4 (by decide) (by decide))), ⟨zs, u2, ex1, ⟨fr1, pz1, rs1⟩, u5, ex4, ⟨fr4, pz4, rs4⟩, rfl⟩, (show (u5.1 0 337).toInt = (v.1 0 337).toInt + 2 from (om_ab4775948a pz1 pz4)), (RS.tr (RS.tr RS.rf rs1) rs4)⟩, by rw [ht9]; exact hP, hD⟩, hS.F ht9⟩) hS.2.2 dX0_halt_16
set_option maxHeartbeats 4000000 in
set_option maxRecDepth 100000 in
theorem c_x_X0_outside (l : Launch) (dC : Nat → ClassId) (dI : Nat → Nat → Nat) (cI cB cZ cJ cR : ClassId) (tb : Nat → Nat) (sz : Nat) (ad : Nat → Nat) (pr : Int32 → Nat) (N : Nat) (L1 L2 : List Nat) (v : MS) (pa : Int32) (ps : Int32) (zNN : (N : Int) ≤ 4096) (hps : pr ps = ad 908) (es334 : (v.1 0 334) = ps) (zs : 0 ≤ (v.1 0 337).toInt ∧ (v.1 0 337).toInt + 2 ≤ 7000000) : Met l yX0_outside (Cond.code yX0_outside cX0_outside 2 none :: tw_W) ({ frames := 2, cells := 0, slots := 0, locals := 45 }) (pc_ (dC, dI) (tyS cI cB cZ cJ cR) tb (cW ad pr N cI cR L1 L2 v) sz [.ref (ad 904), .int pa]) (qv_ (dC, dI) (cW ad pr N cI cR L1 L2 v) sz (fun (u : MS) => FC [337] [0, 382] v u ∧ (Q_x_X0_outside L1 L2 N v pa u) ∧ ((u.1 0 337).toInt = (v.1 0 337).toInt + 2) ∧ (RS v u)) (fun (u : MS) => (cW ad pr N cI cR L1 L2 u))) 0 0 (va_A (cW ad pr N cI cR L1 L2 v) sz) := by
  refine Met.ofW (cc := cX0_outside) (maxL := 2) (ret := none) (by decide) rfl ?_
  intro p e s m args below meth c s₁ B hml hv
  obtain ⟨rfl, hsz, hP, hKK, hD0, hFx⟩ := hv
  have hK := hKK.1
  have hx := B.exec
  have hb := B.bytes
  have hr := B.returns
  have ht : ∀ w ∈ tw_W, w.before _ s = true := fun w h => atoms_spec (ws := Cond.code yX0_outside cX0_outside 2 none :: tw_W) B.pre w (List.mem_cons_of_mem _ h)
  have hown : s.vm.findClass RX0 = some m.cls := findClass_of_methodNamed B.named
  have hlocks := B.notSynchronized
  subst hsz
  unfold qv_
  have hD := hD0.self (sz := s.heap.size)
  generalize hAe : va_A (cW ad pr N cI cR L1 L2 v) s.heap.size = A at hD hFx ⊢
  have hA : ∀ q : Nat, s.heap.size ≤ q → A q := fun q h => by rw [← hAe]; exact Or.inr h
  have hS : va_S A s.heap s.heap [] := va_S.rf
  have hl := lv_entry ([.ref (ad 904), .int pa]) (n := 2) (Nat.le_of_ble_eq_true rfl)
  rw [lg_entry_eq]
  generalize (lg_sl ([.ref (ad 904), .int pa]) ++ List.replicate (2 - (lg_sl ([.ref (ad 904), .int pa])).length) Slot.unset).toArray = ls at hl ⊢
  have hl : lv_has ls 2 [(0, .ref (ad 904)), (1, .int pa)] := hl
  refine lv_aload_n hx hb dX0_outside_0 rfl (lv_at hl 0 rfl) ?_
  refine lv_bipush (v := 19) hx hb dX0_outside_1 (by decide) ?_
  refine lv_bipush (v := 17) hx hb dX0_outside_3 (by decide) ?_
  refine lv_iconst (v := 0) hx hb dX0_outside_5 (by decide) ?_
  refine lv_iload_n hx hb dX0_outside_6 rfl (lv_at hl 1 rfl) ?_
  refine cu_v (rn_Vk (n := 4) (As := [.int 19, .int 17, .int 0, .int pa]) (rest := []) hx hb hml hown ht hKK hFx hP hD hS hA (c_x_X0_immediate l dC dI cI cB cZ cJ cR tb s.heap.size ad pr N L1 L2 v (19 : Int32) (17 : Int32) (0 : Int32) pa ps (show (N : Int) ≤ 4096 from (om_1c2c49c46c zNN)) (show pr ps = ad 908 from hps) (show (v.1 0 334) = ps from es334) (show 0 ≤ (v.1 0 337).toInt ∧ (v.1 0 337).toInt + 1 ≤ 7000000 from (om_d0491bd047 zs))) tw_678 tw_679 (by decide +kernel) rfl rfl ⟨Nat.le_of_ble_eq_true rfl, Nat.le_of_ble_eq_true rfl⟩ (List.range (cW ad pr N cI cR L1 L2 v).length) (rg_map _) (nd_range _) 4 rfl rfl rfl rfl hl.1 rfl (Nat.le_of_ble_eq_true rfl) dX0_outside_7 ⟨Nat.le_of_ble_eq_true rfl, Nat.le_of_ble_eq_true rfl⟩) hP hD hS hA (fun u2 H locs hw1 hP hD hS => ?_)
  obtain ⟨fr1, ex1, pz1, rs1⟩ := hw1
  refine W.widen (k := 0) (n := 0) (Nat.le_refl _) (Nat.le_refl _) ?_
  refine lv_aload_n hx hb dX0_outside_10 rfl (lv_at hl 0 rfl) ?_
  refine lv_bipush (v := 115) hx hb dX0_outside_11 (by decide) ?_
  refine cu_v (rn_Vk (n := 1) (As := [.int 115]) (rest := []) hx hb hml hown ht hKK hFx hP hD hS hA (c_x_X0_emit l dC dI cI cB cZ cJ cR tb H.size ad pr N L1 L2 u2 (115 : Int32) ps (show (N : Int) ≤ 4096 from (om_1c2c49c46c zNN)) (show pr ps = ad 908 from hps) (show (u2.1 0 334) = ps from (Eq.trans (fr1.2.1 334 (by decide)) es334)) (show 0 ≤ (u2.1 0 337).toInt ∧ (u2.1 0 337).toInt + 1 ≤ 7000000 from (om_d2a48ee112 zs pz1))) tw_676 tw_677 (by decide +kernel) rfl rfl ⟨Nat.le_of_ble_eq_true rfl, Nat.le_of_ble_eq_true rfl⟩ (List.range (cW ad pr N cI cR L1 L2 u2).length) (rg_map _) (nd_range _) 4 rfl rfl rfl rfl hl.1 rfl (Nat.le_of_ble_eq_true rfl) dX0_outside_13 ⟨Nat.le_of_ble_eq_true rfl, Nat.le_of_ble_eq_true rfl⟩) hP hD hS hA (fun u5 H locs hw4 hP hD hS => ?_)
  obtain ⟨fr4, ex4, pz4, rs4⟩ := hw4
  have pz4 : (u5.1 0 337).toInt = (u2.1 0 337).toInt + 1 := pz4
  have rs4 : RS u2 u5 := rs4
  refine W.widen (k := 0) (n := 0) (Nat.le_refl _) (Nat.le_refl _) ?_
  exact W.vret hx hb hr (fun t ht9 hW => ⟨⟨u5, rfl, ⟨(FC.tr (FC.tr (FC.rf _) (FC.up fr1 (by decide) (by decide))) (FC.up fr4 (by decide) (by decide))), ⟨zs, u2, ex1, ⟨fr1, pz1, rs1⟩, u5, ex4, ⟨fr4, pz4, rs4⟩, rfl⟩, (show (u5.1 0 337).toInt = (v.1 0 337).toInt + 2 from (om_ab4775948a pz1 pz4)), (RS.tr (RS.tr RS.rf rs1) rs4)⟩, by rw [ht9]; exact hP, hD⟩, hS.F ht9⟩) hS.2.2 dX0_outside_16
set_option maxHeartbeats 4000000 in
set_option maxRecDepth 100000 in
theorem c_x_X0_loadSlot (l : Launch) (dC : Nat → ClassId) (dI : Nat → Nat → Nat) (cI cB cZ cJ cR : ClassId) (tb : Nat → Nat) (sz : Nat) (ad : Nat → Nat) (pr : Int32 → Nat) (N : Nat) (L1 L2 : List Nat) (v : MS) (pa : Int32) (pb : Int32) (ps : Int32) (zNN : (N : Int) ≤ 4096) (hps : pr ps = ad 908) (es334 : (v.1 0 334) = ps) (zs : 0 ≤ (v.1 0 337).toInt ∧ (v.1 0 337).toInt + 1 ≤ 7000000) : Met l yX0_loadSlot (Cond.code yX0_loadSlot cX0_loadSlot 3 none :: tw_W) ({ frames := 2, cells := 0, slots := 0, locals := 45 }) (pc_ (dC, dI) (tyS cI cB cZ cJ cR) tb (cW ad pr N cI cR L1 L2 v) sz [.ref (ad 904), .int pa, .int pb]) (qv_ (dC, dI) (cW ad pr N cI cR L1 L2 v) sz (fun (u : MS) => FC [337] [0, 382] v u ∧ (Q_x_X0_loadSlot L1 L2 N v pa pb u) ∧ ((u.1 0 337).toInt = (v.1 0 337).toInt + 1) ∧ (RS v u)) (fun (u : MS) => (cW ad pr N cI cR L1 L2 u))) 0 0 (va_A (cW ad pr N cI cR L1 L2 v) sz) := by
  refine Met.ofW (cc := cX0_loadSlot) (maxL := 3) (ret := none) (by decide) rfl ?_
  intro p e s m args below meth c s₁ B hml hv
  obtain ⟨rfl, hsz, hP, hKK, hD0, hFx⟩ := hv
  have hK := hKK.1
  have hx := B.exec
  have hb := B.bytes
  have hr := B.returns
  have ht : ∀ w ∈ tw_W, w.before _ s = true := fun w h => atoms_spec (ws := Cond.code yX0_loadSlot cX0_loadSlot 3 none :: tw_W) B.pre w (List.mem_cons_of_mem _ h)
  have hown : s.vm.findClass RX0 = some m.cls := findClass_of_methodNamed B.named
  have hlocks := B.notSynchronized
  subst hsz
  unfold qv_
  have hD := hD0.self (sz := s.heap.size)
  generalize hAe : va_A (cW ad pr N cI cR L1 L2 v) s.heap.size = A at hD hFx ⊢
  have hA : ∀ q : Nat, s.heap.size ≤ q → A q := fun q h => by rw [← hAe]; exact Or.inr h
  have hS : va_S A s.heap s.heap [] := va_S.rf
  have hl := lv_entry ([.ref (ad 904), .int pa, .int pb]) (n := 3) (Nat.le_of_ble_eq_true rfl)
  rw [lg_entry_eq]
  generalize (lg_sl ([.ref (ad 904), .int pa, .int pb]) ++ List.replicate (3 - (lg_sl ([.ref (ad 904), .int pa, .int pb])).length) Slot.unset).toArray = ls at hl ⊢
  have hl : lv_has ls 3 [(0, .ref (ad 904)), (1, .int pa), (2, .int pb)] := hl
  refine lv_aload_n hx hb dX0_loadSlot_0 rfl (lv_at hl 0 rfl) ?_
  refine lv_sipush (v := 8195) hx hb dX0_loadSlot_1 (by decide) ?_
  refine lv_iload_n hx hb dX0_loadSlot_4 rfl (lv_at hl 1 rfl) ?_
  refine lv_bipush (v := 8) hx hb dX0_loadSlot_5 (by decide) ?_
  refine lv_iload_n hx hb dX0_loadSlot_7 rfl (lv_at hl 2 rfl) ?_
  refine cu_s (nd_range _) (rn_S (n := 1) (As := [.int pb]) (rest := [.int 8, .int pa, .int 8195, .ref (ad 904)]) hx hb hml hown ht hKK hFx hP hD hS hA (c_x_X0_fromFrame l dC dI cI cB cZ cJ cR tb s.heap.size pb ) tw_681 tw_682 (by decide +kernel) rfl rfl ⟨Nat.le_of_ble_eq_true rfl, Nat.le_of_ble_eq_true rfl⟩ [] rfl rfl rfl hl.1 rfl (Nat.le_of_ble_eq_true rfl) dX0_loadSlot_8 ⟨Nat.le_of_ble_eq_true rfl, Nat.le_of_ble_eq_true rfl⟩) hP hD hS hA (fun r3 H locs hw1 hP hD hS => ?_)
  have ex1 := hw1
  refine W.widen (k := 0) (n := 0) (Nat.le_refl _) (Nat.le_refl _) ?_
  refine cu_v (rn_Vk (n := 4) (As := [.int 8195, .int pa, .int 8, .int r3]) (rest := []) hx hb hml hown ht hKK hFx hP hD hS hA (c_x_X0_immediate l dC dI cI cB cZ cJ cR tb H.size ad pr N L1 L2 v (8195 : Int32) pa (8 : Int32) r3 ps (show (N : Int) ≤ 4096 from (om_1c2c49c46c zNN)) (show pr ps = ad 908 from hps) (show (v.1 0 334) = ps from es334) (show 0 ≤ (v.1 0 337).toInt ∧ (v.1 0 337).toInt + 1 ≤ 7000000 from (om_193c31bfc5 zs))) tw_678 tw_679 (by decide +kernel) rfl rfl ⟨Nat.le_of_ble_eq_true rfl, Nat.le_of_ble_eq_true rfl⟩ (List.range (cW ad pr N cI cR L1 L2 v).length) (rg_map _) (nd_range _) 4 rfl rfl rfl rfl hl.1 rfl (Nat.le_of_ble_eq_true rfl) dX0_loadSlot_11 ⟨Nat.le_of_ble_eq_true rfl, Nat.le_of_ble_eq_true rfl⟩) hP hD hS hA (fun u5 H locs hw4 hP hD hS => ?_)
  obtain ⟨fr4, ex4, pz4, rs4⟩ := hw4
  refine W.widen (k := 0) (n := 0) (Nat.le_refl _) (Nat.le_refl _) ?_
  exact W.vret hx hb hr (fun t ht9 hW => ⟨⟨u5, rfl, ⟨(FC.tr (FC.rf _) (FC.up fr4 (by decide) (by decide))), ⟨zs, r3, ex1, u5, ex4, ⟨fr4, pz4, rs4⟩, rfl⟩, (show (u5.1 0 337).toInt = (v.1 0 337).toInt + 1 from (om_0431d2536c pz4)), (RS.tr RS.rf rs4)⟩, by rw [ht9]; exact hP, hD⟩, hS.F ht9⟩) hS.2.2 dX0_loadSlot_14
set_option maxHeartbeats 4000000 in
set_option maxRecDepth 100000 in
theorem c_x_X0_storeSlot (l : Launch) (dC : Nat → ClassId) (dI : Nat → Nat → Nat) (cI cB cZ cJ cR : ClassId) (tb : Nat → Nat) (sz : Nat) (ad : Nat → Nat) (pr : Int32 → Nat) (N : Nat) (L1 L2 : List Nat) (v : MS) (pa : Int32) (ps : Int32) (zNN : (N : Int) ≤ 4096) (hps : pr ps = ad 908) (es334 : (v.1 0 334) = ps) (zs : 0 ≤ (v.1 0 337).toInt ∧ (v.1 0 337).toInt + 1 ≤ 7000000) : Met l yX0_storeSlot (Cond.code yX0_storeSlot cX0_storeSlot 2 none :: tw_W) ({ frames := 2, cells := 0, slots := 0, locals := 44 }) (pc_ (dC, dI) (tyS cI cB cZ cJ cR) tb (cW ad pr N cI cR L1 L2 v) sz [.ref (ad 904), .int pa]) (qv_ (dC, dI) (cW ad pr N cI cR L1 L2 v) sz (fun (u : MS) => FC [337] [0, 382] v u ∧ (Q_x_X0_storeSlot L1 L2 N v pa u) ∧ ((u.1 0 337).toInt = (v.1 0 337).toInt + 1) ∧ (RS v u)) (fun (u : MS) => (cW ad pr N cI cR L1 L2 u))) 0 0 (va_A (cW ad pr N cI cR L1 L2 v) sz) := by
  refine Met.ofW (cc := cX0_storeSlot) (maxL := 2) (ret := none) (by decide) rfl ?_
  intro p e s m args below meth c s₁ B hml hv
  obtain ⟨rfl, hsz, hP, hKK, hD0, hFx⟩ := hv
  have hK := hKK.1
  have hx := B.exec
  have hb := B.bytes
  have hr := B.returns
  have ht : ∀ w ∈ tw_W, w.before _ s = true := fun w h => atoms_spec (ws := Cond.code yX0_storeSlot cX0_storeSlot 2 none :: tw_W) B.pre w (List.mem_cons_of_mem _ h)
  have hown : s.vm.findClass RX0 = some m.cls := findClass_of_methodNamed B.named
  have hlocks := B.notSynchronized
  subst hsz
  unfold qv_
  have hD := hD0.self (sz := s.heap.size)
  generalize hAe : va_A (cW ad pr N cI cR L1 L2 v) s.heap.size = A at hD hFx ⊢
  have hA : ∀ q : Nat, s.heap.size ≤ q → A q := fun q h => by rw [← hAe]; exact Or.inr h
  have hS : va_S A s.heap s.heap [] := va_S.rf
  have hl := lv_entry ([.ref (ad 904), .int pa]) (n := 2) (Nat.le_of_ble_eq_true rfl)
  rw [lg_entry_eq]
  generalize (lg_sl ([.ref (ad 904), .int pa]) ++ List.replicate (2 - (lg_sl ([.ref (ad 904), .int pa])).length) Slot.unset).toArray = ls at hl ⊢
  have hl : lv_has ls 2 [(0, .ref (ad 904)), (1, .int pa)] := hl
  refine lv_aload_n hx hb dX0_storeSlot_0 rfl (lv_at hl 0 rfl) ?_
  refine lv_bipush (v := 10) hx hb dX0_storeSlot_1 (by decide) ?_
  refine lv_iload_n hx hb dX0_storeSlot_3 rfl (lv_at hl 1 rfl) ?_
  refine cu_s (nd_range _) (rn_S (n := 1) (As := [.int pa]) (rest := [.int 10, .ref (ad 904)]) hx hb hml hown ht hKK hFx hP hD hS hA (c_x_X0_fromFrame l dC dI cI cB cZ cJ cR tb s.heap.size pa ) tw_681 tw_682 (by decide +kernel) rfl rfl ⟨Nat.le_of_ble_eq_true rfl, Nat.le_of_ble_eq_true rfl⟩ [] rfl rfl rfl hl.1 rfl (Nat.le_of_ble_eq_true rfl) dX0_storeSlot_4 ⟨Nat.le_of_ble_eq_true rfl, Nat.le_of_ble_eq_true rfl⟩) hP hD hS hA (fun r3 H locs hw1 hP hD hS => ?_)
  have ex1 := hw1
  refine W.widen (k := 0) (n := 0) (Nat.le_refl _) (Nat.le_refl _) ?_
  refine lv_bipush (v := 8) hx hb dX0_storeSlot_7 (by decide) ?_
  refine cu_v (rn_Vk (n := 3) (As := [.int 10, .int r3, .int 8]) (rest := []) hx hb hml hown ht hKK hFx hP hD hS hA (c_x_X0_storeWord l dC dI cI cB cZ cJ cR tb H.size ad pr N L1 L2 v (10 : Int32) r3 (8 : Int32) ps (show (N : Int) ≤ 4096 from (om_1c2c49c46c zNN)) (show pr ps = ad 908 from hps) (show (v.1 0 334) = ps from es334) (show 0 ≤ (v.1 0 337).toInt ∧ (v.1 0 337).toInt + 1 ≤ 7000000 from (om_193c31bfc5 zs))) tw_683 tw_684 (by decide +kernel) rfl rfl ⟨Nat.le_of_ble_eq_true rfl, Nat.le_of_ble_eq_true rfl⟩ (List.range (cW ad pr N cI cR L1 L2 v).length) (rg_map _) (nd_range _) 4 rfl rfl rfl rfl hl.1 rfl (Nat.le_of_ble_eq_true rfl) dX0_storeSlot_9 ⟨Nat.le_of_ble_eq_true rfl, Nat.le_of_ble_eq_true rfl⟩) hP hD hS hA (fun u5 H locs hw4 hP hD hS => ?_)
  obtain ⟨fr4, ex4, pz4, rs4⟩ := hw4
  refine W.widen (k := 0) (n := 0) (Nat.le_refl _) (Nat.le_refl _) ?_
  exact W.vret hx hb hr (fun t ht9 hW => ⟨⟨u5, rfl, ⟨(FC.tr (FC.rf _) (FC.up fr4 (by decide) (by decide))), ⟨zs, r3, ex1, u5, ex4, ⟨fr4, pz4, rs4⟩, rfl⟩, (show (u5.1 0 337).toInt = (v.1 0 337).toInt + 1 from (om_0431d2536c pz4)), (RS.tr RS.rf rs4)⟩, by rw [ht9]; exact hP, hD⟩, hS.F ht9⟩) hS.2.2 dX0_storeSlot_12
set_option maxHeartbeats 4000000 in
set_option maxRecDepth 100000 in
theorem c_x_X0_addressOfGlobal (l : Launch) (dC : Nat → ClassId) (dI : Nat → Nat → Nat) (cI cB cZ cJ cR : ClassId) (tb : Nat → Nat) (sz : Nat) (ad : Nat → Nat) (pr : Int32 → Nat) (N : Nat) (L1 L2 : List Nat) (v : MS) (pa : Int32) (ps : Int32) (hL1 : L1.length = 40) (hL2 : L2.length = 60) (rp : RP v) (hps : pr ps = ad 908) (es334 : (v.1 0 334) = ps) : Met l yX0_addressOfGlobal (Cond.code yX0_addressOfGlobal cX0_addressOfGlobal 2 (some .int) :: tw_W) ({ frames := 1, cells := 0, slots := 0, locals := 22 }) (pc_ (dC, dI) (tyS cI cB cZ cJ cR) tb (cW ad pr N cI cR L1 L2 v) sz [.ref (ad 904), .int pa]) (qi_ (dC, dI) (cW ad pr N cI cR L1 L2 v) sz (fun (r : Int32) (u : MS) => v = u ∧ (Q_x_X0_addressOfGlobal L1 L2 v pa r)) (fun (u : MS) => (cW ad pr N cI cR L1 L2 u))) 0 0 (va_A (cW ad pr N cI cR L1 L2 v) sz) := by
  refine Met.ofW (cc := cX0_addressOfGlobal) (maxL := 2) (ret := (some .int)) (by decide) rfl ?_
  intro p e s m args below meth c s₁ B hml hv
  obtain ⟨rfl, hsz, hP, hKK, hD0, hFx⟩ := hv
  have hK := hKK.1
  have hx := B.exec
  have hb := B.bytes
  have hr := B.returns
  have ht : ∀ w ∈ tw_W, w.before _ s = true := fun w h => atoms_spec (ws := Cond.code yX0_addressOfGlobal cX0_addressOfGlobal 2 (some .int) :: tw_W) B.pre w (List.mem_cons_of_mem _ h)
  have hown : s.vm.findClass RX0 = some m.cls := findClass_of_methodNamed B.named
  have hlocks := B.notSynchronized
  subst hsz
  unfold qi_
  have hD := hD0.self (sz := s.heap.size)
  generalize hAe : va_A (cW ad pr N cI cR L1 L2 v) s.heap.size = A at hD hFx ⊢
  have hA : ∀ q : Nat, s.heap.size ≤ q → A q := fun q h => by rw [← hAe]; exact Or.inr h
  have hS : va_S A s.heap s.heap [] := va_S.rf
  have hl := lv_entry ([.ref (ad 904), .int pa]) (n := 2) (Nat.le_of_ble_eq_true rfl)
  rw [lg_entry_eq]
  generalize (lg_sl ([.ref (ad 904), .int pa]) ++ List.replicate (2 - (lg_sl ([.ref (ad 904), .int pa])).length) Slot.unset).toArray = ls at hl ⊢
  have hl : lv_has ls 2 [(0, .ref (ad 904)), (1, .int pa)] := hl
  refine lv_aload_n hx hb dX0_addressOfGlobal_0 rfl (lv_at hl 0 rfl) ?_
  refine va_get (D := (dC, dI)) (ci := 4) (fs := oF_X0 ad pr v) (v := .ref (pr (v.1 0 334))) (C := RX0) (T := TX0) (N := 9) hx hb ht itX0 hown hK hP 4 rfl rfl 0 (by decide) (ht _ tw_674) (fun _ h9 => h9) rfl dX0_addressOfGlobal_1 ?_
  refine lv_iload_n hx hb dX0_addressOfGlobal_4 rfl (lv_at hl 1 rfl) ?_
  refine lv_iconst (v := 1) hx hb dX0_addressOfGlobal_5 (by decide) ?_
  refine W.eq (g2 := F0 m 6 ls [.int 1, .int pa, .ref (ad 908)]) (by rw [show pr (v.1 0 334) = (ad 908) from (by rw [show (v.1 0 334) = ps from es334]; exact hps)]) ?_
  refine cu_i (rn_Vk (n := 2) (As := [.int pa, .int 1]) (rest := []) hx hb hml hown ht hKK hFx hP hD hS hA (c_x_X7_globalFact l dC dI cI cB cZ cJ cR tb s.heap.size ad pr N L1 L2 v pa (1 : Int32) (show L1.length = 40 from hL1) (show L2.length = 60 from hL2) (show RP v from rp)) tw_402 tw_685 (by decide +kernel) rfl rfl ⟨Nat.le_of_ble_eq_true rfl, Nat.le_of_ble_eq_true rfl⟩ (List.range (cW ad pr N cI cR L1 L2 v).length) (rg_map _) (nd_range _) 8 rfl rfl rfl rfl hl.1 rfl (Nat.le_of_ble_eq_true rfl) dX0_addressOfGlobal_6 ⟨Nat.le_of_ble_eq_true rfl, Nat.le_of_ble_eq_true rfl⟩) hP hD hS hA (fun r3 u2 H locs hw1 hP hD hS => ?_)
  obtain ⟨rfl, ex1, c1, d1⟩ := hw1
  have c1 : ((1 : Int) ≠ 0 ∨ r3.toInt ≤ 1000) := c1
  refine W.widen (k := 0) (n := 0) (Nat.le_refl _) (Nat.le_refl _) ?_
  exact W.iret (v := r3) hx hb hr (fun t ht9 hW => ⟨⟨r3, v, rfl, ⟨rfl, ⟨r3, ex1, ⟨c1, d1⟩, rfl⟩⟩, by rw [ht9]; exact hP, hD⟩, hS.F ht9⟩) hS.2.2 dX0_addressOfGlobal_9
theorem om_b60e09a746 {x0 : Int} (h0 : x0 < (3009 : Int)) : x0 < 3009 := by omega
set_option maxHeartbeats 4000000 in
set_option maxRecDepth 100000 in
theorem c_x_X0_addressOfDeed (l : Launch) (dC : Nat → ClassId) (dI : Nat → Nat → Nat) (cI cB cZ cJ cR : ClassId) (tb : Nat → Nat) (sz : Nat) (ad : Nat → Nat) (pr : Int32 → Nat) (N : Nat) (L1 L2 : List Nat) (v : MS) (pa : Int32)  : Met l yX0_addressOfDeed (Cond.code yX0_addressOfDeed cX0_addressOfDeed 2 (some .int) :: tw_W) ({ frames := 0, cells := 0, slots := 0, locals := 0 }) (pc_ (dC, dI) (tyS cI cB cZ cJ cR) tb (cW ad pr N cI cR L1 L2 v) sz [.ref (ad 904), .int pa]) (qi_ (dC, dI) (cW ad pr N cI cR L1 L2 v) sz (fun (r : Int32) (u : MS) => v = u ∧ (Q_x_X0_addressOfDeed L1 L2 v pa r)) (fun (u : MS) => (cW ad pr N cI cR L1 L2 u))) 0 0 (va_A (cW ad pr N cI cR L1 L2 v) sz) := by
  refine Met.ofW (cc := cX0_addressOfDeed) (maxL := 2) (ret := (some .int)) (by decide) rfl ?_
  intro p e s m args below meth c s₁ B hml hv
  obtain ⟨rfl, hsz, hP, hKK, hD0, hFx⟩ := hv
  have hK := hKK.1
  have hx := B.exec
  have hb := B.bytes
  have hr := B.returns
  have ht : ∀ w ∈ tw_W, w.before _ s = true := fun w h => atoms_spec (ws := Cond.code yX0_addressOfDeed cX0_addressOfDeed 2 (some .int) :: tw_W) B.pre w (List.mem_cons_of_mem _ h)
  have hown : s.vm.findClass RX0 = some m.cls := findClass_of_methodNamed B.named
  have hlocks := B.notSynchronized
  subst hsz
  unfold qi_
  have hD := hD0.self (sz := s.heap.size)
  generalize hAe : va_A (cW ad pr N cI cR L1 L2 v) s.heap.size = A at hD hFx ⊢
  have hA : ∀ q : Nat, s.heap.size ≤ q → A q := fun q h => by rw [← hAe]; exact Or.inr h
  have hS : va_S A s.heap s.heap [] := va_S.rf
  have hl := lv_entry ([.ref (ad 904), .int pa]) (n := 2) (Nat.le_of_ble_eq_true rfl)
  rw [lg_entry_eq]
  generalize (lg_sl ([.ref (ad 904), .int pa]) ++ List.replicate (2 - (lg_sl ([.ref (ad 904), .int pa])).length) Slot.unset).toArray = ls at hl ⊢
  have hl : lv_has ls 2 [(0, .ref (ad 904)), (1, .int pa)] := hl
  refine lv_iload_n hx hb dX0_addressOfDeed_0 rfl (lv_at hl 1 rfl) ?_
  refine lv_if_lt (tgt := 22) hx hb dX0_addressOfDeed_1 (by decide) (fun h1 => ?_) (fun h1 => ?_)
  · have z2 : pa.toInt < (0 : Int) := lt_z rfl (show (0 : Int32).toInt = (0 : Int) by decide) h1
    refine lv_iconst (v := 0) hx hb dX0_addressOfDeed_22 (by decide) ?_
    exact W.iret (v := 0) hx hb hr (fun t ht9 hW => ⟨⟨0, v, rfl, ⟨rfl, (Or.inl ⟨z2, rfl⟩)⟩, by rw [ht9]; exact hP, hD⟩, hS.F ht9⟩) hS.2.2 dX0_addressOfDeed_23
  · have z3 : (0 : Int) ≤ pa.toInt := nlt_z rfl (show (0 : Int32).toInt = (0 : Int) by decide) h1
    refine lv_iload_n hx hb dX0_addressOfDeed_4 rfl (lv_at hl 1 rfl) ?_
    refine lv_aload_n hx hb dX0_addressOfDeed_5 rfl (lv_at hl 0 rfl) ?_
    refine va_get (D := (dC, dI)) (ci := 4) (fs := oF_X0 ad pr v) (v := .ref (ad 336)) (C := RX0) (T := TX0) (N := 9) hx hb ht itX0 hown hK hP 4 rfl rfl 2 (by decide) (ht _ tw_686) (fun _ h9 => h9) rfl dX0_addressOfDeed_6 ?_
    refine va_alen (D := (dC, dI)) (v := 3009) hx hb hK hP 20 0 rfl rfl rfl dX0_addressOfDeed_9 ?_
    refine lv_icmp_ge (tgt := 22) hx hb dX0_addressOfDeed_10 (by decide) (fun h4 => ?_) (fun h4 => ?_)
    · have z5 : (3009 : Int) ≤ pa.toInt := le_z (show (3009 : Int32).toInt = (3009 : Int) by decide) rfl h4
      refine lv_iconst (v := 0) hx hb dX0_addressOfDeed_22 (by decide) ?_
      exact W.iret (v := 0) hx hb hr (fun t ht9 hW => ⟨⟨0, v, rfl, ⟨rfl, (Or.inr (⟨z3, (Or.inl ⟨z5, rfl⟩)⟩))⟩, by rw [ht9]; exact hP, hD⟩, hS.F ht9⟩) hS.2.2 dX0_addressOfDeed_23
    · have z6 : pa.toInt < (3009 : Int) := nle_z (show (3009 : Int32).toInt = (3009 : Int) by decide) rfl h4
      refine lv_aload_n hx hb dX0_addressOfDeed_13 rfl (lv_at hl 0 rfl) ?_
      refine va_get (D := (dC, dI)) (ci := 4) (fs := oF_X0 ad pr v) (v := .ref (ad 336)) (C := RX0) (T := TX0) (N := 9) hx hb ht itX0 hown hK hP 4 rfl rfl 2 (by decide) (ht _ tw_686) (fun _ h9 => h9) rfl dX0_addressOfDeed_14 ?_
      refine lv_iload_n hx hb dX0_addressOfDeed_17 rfl (lv_at hl 1 rfl) ?_
      refine va_iald (D := (dC, dI)) (f := (v.1 336)) hx hb hK hP 20 0 rfl rfl (in_y (a := pa.toInt) (b := 3009) rfl (om_51058f7f87 z3) (om_b60e09a746 z6) rfl) dX0_addressOfDeed_18 ?_
      refine lv_goto (tgt := 23) hx hb dX0_addressOfDeed_19 (by decide) ?_
      exact W.iret (v := ((v.1 336) pa.toNatClampNeg)) hx hb hr (fun t ht9 hW => ⟨⟨((v.1 336) pa.toNatClampNeg), v, rfl, ⟨rfl, (Or.inr (⟨z3, (Or.inr (⟨z6, rfl⟩))⟩))⟩, by rw [ht9]; exact hP, hD⟩, hS.F ht9⟩) hS.2.2 dX0_addressOfDeed_23
theorem om_5dfbb81569 {x0 : Int} (h0 : 0 ≤ x0 ∧ x0 + 4 ≤ 7000000) : 0 ≤ x0 ∧ x0 + 1 ≤ 7000000 := by omega
theorem om_3ec0cb71c6 {x0 x1 : Int} (h0 : 0 ≤ x0 ∧ x0 + 4 ≤ 7000000) (h1 : x1 = x0 + 1) : 0 ≤ x1 ∧ x1 + 1 ≤ 7000000 := by omega
theorem om_8296592fbf {x0 x1 x2 : Int} (h0 : 0 ≤ x0 ∧ x0 + 4 ≤ 7000000) (h1 : x1 = x0 + 1) (h2 : x2 = x1 + 1) : 0 ≤ x2 ∧ x2 + 1 ≤ 7000000 := by omega
theorem om_04b143f593 {x0 x1 x2 x3 : Int} (h0 : 0 ≤ x0 ∧ x0 + 4 ≤ 7000000) (h1 : x1 = x0 + 1) (h2 : x2 = x1 + 1) (h3 : x3 = x2 + 1) : 0 ≤ x3 ∧ x3 + 1 ≤ 7000000 := by omega
theorem om_8a67c9e393 {x0 x1 x2 x3 x4 : Int} (h0 : x0 = x1 + 1) (h1 : x2 = x0 + 1) (h2 : x3 = x2 + 1) (h3 : x4 = x3 + 1) : x4 = x1 + 4 := by omega
set_option maxHeartbeats 4000000 in
set_option maxRecDepth 100000 in
theorem c_x_X0_layLeave (l : Launch) (dC : Nat → ClassId) (dI : Nat → Nat → Nat) (cI cB cZ cJ cR : ClassId) (tb : Nat → Nat) (sz : Nat) (ad : Nat → Nat) (pr : Int32 → Nat) (N : Nat) (L1 L2 : List Nat) (v : MS) (ps : Int32) (zNN : (N : Int) ≤ 4096) (hps : pr ps = ad 908) (es334 : (v.1 0 334) = ps) (zs : 0 ≤ (v.1 0 337).toInt ∧ (v.1 0 337).toInt + 4 ≤ 7000000) : Met l yX0_layLeave (Cond.code yX0_layLeave cX0_layLeave 1 none :: tw_W) ({ frames := 2, cells := 0, slots := 0, locals := 45 }) (pc_ (dC, dI) (tyS cI cB cZ cJ cR) tb (cW ad pr N cI cR L1 L2 v) sz [.ref (ad 904)]) (qv_ (dC, dI) (cW ad pr N cI cR L1 L2 v) sz (fun (u : MS) => FC [337] [0, 382] v u ∧ (Q_x_X0_layLeave L1 L2 N v u) ∧ ((u.1 0 337).toInt = (v.1 0 337).toInt + 4) ∧ (RS v u)) (fun (u : MS) => (cW ad pr N cI cR L1 L2 u))) 0 0 (va_A (cW ad pr N cI cR L1 L2 v) sz) := by
  refine Met.ofW (cc := cX0_layLeave) (maxL := 1) (ret := none) (by decide) rfl ?_
  intro p e s m args below meth c s₁ B hml hv
  obtain ⟨rfl, hsz, hP, hKK, hD0, hFx⟩ := hv
  have hK := hKK.1
  have hx := B.exec
  have hb := B.bytes
  have hr := B.returns
  have ht : ∀ w ∈ tw_W, w.before _ s = true := fun w h => atoms_spec (ws := Cond.code yX0_layLeave cX0_layLeave 1 none :: tw_W) B.pre w (List.mem_cons_of_mem _ h)
  have hown : s.vm.findClass RX0 = some m.cls := findClass_of_methodNamed B.named
  have hlocks := B.notSynchronized
  subst hsz
  unfold qv_
  have hD := hD0.self (sz := s.heap.size)
  generalize hAe : va_A (cW ad pr N cI cR L1 L2 v) s.heap.size = A at hD hFx ⊢
  have hA : ∀ q : Nat, s.heap.size ≤ q → A q := fun q h => by rw [← hAe]; exact Or.inr h
  have hS : va_S A s.heap s.heap [] := va_S.rf
  have hl := lv_entry ([.ref (ad 904)]) (n := 1) (Nat.le_of_ble_eq_true rfl)
  rw [lg_entry_eq]
  generalize (lg_sl ([.ref (ad 904)]) ++ List.replicate (1 - (lg_sl ([.ref (ad 904)])).length) Slot.unset).toArray = ls at hl ⊢
  have hl : lv_has ls 1 [(0, .ref (ad 904))] := hl
  refine lv_aload_n hx hb dX0_layLeave_0 rfl (lv_at hl 0 rfl) ?_
  refine lv_sipush (v := 8195) hx hb dX0_layLeave_1 (by decide) ?_
  refine lv_iconst (v := 1) hx hb dX0_layLeave_4 (by decide) ?_
  refine lv_bipush (v := 8) hx hb dX0_layLeave_5 (by decide) ?_
  refine lv_bipush (v := -4) hx hb dX0_layLeave_7 (by decide) ?_
  refine cu_v (rn_Vk (n := 4) (As := [.int 8195, .int 1, .int 8, .int (-4)]) (rest := []) hx hb hml hown ht hKK hFx hP hD hS hA (c_x_X0_immediate l dC dI cI cB cZ cJ cR tb s.heap.size ad pr N L1 L2 v (8195 : Int32) (1 : Int32) (8 : Int32) (-4 : Int32) ps (show (N : Int) ≤ 4096 from (om_1c2c49c46c zNN)) (show pr ps = ad 908 from hps) (show (v.1 0 334) = ps from es334) (show 0 ≤ (v.1 0 337).toInt ∧ (v.1 0 337).toInt + 1 ≤ 7000000 from (om_5dfbb81569 zs))) tw_678 tw_679 (by decide +kernel) rfl rfl ⟨Nat.le_of_ble_eq_true rfl, Nat.le_of_ble_eq_true rfl⟩ (List.range (cW ad pr N cI cR L1 L2 v).length) (rg_map _) (nd_range _) 4 rfl rfl rfl rfl hl.1 rfl (Nat.le_of_ble_eq_true rfl) dX0_layLeave_9 ⟨Nat.le_of_ble_eq_true rfl, Nat.le_of_ble_eq_true rfl⟩) hP hD hS hA (fun u2 H locs hw1 hP hD hS => ?_)
  obtain ⟨fr1, ex1, pz1, rs1⟩ := hw1
  refine W.widen (k := 0) (n := 0) (Nat.le_refl _) (Nat.le_refl _) ?_
  refine lv_aload_n hx hb dX0_layLeave_12 rfl (lv_at hl 0 rfl) ?_
  refine lv_bipush (v := 19) hx hb dX0_layLeave_13 (by decide) ?_
  refine lv_iconst (v := 2) hx hb dX0_layLeave_15 (by decide) ?_
  refine lv_bipush (v := 8) hx hb dX0_layLeave_16 (by decide) ?_
  refine lv_iconst (v := 0) hx hb dX0_layLeave_18 (by decide) ?_
  refine cu_v (rn_Vk (n := 4) (As := [.int 19, .int 2, .int 8, .int 0]) (rest := []) hx hb hml hown ht hKK hFx hP hD hS hA (c_x_X0_immediate l dC dI cI cB cZ cJ cR tb H.size ad pr N L1 L2 u2 (19 : Int32) (2 : Int32) (8 : Int32) (0 : Int32) ps (show (N : Int) ≤ 4096 from (om_1c2c49c46c zNN)) (show pr ps = ad 908 from hps) (show (u2.1 0 334) = ps from (Eq.trans (fr1.2.1 334 (by decide)) es334)) (show 0 ≤ (u2.1 0 337).toInt ∧ (u2.1 0 337).toInt + 1 ≤ 7000000 from (om_3ec0cb71c6 zs pz1))) tw_678 tw_679 (by decide +kernel) rfl rfl ⟨Nat.le_of_ble_eq_true rfl, Nat.le_of_ble_eq_true rfl⟩ (List.range (cW ad pr N cI cR L1 L2 u2).length) (rg_map _) (nd_range _) 4 rfl rfl rfl rfl hl.1 rfl (Nat.le_of_ble_eq_true rfl) dX0_layLeave_19 ⟨Nat.le_of_ble_eq_true rfl, Nat.le_of_ble_eq_true rfl⟩) hP hD hS hA (fun u5 H locs hw4 hP hD hS => ?_)
  obtain ⟨fr4, ex4, pz4, rs4⟩ := hw4
  have pz4 : (u5.1 0 337).toInt = (u2.1 0 337).toInt + 1 := pz4
  have rs4 : RS u2 u5 := rs4
  refine W.widen (k := 0) (n := 0) (Nat.le_refl _) (Nat.le_refl _) ?_
  refine lv_aload_n hx hb dX0_layLeave_22 rfl (lv_at hl 0 rfl) ?_
  refine lv_sipush (v := 8195) hx hb dX0_layLeave_23 (by decide) ?_
  refine lv_bipush (v := 8) hx hb dX0_layLeave_26 (by decide) ?_
  refine lv_bipush (v := 8) hx hb dX0_layLeave_28 (by decide) ?_
  refine lv_bipush (v := -8) hx hb dX0_layLeave_30 (by decide) ?_
  refine cu_v (rn_Vk (n := 4) (As := [.int 8195, .int 8, .int 8, .int (-8)]) (rest := []) hx hb hml hown ht hKK hFx hP hD hS hA (c_x_X0_immediate l dC dI cI cB cZ cJ cR tb H.size ad pr N L1 L2 u5 (8195 : Int32) (8 : Int32) (8 : Int32) (-8 : Int32) ps (show (N : Int) ≤ 4096 from (om_1c2c49c46c zNN)) (show pr ps = ad 908 from hps) (show (u5.1 0 334) = ps from (Eq.trans (fr4.2.1 334 (by decide)) (Eq.trans (fr1.2.1 334 (by decide)) es334))) (show 0 ≤ (u5.1 0 337).toInt ∧ (u5.1 0 337).toInt + 1 ≤ 7000000 from (om_8296592fbf zs pz1 pz4))) tw_678 tw_679 (by decide +kernel) rfl rfl ⟨Nat.le_of_ble_eq_true rfl, Nat.le_of_ble_eq_true rfl⟩ (List.range (cW ad pr N cI cR L1 L2 u5).length) (rg_map _) (nd_range _) 4 rfl rfl rfl rfl hl.1 rfl (Nat.le_of_ble_eq_true rfl) dX0_layLeave_32 ⟨Nat.le_of_ble_eq_true rfl, Nat.le_of_ble_eq_true rfl⟩) hP hD hS hA (fun u8 H locs hw7 hP hD hS => ?_)
  obtain ⟨fr7, ex7, pz7, rs7⟩ := hw7
  have pz7 : (u8.1 0 337).toInt = (u5.1 0 337).toInt + 1 := pz7
  have rs7 : RS u5 u8 := rs7
  refine W.widen (k := 0) (n := 0) (Nat.le_refl _) (Nat.le_refl _) ?_
  refine lv_aload_n hx hb dX0_layLeave_35 rfl (lv_at hl 0 rfl) ?_
  refine lv_bipush (v := 103) hx hb dX0_layLeave_36 (by decide) ?_
  refine lv_iconst (v := 0) hx hb dX0_layLeave_38 (by decide) ?_
  refine lv_iconst (v := 1) hx hb dX0_layLeave_39 (by decide) ?_
  refine lv_iconst (v := 0) hx hb dX0_layLeave_40 (by decide) ?_
  refine cu_v (rn_Vk (n := 4) (As := [.int 103, .int 0, .int 1, .int 0]) (rest := []) hx hb hml hown ht hKK hFx hP hD hS hA (c_x_X0_immediate l dC dI cI cB cZ cJ cR tb H.size ad pr N L1 L2 u8 (103 : Int32) (0 : Int32) (1 : Int32) (0 : Int32) ps (show (N : Int) ≤ 4096 from (om_1c2c49c46c zNN)) (show pr ps = ad 908 from hps) (show (u8.1 0 334) = ps from (Eq.trans (fr7.2.1 334 (by decide)) (Eq.trans (fr4.2.1 334 (by decide)) (Eq.trans (fr1.2.1 334 (by decide)) es334)))) (show 0 ≤ (u8.1 0 337).toInt ∧ (u8.1 0 337).toInt + 1 ≤ 7000000 from (om_04b143f593 zs pz1 pz4 pz7))) tw_678 tw_679 (by decide +kernel) rfl rfl ⟨Nat.le_of_ble_eq_true rfl, Nat.le_of_ble_eq_true rfl⟩ (List.range (cW ad pr N cI cR L1 L2 u8).length) (rg_map _) (nd_range _) 4 rfl rfl rfl rfl hl.1 rfl (Nat.le_of_ble_eq_true rfl) dX0_layLeave_41 ⟨Nat.le_of_ble_eq_true rfl, Nat.le_of_ble_eq_true rfl⟩) hP hD hS hA (fun u11 H locs hw10 hP hD hS => ?_)
  obtain ⟨fr10, ex10, pz10, rs10⟩ := hw10
  have pz10 : (u11.1 0 337).toInt = (u8.1 0 337).toInt + 1 := pz10
  have rs10 : RS u8 u11 := rs10
  refine W.widen (k := 0) (n := 0) (Nat.le_refl _) (Nat.le_refl _) ?_
  exact W.vret hx hb hr (fun t ht9 hW => ⟨⟨u11, rfl, ⟨(FC.tr (FC.tr (FC.tr (FC.tr (FC.rf _) (FC.up fr1 (by decide) (by decide))) (FC.up fr4 (by decide) (by decide))) (FC.up fr7 (by decide) (by decide))) (FC.up fr10 (by decide) (by decide))), ⟨zs, u2, ex1, ⟨fr1, pz1, rs1⟩, u5, ex4, ⟨fr4, pz4, rs4⟩, u8, ex7, ⟨fr7, pz7, rs7⟩, u11, ex10, ⟨fr10, pz10, rs10⟩, rfl⟩, (show (u11.1 0 337).toInt = (v.1 0 337).toInt + 4 from (om_8a67c9e393 pz1 pz4 pz7 pz10)), (RS.tr (RS.tr (RS.tr (RS.tr RS.rf rs1) rs4) rs7) rs10)⟩, by rw [ht9]; exact hP, hD⟩, hS.F ht9⟩) hS.2.2 dX0_layLeave_44
theorem om_11a20d2072 {x0 x1 : Int} (h0 : x0 = x1 + 1) : x1 ≤ x0 ∧ x0 ≤ x1 + 2 := by omega
set_option maxHeartbeats 4000000 in
set_option maxRecDepth 100000 in
theorem c_x_X0_layNumber (l : Launch) (dC : Nat → ClassId) (dI : Nat → Nat → Nat) (cI cB cZ cJ cR : ClassId) (tb : Nat → Nat) (sz : Nat) (ad : Nat → Nat) (pr : Int32 → Nat) (N : Nat) (L1 L2 : List Nat) (v : MS) (pa : Int32) (ps : Int32) (zNN : (N : Int) ≤ 4096) (hps : pr ps = ad 908) (es334 : (v.1 0 334) = ps) (zs : 0 ≤ (v.1 0 337).toInt ∧ (v.1 0 337).toInt + 2 ≤ 7000000) : Met l yX0_layNumber (Cond.code yX0_layNumber cX0_layNumber 2 none :: tw_W) ({ frames := 2, cells := 0, slots := 0, locals := 45 }) (pc_ (dC, dI) (tyS cI cB cZ cJ cR) tb (cW ad pr N cI cR L1 L2 v) sz [.ref (ad 904), .int pa]) (qv_ (dC, dI) (cW ad pr N cI cR L1 L2 v) sz (fun (u : MS) => FC [337] [0, 382] v u ∧ (Q_x_X0_layNumber L1 L2 N v pa u) ∧ ((v.1 0 337).toInt ≤ (u.1 0 337).toInt ∧ (u.1 0 337).toInt ≤ (v.1 0 337).toInt + 2) ∧ (RS v u)) (fun (u : MS) => (cW ad pr N cI cR L1 L2 u))) 0 0 (va_A (cW ad pr N cI cR L1 L2 v) sz) := by
  refine Met.ofW (cc := cX0_layNumber) (maxL := 2) (ret := none) (by decide) rfl ?_
  intro p e s m args below meth c s₁ B hml hv
  obtain ⟨rfl, hsz, hP, hKK, hD0, hFx⟩ := hv
  have hK := hKK.1
  have hx := B.exec
  have hb := B.bytes
  have hr := B.returns
  have ht : ∀ w ∈ tw_W, w.before _ s = true := fun w h => atoms_spec (ws := Cond.code yX0_layNumber cX0_layNumber 2 none :: tw_W) B.pre w (List.mem_cons_of_mem _ h)
  have hown : s.vm.findClass RX0 = some m.cls := findClass_of_methodNamed B.named
  have hlocks := B.notSynchronized
  subst hsz
  unfold qv_
  have hD := hD0.self (sz := s.heap.size)
  generalize hAe : va_A (cW ad pr N cI cR L1 L2 v) s.heap.size = A at hD hFx ⊢
  have hA : ∀ q : Nat, s.heap.size ≤ q → A q := fun q h => by rw [← hAe]; exact Or.inr h
  have hS : va_S A s.heap s.heap [] := va_S.rf
  have hl := lv_entry ([.ref (ad 904), .int pa]) (n := 2) (Nat.le_of_ble_eq_true rfl)
  rw [lg_entry_eq]
  generalize (lg_sl ([.ref (ad 904), .int pa]) ++ List.replicate (2 - (lg_sl ([.ref (ad 904), .int pa])).length) Slot.unset).toArray = ls at hl ⊢
  have hl : lv_has ls 2 [(0, .ref (ad 904)), (1, .int pa)] := hl
  refine lv_iload_n hx hb dX0_layNumber_0 rfl (lv_at hl 1 rfl) ?_
  refine lv_sipush (v := -2048) hx hb dX0_layNumber_1 (by decide) ?_
  refine lv_icmp_lt (tgt := 27) hx hb dX0_layNumber_4 (by decide) (fun h1 => ?_) (fun h1 => ?_)
  · have z2 : pa.toInt < (-2048 : Int) := lt_z rfl (show ((-2048) : Int32).toInt = (-2048 : Int) by decide) h1
    refine lv_aload_n hx hb dX0_layNumber_27 rfl (lv_at hl 0 rfl) ?_
    refine lv_bipush (v := 10) hx hb dX0_layNumber_28 (by decide) ?_
    refine lv_iload_n hx hb dX0_layNumber_30 rfl (lv_at hl 1 rfl) ?_
    refine cu_v (rn_Vk (n := 2) (As := [.int 10, .int pa]) (rest := []) hx hb hml hown ht hKK hFx hP hD hS hA (c_x_X0_upper l dC dI cI cB cZ cJ cR tb s.heap.size ad pr N L1 L2 v (10 : Int32) pa ps (show (N : Int) ≤ 4096 from (om_1c2c49c46c zNN)) (show pr ps = ad 908 from hps) (show (v.1 0 334) = ps from es334) (show 0 ≤ (v.1 0 337).toInt ∧ (v.1 0 337).toInt + 1 ≤ 7000000 from (om_d0491bd047 zs))) tw_687 tw_688 (by decide +kernel) rfl rfl ⟨Nat.le_of_ble_eq_true rfl, Nat.le_of_ble_eq_true rfl⟩ (List.range (cW ad pr N cI cR L1 L2 v).length) (rg_map _) (nd_range _) 4 rfl rfl rfl rfl hl.1 rfl (Nat.le_of_ble_eq_true rfl) dX0_layNumber_31 ⟨Nat.le_of_ble_eq_true rfl, Nat.le_of_ble_eq_true rfl⟩) hP hD hS hA (fun u4 H locs hw3 hP hD hS => ?_)
    obtain ⟨fr3, ex3, pz3, rs3⟩ := hw3
    refine W.widen (k := 0) (n := 0) (Nat.le_refl _) (Nat.le_refl _) ?_
    refine lv_aload_n hx hb dX0_layNumber_34 rfl (lv_at hl 0 rfl) ?_
    refine lv_bipush (v := 19) hx hb dX0_layNumber_35 (by decide) ?_
    refine lv_bipush (v := 10) hx hb dX0_layNumber_37 (by decide) ?_
    refine lv_bipush (v := 10) hx hb dX0_layNumber_39 (by decide) ?_
    refine lv_iload_n hx hb dX0_layNumber_41 rfl (lv_at hl 1 rfl) ?_
    refine cu_s (nd_range _) (rn_S (n := 1) (As := [.int pa]) (rest := [.int 10, .int 10, .int 19, .ref (ad 904)]) hx hb hml hown ht hKK hFx hP hD hS hA (c_x_X0_low l dC dI cI cB cZ cJ cR tb H.size pa ) tw_689 tw_690 (by decide +kernel) rfl rfl ⟨Nat.le_of_ble_eq_true rfl, Nat.le_of_ble_eq_true rfl⟩ [] rfl rfl rfl hl.1 rfl (Nat.le_of_ble_eq_true rfl) dX0_layNumber_42 ⟨Nat.le_of_ble_eq_true rfl, Nat.le_of_ble_eq_true rfl⟩) hP hD hS hA (fun r8 H locs hw6 hP hD hS => ?_)
    have ex6 := hw6
    refine W.widen (k := 0) (n := 0) (Nat.le_refl _) (Nat.le_refl _) ?_
    refine cu_v (rn_Vk (n := 4) (As := [.int 19, .int 10, .int 10, .int r8]) (rest := []) hx hb hml hown ht hKK hFx hP hD hS hA (c_x_X0_immediate l dC dI cI cB cZ cJ cR tb H.size ad pr N L1 L2 u4 (19 : Int32) (10 : Int32) (10 : Int32) r8 ps (show (N : Int) ≤ 4096 from (om_1c2c49c46c zNN)) (show pr ps = ad 908 from hps) (show (u4.1 0 334) = ps from (Eq.trans (fr3.2.1 334 (by decide)) es334)) (show 0 ≤ (u4.1 0 337).toInt ∧ (u4.1 0 337).toInt + 1 ≤ 7000000 from (om_d2a48ee112 zs pz3))) tw_678 tw_679 (by decide +kernel) rfl rfl ⟨Nat.le_of_ble_eq_true rfl, Nat.le_of_ble_eq_true rfl⟩ (List.range (cW ad pr N cI cR L1 L2 u4).length) (rg_map _) (nd_range _) 4 rfl rfl rfl rfl hl.1 rfl (Nat.le_of_ble_eq_true rfl) dX0_layNumber_45 ⟨Nat.le_of_ble_eq_true rfl, Nat.le_of_ble_eq_true rfl⟩) hP hD hS hA (fun u10 H locs hw9 hP hD hS => ?_)
    obtain ⟨fr9, ex9, pz9, rs9⟩ := hw9
    have pz9 : (u10.1 0 337).toInt = (u4.1 0 337).toInt + 1 := pz9
    have rs9 : RS u4 u10 := rs9
    refine W.widen (k := 0) (n := 0) (Nat.le_refl _) (Nat.le_refl _) ?_
    exact W.vret hx hb hr (fun t ht9 hW => ⟨⟨u10, rfl, ⟨(FC.tr (FC.tr (FC.rf _) (FC.up fr3 (by decide) (by decide))) (FC.up fr9 (by decide) (by decide))), ⟨zs, (Or.inl ⟨z2, u4, ex3, ⟨fr3, pz3, rs3⟩, r8, ex6, u10, ex9, ⟨fr9, pz9, rs9⟩, rfl⟩)⟩, (show (v.1 0 337).toInt ≤ (u10.1 0 337).toInt ∧ (u10.1 0 337).toInt ≤ (v.1 0 337).toInt + 2 from (om_44baea2434 pz3 pz9)), (RS.tr (RS.tr RS.rf rs3) rs9)⟩, by rw [ht9]; exact hP, hD⟩, hS.F ht9⟩) hS.2.2 dX0_layNumber_48
  · have z12 : (-2048 : Int) ≤ pa.toInt := nlt_z rfl (show ((-2048) : Int32).toInt = (-2048 : Int) by decide) h1
    refine lv_iload_n hx hb dX0_layNumber_7 rfl (lv_at hl 1 rfl) ?_
    refine lv_sipush (v := 2047) hx hb dX0_layNumber_8 (by decide) ?_
    refine lv_icmp_gt (tgt := 27) hx hb dX0_layNumber_11 (by decide) (fun h13 => ?_) (fun h13 => ?_)
    · have z14 : (2047 : Int) < pa.toInt := lt_z (show (2047 : Int32).toInt = (2047 : Int) by decide) rfl h13
      refine lv_aload_n hx hb dX0_layNumber_27 rfl (lv_at hl 0 rfl) ?_
      refine lv_bipush (v := 10) hx hb dX0_layNumber_28 (by decide) ?_
      refine lv_iload_n hx hb dX0_layNumber_30 rfl (lv_at hl 1 rfl) ?_
      refine cu_v (rn_Vk (n := 2) (As := [.int 10, .int pa]) (rest := []) hx hb hml hown ht hKK hFx hP hD hS hA (c_x_X0_upper l dC dI cI cB cZ cJ cR tb s.heap.size ad pr N L1 L2 v (10 : Int32) pa ps (show (N : Int) ≤ 4096 from (om_1c2c49c46c zNN)) (show pr ps = ad 908 from hps) (show (v.1 0 334) = ps from es334) (show 0 ≤ (v.1 0 337).toInt ∧ (v.1 0 337).toInt + 1 ≤ 7000000 from (om_d0491bd047 zs))) tw_687 tw_688 (by decide +kernel) rfl rfl ⟨Nat.le_of_ble_eq_true rfl, Nat.le_of_ble_eq_true rfl⟩ (List.range (cW ad pr N cI cR L1 L2 v).length) (rg_map _) (nd_range _) 4 rfl rfl rfl rfl hl.1 rfl (Nat.le_of_ble_eq_true rfl) dX0_layNumber_31 ⟨Nat.le_of_ble_eq_true rfl, Nat.le_of_ble_eq_true rfl⟩) hP hD hS hA (fun u16 H locs hw15 hP hD hS => ?_)
      obtain ⟨fr15, ex15, pz15, rs15⟩ := hw15
      refine W.widen (k := 0) (n := 0) (Nat.le_refl _) (Nat.le_refl _) ?_
      refine lv_aload_n hx hb dX0_layNumber_34 rfl (lv_at hl 0 rfl) ?_
      refine lv_bipush (v := 19) hx hb dX0_layNumber_35 (by decide) ?_
      refine lv_bipush (v := 10) hx hb dX0_layNumber_37 (by decide) ?_
      refine lv_bipush (v := 10) hx hb dX0_layNumber_39 (by decide) ?_
      refine lv_iload_n hx hb dX0_layNumber_41 rfl (lv_at hl 1 rfl) ?_
      refine cu_s (nd_range _) (rn_S (n := 1) (As := [.int pa]) (rest := [.int 10, .int 10, .int 19, .ref (ad 904)]) hx hb hml hown ht hKK hFx hP hD hS hA (c_x_X0_low l dC dI cI cB cZ cJ cR tb H.size pa ) tw_689 tw_690 (by decide +kernel) rfl rfl ⟨Nat.le_of_ble_eq_true rfl, Nat.le_of_ble_eq_true rfl⟩ [] rfl rfl rfl hl.1 rfl (Nat.le_of_ble_eq_true rfl) dX0_layNumber_42 ⟨Nat.le_of_ble_eq_true rfl, Nat.le_of_ble_eq_true rfl⟩) hP hD hS hA (fun r20 H locs hw18 hP hD hS => ?_)
      have ex18 := hw18
      refine W.widen (k := 0) (n := 0) (Nat.le_refl _) (Nat.le_refl _) ?_
      refine cu_v (rn_Vk (n := 4) (As := [.int 19, .int 10, .int 10, .int r20]) (rest := []) hx hb hml hown ht hKK hFx hP hD hS hA (c_x_X0_immediate l dC dI cI cB cZ cJ cR tb H.size ad pr N L1 L2 u16 (19 : Int32) (10 : Int32) (10 : Int32) r20 ps (show (N : Int) ≤ 4096 from (om_1c2c49c46c zNN)) (show pr ps = ad 908 from hps) (show (u16.1 0 334) = ps from (Eq.trans (fr15.2.1 334 (by decide)) es334)) (show 0 ≤ (u16.1 0 337).toInt ∧ (u16.1 0 337).toInt + 1 ≤ 7000000 from (om_d2a48ee112 zs pz15))) tw_678 tw_679 (by decide +kernel) rfl rfl ⟨Nat.le_of_ble_eq_true rfl, Nat.le_of_ble_eq_true rfl⟩ (List.range (cW ad pr N cI cR L1 L2 u16).length) (rg_map _) (nd_range _) 4 rfl rfl rfl rfl hl.1 rfl (Nat.le_of_ble_eq_true rfl) dX0_layNumber_45 ⟨Nat.le_of_ble_eq_true rfl, Nat.le_of_ble_eq_true rfl⟩) hP hD hS hA (fun u22 H locs hw21 hP hD hS => ?_)
      obtain ⟨fr21, ex21, pz21, rs21⟩ := hw21
      have pz21 : (u22.1 0 337).toInt = (u16.1 0 337).toInt + 1 := pz21
      have rs21 : RS u16 u22 := rs21
      refine W.widen (k := 0) (n := 0) (Nat.le_refl _) (Nat.le_refl _) ?_
      exact W.vret hx hb hr (fun t ht9 hW => ⟨⟨u22, rfl, ⟨(FC.tr (FC.tr (FC.rf _) (FC.up fr15 (by decide) (by decide))) (FC.up fr21 (by decide) (by decide))), ⟨zs, (Or.inr (⟨z12, (Or.inl ⟨z14, u16, ex15, ⟨fr15, pz15, rs15⟩, r20, ex18, u22, ex21, ⟨fr21, pz21, rs21⟩, rfl⟩)⟩))⟩, (show (v.1 0 337).toInt ≤ (u22.1 0 337).toInt ∧ (u22.1 0 337).toInt ≤ (v.1 0 337).toInt + 2 from (om_44baea2434 pz15 pz21)), (RS.tr (RS.tr RS.rf rs15) rs21)⟩, by rw [ht9]; exact hP, hD⟩, hS.F ht9⟩) hS.2.2 dX0_layNumber_48
    · have z24 : pa.toInt ≤ (2047 : Int) := nlt_z (show (2047 : Int32).toInt = (2047 : Int) by decide) rfl h13
      refine lv_aload_n hx hb dX0_layNumber_14 rfl (lv_at hl 0 rfl) ?_
      refine lv_bipush (v := 19) hx hb dX0_layNumber_15 (by decide) ?_
      refine lv_bipush (v := 10) hx hb dX0_layNumber_17 (by decide) ?_
      refine lv_iconst (v := 0) hx hb dX0_layNumber_19 (by decide) ?_
      refine lv_iload_n hx hb dX0_layNumber_20 rfl (lv_at hl 1 rfl) ?_
      refine cu_v (rn_Vk (n := 4) (As := [.int 19, .int 10, .int 0, .int pa]) (rest := []) hx hb hml hown ht hKK hFx hP hD hS hA (c_x_X0_immediate l dC dI cI cB cZ cJ cR tb s.heap.size ad pr N L1 L2 v (19 : Int32) (10 : Int32) (0 : Int32) pa ps (show (N : Int) ≤ 4096 from (om_1c2c49c46c zNN)) (show pr ps = ad 908 from hps) (show (v.1 0 334) = ps from es334) (show 0 ≤ (v.1 0 337).toInt ∧ (v.1 0 337).toInt + 1 ≤ 7000000 from (om_d0491bd047 zs))) tw_678 tw_679 (by decide +kernel) rfl rfl ⟨Nat.le_of_ble_eq_true rfl, Nat.le_of_ble_eq_true rfl⟩ (List.range (cW ad pr N cI cR L1 L2 v).length) (rg_map _) (nd_range _) 4 rfl rfl rfl rfl hl.1 rfl (Nat.le_of_ble_eq_true rfl) dX0_layNumber_21 ⟨Nat.le_of_ble_eq_true rfl, Nat.le_of_ble_eq_true rfl⟩) hP hD hS hA (fun u26 H locs hw25 hP hD hS => ?_)
      obtain ⟨fr25, ex25, pz25, rs25⟩ := hw25
      refine W.widen (k := 0) (n := 0) (Nat.le_refl _) (Nat.le_refl _) ?_
      refine lv_goto (tgt := 48) hx hb dX0_layNumber_24 (by decide) ?_
      exact W.vret hx hb hr (fun t ht9 hW => ⟨⟨u26, rfl, ⟨(FC.tr (FC.rf _) (FC.up fr25 (by decide) (by decide))), ⟨zs, (Or.inr (⟨z12, (Or.inr (⟨z24, u26, ex25, ⟨fr25, pz25, rs25⟩, rfl⟩))⟩))⟩, (show (v.1 0 337).toInt ≤ (u26.1 0 337).toInt ∧ (u26.1 0 337).toInt ≤ (v.1 0 337).toInt + 2 from (om_11a20d2072 pz25)), (RS.tr RS.rf rs25)⟩, by rw [ht9]; exact hP, hD⟩, hS.F ht9⟩) hS.2.2 dX0_layNumber_48
theorem om_de03119a61 {x0 : Int} (h0 : 0 ≤ x0 ∧ x0 + 8 ≤ 7000000) : 0 ≤ x0 ∧ x0 + 1 ≤ 7000000 := by omega
theorem om_6b468904bd {x0 x1 : Int} (h0 : 0 ≤ x0 ∧ x0 + 8 ≤ 7000000) (h1 : x1 = x0 + 1) : 0 ≤ x1 ∧ x1 + 1 ≤ 7000000 := by omega
theorem om_b4fd2a46b1 {x0 x1 x2 : Int} (h0 : 0 ≤ x0 ∧ x0 + 8 ≤ 7000000) (h1 : x1 = x0 + 1) (h2 : x2 = x1 + 1) : 0 ≤ x2 ∧ x2 + 1 ≤ 7000000 := by omega
theorem om_d5084b4226 {x0 x1 x2 x3 : Int} (h0 : 0 ≤ x0 ∧ x0 + 8 ≤ 7000000) (h1 : x1 = x0 + 1) (h2 : x2 = x1 + 1) (h3 : x3 = x2 + 1) : 0 ≤ x3 ∧ x3 + 1 ≤ 7000000 := by omega
theorem om_b6ddbaf6d2 {x0 x1 x2 x3 x4 : Int} (h0 : 0 ≤ x0 ∧ x0 + 8 ≤ 7000000) (h1 : x1 = x0 + 1) (h2 : x2 = x1 + 1) (h3 : x3 = x2 + 1) (h4 : x4 = x3 + 1) : 0 ≤ x4 ∧ x4 + 1 ≤ 7000000 := by omega
theorem om_3e5864d5b7 {x0 x1 x2 x3 x4 x5 : Int} (h0 : 0 ≤ x0 ∧ x0 + 8 ≤ 7000000) (h1 : x1 = x0 + 1) (h2 : x2 = x1 + 1) (h3 : x3 = x2 + 1) (h4 : x4 = x3 + 1) (h5 : x5 = x4 + 1) : 0 ≤ x5 ∧ x5 + 1 ≤ 7000000 := by omega
theorem om_8e12860209 {x0 x1 x2 x3 x4 x5 x6 : Int} (h0 : 0 ≤ x0 ∧ x0 + 8 ≤ 7000000) (h1 : x1 = x0 + 1) (h2 : x2 = x1 + 1) (h3 : x3 = x2 + 1) (h4 : x4 = x3 + 1) (h5 : x5 = x4 + 1) (h6 : x6 = x5 + 1) : 0 ≤ x6 ∧ x6 + 1 ≤ 7000000 := by omega
theorem om_f715c8adc5 {x0 x1 x2 x3 x4 x5 x6 x7 : Int} (h0 : 0 ≤ x0 ∧ x0 + 8 ≤ 7000000) (h1 : x1 = x0 + 1) (h2 : x2 = x1 + 1) (h3 : x3 = x2 + 1) (h4 : x4 = x3 + 1) (h5 : x5 = x4 + 1) (h6 : x6 = x5 + 1) (h7 : x7 = x6 + 1) : 0 ≤ x7 ∧ x7 + 1 ≤ 7000000 := by omega
theorem om_4e0f8b308c {x0 x1 x2 x3 x4 x5 x6 x7 x8 : Int} (h0 : x0 = x1 + 1) (h1 : x2 = x0 + 1) (h2 : x3 = x2 + 1) (h3 : x4 = x3 + 1) (h4 : x5 = x4 + 1) (h5 : x6 = x5 + 1) (h6 : x7 = x6 + 1) (h7 : x8 = x7 + 1) : x8 = x1 + 8 := by omega
set_option maxHeartbeats 4000000 in
set_option maxRecDepth 100000 in
theorem c_x_X0_layIndex (l : Launch) (dC : Nat → ClassId) (dI : Nat → Nat → Nat) (cI cB cZ cJ cR : ClassId) (tb : Nat → Nat) (sz : Nat) (ad : Nat → Nat) (pr : Int32 → Nat) (N : Nat) (L1 L2 : List Nat) (v : MS) (pa : Int32) (pb : Int32) (ps : Int32) (zNN : (N : Int) ≤ 4096) (hps : pr ps = ad 908) (es334 : (v.1 0 334) = ps) (zs : 0 ≤ (v.1 0 337).toInt ∧ (v.1 0 337).toInt + 8 ≤ 7000000) : Met l yX0_layIndex (Cond.code yX0_layIndex cX0_layIndex 3 none :: tw_W) ({ frames := 2, cells := 0, slots := 0, locals := 45 }) (pc_ (dC, dI) (tyS cI cB cZ cJ cR) tb (cW ad pr N cI cR L1 L2 v) sz [.ref (ad 904), .int pa, .int pb]) (qv_ (dC, dI) (cW ad pr N cI cR L1 L2 v) sz (fun (u : MS) => FC [337] [0, 382] v u ∧ (Q_x_X0_layIndex L1 L2 N v pa pb u) ∧ ((u.1 0 337).toInt = (v.1 0 337).toInt + 8) ∧ (RS v u)) (fun (u : MS) => (cW ad pr N cI cR L1 L2 u))) 0 0 (va_A (cW ad pr N cI cR L1 L2 v) sz) := by
  refine Met.ofW (cc := cX0_layIndex) (maxL := 3) (ret := none) (by decide) rfl ?_
  intro p e s m args below meth c s₁ B hml hv
  obtain ⟨rfl, hsz, hP, hKK, hD0, hFx⟩ := hv
  have hK := hKK.1
  have hx := B.exec
  have hb := B.bytes
  have hr := B.returns
  have ht : ∀ w ∈ tw_W, w.before _ s = true := fun w h => atoms_spec (ws := Cond.code yX0_layIndex cX0_layIndex 3 none :: tw_W) B.pre w (List.mem_cons_of_mem _ h)
  have hown : s.vm.findClass RX0 = some m.cls := findClass_of_methodNamed B.named
  have hlocks := B.notSynchronized
  subst hsz
  unfold qv_
  have hD := hD0.self (sz := s.heap.size)
  generalize hAe : va_A (cW ad pr N cI cR L1 L2 v) s.heap.size = A at hD hFx ⊢
  have hA : ∀ q : Nat, s.heap.size ≤ q → A q := fun q h => by rw [← hAe]; exact Or.inr h
  have hS : va_S A s.heap s.heap [] := va_S.rf
  have hl := lv_entry ([.ref (ad 904), .int pa, .int pb]) (n := 3) (Nat.le_of_ble_eq_true rfl)
  rw [lg_entry_eq]
  generalize (lg_sl ([.ref (ad 904), .int pa, .int pb]) ++ List.replicate (3 - (lg_sl ([.ref (ad 904), .int pa, .int pb])).length) Slot.unset).toArray = ls at hl ⊢
  have hl : lv_has ls 3 [(0, .ref (ad 904)), (1, .int pa), (2, .int pb)] := hl
  refine lv_aload_n hx hb dX0_layIndex_0 rfl (lv_at hl 0 rfl) ?_
  refine lv_bipush (v := 6) hx hb dX0_layIndex_1 (by decide) ?_
  refine lv_iload_n hx hb dX0_layIndex_3 rfl (lv_at hl 1 rfl) ?_
  refine cu_v (rn_Vk (n := 2) (As := [.int 6, .int pa]) (rest := []) hx hb hml hown ht hKK hFx hP hD hS hA (c_x_X0_upper l dC dI cI cB cZ cJ cR tb s.heap.size ad pr N L1 L2 v (6 : Int32) pa ps (show (N : Int) ≤ 4096 from (om_1c2c49c46c zNN)) (show pr ps = ad 908 from hps) (show (v.1 0 334) = ps from es334) (show 0 ≤ (v.1 0 337).toInt ∧ (v.1 0 337).toInt + 1 ≤ 7000000 from (om_de03119a61 zs))) tw_687 tw_688 (by decide +kernel) rfl rfl ⟨Nat.le_of_ble_eq_true rfl, Nat.le_of_ble_eq_true rfl⟩ (List.range (cW ad pr N cI cR L1 L2 v).length) (rg_map _) (nd_range _) 4 rfl rfl rfl rfl hl.1 rfl (Nat.le_of_ble_eq_true rfl) dX0_layIndex_4 ⟨Nat.le_of_ble_eq_true rfl, Nat.le_of_ble_eq_true rfl⟩) hP hD hS hA (fun u2 H locs hw1 hP hD hS => ?_)
  obtain ⟨fr1, ex1, pz1, rs1⟩ := hw1
  refine W.widen (k := 0) (n := 0) (Nat.le_refl _) (Nat.le_refl _) ?_
  refine lv_aload_n hx hb dX0_layIndex_7 rfl (lv_at hl 0 rfl) ?_
  refine lv_bipush (v := 19) hx hb dX0_layIndex_8 (by decide) ?_
  refine lv_bipush (v := 6) hx hb dX0_layIndex_10 (by decide) ?_
  refine lv_bipush (v := 6) hx hb dX0_layIndex_12 (by decide) ?_
  refine lv_iload_n hx hb dX0_layIndex_14 rfl (lv_at hl 1 rfl) ?_
  refine cu_s (nd_range _) (rn_S (n := 1) (As := [.int pa]) (rest := [.int 6, .int 6, .int 19, .ref (ad 904)]) hx hb hml hown ht hKK hFx hP hD hS hA (c_x_X0_low l dC dI cI cB cZ cJ cR tb H.size pa ) tw_689 tw_690 (by decide +kernel) rfl rfl ⟨Nat.le_of_ble_eq_true rfl, Nat.le_of_ble_eq_true rfl⟩ [] rfl rfl rfl hl.1 rfl (Nat.le_of_ble_eq_true rfl) dX0_layIndex_15 ⟨Nat.le_of_ble_eq_true rfl, Nat.le_of_ble_eq_true rfl⟩) hP hD hS hA (fun r6 H locs hw4 hP hD hS => ?_)
  have ex4 := hw4
  refine W.widen (k := 0) (n := 0) (Nat.le_refl _) (Nat.le_refl _) ?_
  refine cu_v (rn_Vk (n := 4) (As := [.int 19, .int 6, .int 6, .int r6]) (rest := []) hx hb hml hown ht hKK hFx hP hD hS hA (c_x_X0_immediate l dC dI cI cB cZ cJ cR tb H.size ad pr N L1 L2 u2 (19 : Int32) (6 : Int32) (6 : Int32) r6 ps (show (N : Int) ≤ 4096 from (om_1c2c49c46c zNN)) (show pr ps = ad 908 from hps) (show (u2.1 0 334) = ps from (Eq.trans (fr1.2.1 334 (by decide)) es334)) (show 0 ≤ (u2.1 0 337).toInt ∧ (u2.1 0 337).toInt + 1 ≤ 7000000 from (om_6b468904bd zs pz1))) tw_678 tw_679 (by decide +kernel) rfl rfl ⟨Nat.le_of_ble_eq_true rfl, Nat.le_of_ble_eq_true rfl⟩ (List.range (cW ad pr N cI cR L1 L2 u2).length) (rg_map _) (nd_range _) 4 rfl rfl rfl rfl hl.1 rfl (Nat.le_of_ble_eq_true rfl) dX0_layIndex_18 ⟨Nat.le_of_ble_eq_true rfl, Nat.le_of_ble_eq_true rfl⟩) hP hD hS hA (fun u8 H locs hw7 hP hD hS => ?_)
  obtain ⟨fr7, ex7, pz7, rs7⟩ := hw7
  have pz7 : (u8.1 0 337).toInt = (u2.1 0 337).toInt + 1 := pz7
  have rs7 : RS u2 u8 := rs7
  refine W.widen (k := 0) (n := 0) (Nat.le_refl _) (Nat.le_refl _) ?_
  refine lv_aload_n hx hb dX0_layIndex_21 rfl (lv_at hl 0 rfl) ?_
  refine lv_sipush (v := 24675) hx hb dX0_layIndex_22 (by decide) ?_
  refine lv_bipush (v := 10) hx hb dX0_layIndex_25 (by decide) ?_
  refine lv_bipush (v := 6) hx hb dX0_layIndex_27 (by decide) ?_
  refine lv_bipush (v := 12) hx hb dX0_layIndex_29 (by decide) ?_
  refine cu_v (rn_Vk (n := 4) (As := [.int 24675, .int 10, .int 6, .int 12]) (rest := []) hx hb hml hown ht hKK hFx hP hD hS hA (c_x_X0_branch l dC dI cI cB cZ cJ cR tb H.size ad pr N L1 L2 u8 (24675 : Int32) (10 : Int32) (6 : Int32) (12 : Int32) ps (show (N : Int) ≤ 4096 from (om_1c2c49c46c zNN)) (show pr ps = ad 908 from hps) (show (u8.1 0 334) = ps from (Eq.trans (fr7.2.1 334 (by decide)) (Eq.trans (fr1.2.1 334 (by decide)) es334))) (show 0 ≤ (u8.1 0 337).toInt ∧ (u8.1 0 337).toInt + 1 ≤ 7000000 from (om_b4fd2a46b1 zs pz1 pz7))) tw_691 tw_692 (by decide +kernel) rfl rfl ⟨Nat.le_of_ble_eq_true rfl, Nat.le_of_ble_eq_true rfl⟩ (List.range (cW ad pr N cI cR L1 L2 u8).length) (rg_map _) (nd_range _) 4 rfl rfl rfl rfl hl.1 rfl (Nat.le_of_ble_eq_true rfl) dX0_layIndex_31 ⟨Nat.le_of_ble_eq_true rfl, Nat.le_of_ble_eq_true rfl⟩) hP hD hS hA (fun u11 H locs hw10 hP hD hS => ?_)
  obtain ⟨fr10, ex10, pz10, rs10⟩ := hw10
  have pz10 : (u11.1 0 337).toInt = (u8.1 0 337).toInt + 1 := pz10
  have rs10 : RS u8 u11 := rs10
  refine W.widen (k := 0) (n := 0) (Nat.le_refl _) (Nat.le_refl _) ?_
  refine lv_aload_n hx hb dX0_layIndex_34 rfl (lv_at hl 0 rfl) ?_
  refine lv_bipush (v := 19) hx hb dX0_layIndex_35 (by decide) ?_
  refine lv_bipush (v := 17) hx hb dX0_layIndex_37 (by decide) ?_
  refine lv_iconst (v := 0) hx hb dX0_layIndex_39 (by decide) ?_
  refine lv_iconst (v := 3) hx hb dX0_layIndex_40 (by decide) ?_
  refine cu_v (rn_Vk (n := 4) (As := [.int 19, .int 17, .int 0, .int 3]) (rest := []) hx hb hml hown ht hKK hFx hP hD hS hA (c_x_X0_immediate l dC dI cI cB cZ cJ cR tb H.size ad pr N L1 L2 u11 (19 : Int32) (17 : Int32) (0 : Int32) (3 : Int32) ps (show (N : Int) ≤ 4096 from (om_1c2c49c46c zNN)) (show pr ps = ad 908 from hps) (show (u11.1 0 334) = ps from (Eq.trans (fr10.2.1 334 (by decide)) (Eq.trans (fr7.2.1 334 (by decide)) (Eq.trans (fr1.2.1 334 (by decide)) es334)))) (show 0 ≤ (u11.1 0 337).toInt ∧ (u11.1 0 337).toInt + 1 ≤ 7000000 from (om_d5084b4226 zs pz1 pz7 pz10))) tw_678 tw_679 (by decide +kernel) rfl rfl ⟨Nat.le_of_ble_eq_true rfl, Nat.le_of_ble_eq_true rfl⟩ (List.range (cW ad pr N cI cR L1 L2 u11).length) (rg_map _) (nd_range _) 4 rfl rfl rfl rfl hl.1 rfl (Nat.le_of_ble_eq_true rfl) dX0_layIndex_41 ⟨Nat.le_of_ble_eq_true rfl, Nat.le_of_ble_eq_true rfl⟩) hP hD hS hA (fun u14 H locs hw13 hP hD hS => ?_)
  obtain ⟨fr13, ex13, pz13, rs13⟩ := hw13
  have pz13 : (u14.1 0 337).toInt = (u11.1 0 337).toInt + 1 := pz13
  have rs13 : RS u11 u14 := rs13
  refine W.widen (k := 0) (n := 0) (Nat.le_refl _) (Nat.le_refl _) ?_
  refine lv_aload_n hx hb dX0_layIndex_44 rfl (lv_at hl 0 rfl) ?_
  refine lv_ldc (v := 1048691) hx hb hown (ht _ tw_680) dX0_layIndex_45 ?_
  refine cu_v (rn_Vk (n := 1) (As := [.int 1048691]) (rest := []) hx hb hml hown ht hKK hFx hP hD hS hA (c_x_X0_emit l dC dI cI cB cZ cJ cR tb H.size ad pr N L1 L2 u14 (1048691 : Int32) ps (show (N : Int) ≤ 4096 from (om_1c2c49c46c zNN)) (show pr ps = ad 908 from hps) (show (u14.1 0 334) = ps from (Eq.trans (fr13.2.1 334 (by decide)) (Eq.trans (fr10.2.1 334 (by decide)) (Eq.trans (fr7.2.1 334 (by decide)) (Eq.trans (fr1.2.1 334 (by decide)) es334))))) (show 0 ≤ (u14.1 0 337).toInt ∧ (u14.1 0 337).toInt + 1 ≤ 7000000 from (om_b6ddbaf6d2 zs pz1 pz7 pz10 pz13))) tw_676 tw_677 (by decide +kernel) rfl rfl ⟨Nat.le_of_ble_eq_true rfl, Nat.le_of_ble_eq_true rfl⟩ (List.range (cW ad pr N cI cR L1 L2 u14).length) (rg_map _) (nd_range _) 4 rfl rfl rfl rfl hl.1 rfl (Nat.le_of_ble_eq_true rfl) dX0_layIndex_47 ⟨Nat.le_of_ble_eq_true rfl, Nat.le_of_ble_eq_true rfl⟩) hP hD hS hA (fun u17 H locs hw16 hP hD hS => ?_)
  obtain ⟨fr16, ex16, pz16, rs16⟩ := hw16
  have pz16 : (u17.1 0 337).toInt = (u14.1 0 337).toInt + 1 := pz16
  have rs16 : RS u14 u17 := rs16
  refine W.widen (k := 0) (n := 0) (Nat.le_refl _) (Nat.le_refl _) ?_
  refine lv_aload_n hx hb dX0_layIndex_50 rfl (lv_at hl 0 rfl) ?_
  refine lv_sipush (v := 4115) hx hb dX0_layIndex_51 (by decide) ?_
  refine lv_bipush (v := 10) hx hb dX0_layIndex_54 (by decide) ?_
  refine lv_bipush (v := 10) hx hb dX0_layIndex_56 (by decide) ?_
  refine lv_iconst (v := 2) hx hb dX0_layIndex_58 (by decide) ?_
  refine cu_v (rn_Vk (n := 4) (As := [.int 4115, .int 10, .int 10, .int 2]) (rest := []) hx hb hml hown ht hKK hFx hP hD hS hA (c_x_X0_immediate l dC dI cI cB cZ cJ cR tb H.size ad pr N L1 L2 u17 (4115 : Int32) (10 : Int32) (10 : Int32) (2 : Int32) ps (show (N : Int) ≤ 4096 from (om_1c2c49c46c zNN)) (show pr ps = ad 908 from hps) (show (u17.1 0 334) = ps from (Eq.trans (fr16.2.1 334 (by decide)) (Eq.trans (fr13.2.1 334 (by decide)) (Eq.trans (fr10.2.1 334 (by decide)) (Eq.trans (fr7.2.1 334 (by decide)) (Eq.trans (fr1.2.1 334 (by decide)) es334)))))) (show 0 ≤ (u17.1 0 337).toInt ∧ (u17.1 0 337).toInt + 1 ≤ 7000000 from (om_3e5864d5b7 zs pz1 pz7 pz10 pz13 pz16))) tw_678 tw_679 (by decide +kernel) rfl rfl ⟨Nat.le_of_ble_eq_true rfl, Nat.le_of_ble_eq_true rfl⟩ (List.range (cW ad pr N cI cR L1 L2 u17).length) (rg_map _) (nd_range _) 4 rfl rfl rfl rfl hl.1 rfl (Nat.le_of_ble_eq_true rfl) dX0_layIndex_59 ⟨Nat.le_of_ble_eq_true rfl, Nat.le_of_ble_eq_true rfl⟩) hP hD hS hA (fun u20 H locs hw19 hP hD hS => ?_)
  obtain ⟨fr19, ex19, pz19, rs19⟩ := hw19
  have pz19 : (u20.1 0 337).toInt = (u17.1 0 337).toInt + 1 := pz19
  have rs19 : RS u17 u20 := rs19
  refine W.widen (k := 0) (n := 0) (Nat.le_refl _) (Nat.le_refl _) ?_
  refine lv_aload_n hx hb dX0_layIndex_62 rfl (lv_at hl 0 rfl) ?_
  refine lv_bipush (v := 6) hx hb dX0_layIndex_63 (by decide) ?_
  refine lv_iload_n hx hb dX0_layIndex_65 rfl (lv_at hl 2 rfl) ?_
  refine cu_v (rn_Vk (n := 2) (As := [.int 6, .int pb]) (rest := []) hx hb hml hown ht hKK hFx hP hD hS hA (c_x_X0_upper l dC dI cI cB cZ cJ cR tb H.size ad pr N L1 L2 u20 (6 : Int32) pb ps (show (N : Int) ≤ 4096 from (om_1c2c49c46c zNN)) (show pr ps = ad 908 from hps) (show (u20.1 0 334) = ps from (Eq.trans (fr19.2.1 334 (by decide)) (Eq.trans (fr16.2.1 334 (by decide)) (Eq.trans (fr13.2.1 334 (by decide)) (Eq.trans (fr10.2.1 334 (by decide)) (Eq.trans (fr7.2.1 334 (by decide)) (Eq.trans (fr1.2.1 334 (by decide)) es334))))))) (show 0 ≤ (u20.1 0 337).toInt ∧ (u20.1 0 337).toInt + 1 ≤ 7000000 from (om_8e12860209 zs pz1 pz7 pz10 pz13 pz16 pz19))) tw_687 tw_688 (by decide +kernel) rfl rfl ⟨Nat.le_of_ble_eq_true rfl, Nat.le_of_ble_eq_true rfl⟩ (List.range (cW ad pr N cI cR L1 L2 u20).length) (rg_map _) (nd_range _) 4 rfl rfl rfl rfl hl.1 rfl (Nat.le_of_ble_eq_true rfl) dX0_layIndex_66 ⟨Nat.le_of_ble_eq_true rfl, Nat.le_of_ble_eq_true rfl⟩) hP hD hS hA (fun u23 H locs hw22 hP hD hS => ?_)
  obtain ⟨fr22, ex22, pz22, rs22⟩ := hw22
  have pz22 : (u23.1 0 337).toInt = (u20.1 0 337).toInt + 1 := pz22
  have rs22 : RS u20 u23 := rs22
  refine W.widen (k := 0) (n := 0) (Nat.le_refl _) (Nat.le_refl _) ?_
  refine lv_aload_n hx hb dX0_layIndex_69 rfl (lv_at hl 0 rfl) ?_
  refine lv_bipush (v := 51) hx hb dX0_layIndex_70 (by decide) ?_
  refine lv_bipush (v := 10) hx hb dX0_layIndex_72 (by decide) ?_
  refine lv_bipush (v := 10) hx hb dX0_layIndex_74 (by decide) ?_
  refine lv_bipush (v := 6) hx hb dX0_layIndex_76 (by decide) ?_
  refine cu_v (rn_Vk (n := 4) (As := [.int 51, .int 10, .int 10, .int 6]) (rest := []) hx hb hml hown ht hKK hFx hP hD hS hA (c_x_X0_three l dC dI cI cB cZ cJ cR tb H.size ad pr N L1 L2 u23 (51 : Int32) (10 : Int32) (10 : Int32) (6 : Int32) ps (show (N : Int) ≤ 4096 from (om_1c2c49c46c zNN)) (show pr ps = ad 908 from hps) (show (u23.1 0 334) = ps from (Eq.trans (fr22.2.1 334 (by decide)) (Eq.trans (fr19.2.1 334 (by decide)) (Eq.trans (fr16.2.1 334 (by decide)) (Eq.trans (fr13.2.1 334 (by decide)) (Eq.trans (fr10.2.1 334 (by decide)) (Eq.trans (fr7.2.1 334 (by decide)) (Eq.trans (fr1.2.1 334 (by decide)) es334)))))))) (show 0 ≤ (u23.1 0 337).toInt ∧ (u23.1 0 337).toInt + 1 ≤ 7000000 from (om_f715c8adc5 zs pz1 pz7 pz10 pz13 pz16 pz19 pz22))) tw_693 tw_694 (by decide +kernel) rfl rfl ⟨Nat.le_of_ble_eq_true rfl, Nat.le_of_ble_eq_true rfl⟩ (List.range (cW ad pr N cI cR L1 L2 u23).length) (rg_map _) (nd_range _) 4 rfl rfl rfl rfl hl.1 rfl (Nat.le_of_ble_eq_true rfl) dX0_layIndex_78 ⟨Nat.le_of_ble_eq_true rfl, Nat.le_of_ble_eq_true rfl⟩) hP hD hS hA (fun u26 H locs hw25 hP hD hS => ?_)
  obtain ⟨fr25, ex25, pz25, rs25⟩ := hw25
  have pz25 : (u26.1 0 337).toInt = (u23.1 0 337).toInt + 1 := pz25
  have rs25 : RS u23 u26 := rs25
  refine W.widen (k := 0) (n := 0) (Nat.le_refl _) (Nat.le_refl _) ?_
  exact W.vret hx hb hr (fun t ht9 hW => ⟨⟨u26, rfl, ⟨(FC.tr (FC.tr (FC.tr (FC.tr (FC.tr (FC.tr (FC.tr (FC.tr (FC.rf _) (FC.up fr1 (by decide) (by decide))) (FC.up fr7 (by decide) (by decide))) (FC.up fr10 (by decide) (by decide))) (FC.up fr13 (by decide) (by decide))) (FC.up fr16 (by decide) (by decide))) (FC.up fr19 (by decide) (by decide))) (FC.up fr22 (by decide) (by decide))) (FC.up fr25 (by decide) (by decide))), ⟨zs, u2, ex1, ⟨fr1, pz1, rs1⟩, r6, ex4, u8, ex7, ⟨fr7, pz7, rs7⟩, u11, ex10, ⟨fr10, pz10, rs10⟩, u14, ex13, ⟨fr13, pz13, rs13⟩, u17, ex16, ⟨fr16, pz16, rs16⟩, u20, ex19, ⟨fr19, pz19, rs19⟩, u23, ex22, ⟨fr22, pz22, rs22⟩, u26, ex25, ⟨fr25, pz25, rs25⟩, rfl⟩, (show (u26.1 0 337).toInt = (v.1 0 337).toInt + 8 from (om_4e0f8b308c pz1 pz7 pz10 pz13 pz16 pz19 pz22 pz25)), (RS.tr (RS.tr (RS.tr (RS.tr (RS.tr (RS.tr (RS.tr (RS.tr RS.rf rs1) rs7) rs10) rs13) rs16) rs19) rs22) rs25)⟩, by rw [ht9]; exact hP, hD⟩, hS.F ht9⟩) hS.2.2 dX0_layIndex_81
theorem om_147013809e {x0 : Int} (h0 : 0 ≤ x0 ∧ x0 + 3 ≤ 7000000) : 0 ≤ x0 ∧ x0 + 1 ≤ 7000000 := by omega
theorem om_ebc6f3f6b9 {x0 x1 : Int} (h0 : x0 = x1 + 1) : x1 ≤ x0 ∧ x0 ≤ x1 + 3 := by omega
theorem om_19e944ed04 {x0 x1 : Int} (h0 : 0 ≤ x0 ∧ x0 + 3 ≤ 7000000) (h1 : x1 = x0 + 1) : 0 ≤ x1 ∧ x1 + 1 ≤ 7000000 := by omega
theorem om_9f6bdad2c6 {x0 x1 x2 : Int} (h0 : 0 ≤ x0 ∧ x0 + 3 ≤ 7000000) (h1 : x1 = x0 + 1) (h2 : x2 = x1 + 1) : 0 ≤ x2 ∧ x2 + 1 ≤ 7000000 := by omega
theorem om_805458116b {x0 x1 x2 x3 : Int} (h0 : x0 = x1 + 1) (h1 : x2 = x0 + 1) (h2 : x3 = x2 + 1) : x1 ≤ x3 ∧ x3 ≤ x1 + 3 := by omega
theorem om_64c48ee76b {x0 x1 x2 : Int} (h0 : x0 = x1 + 1) (h1 : x2 = x0 + 1) : x1 ≤ x2 ∧ x2 ≤ x1 + 3 := by omega
set_option maxHeartbeats 4000000 in
set_option maxRecDepth 100000 in
theorem c_x_X0_layJump (l : Launch) (dC : Nat → ClassId) (dI : Nat → Nat → Nat) (cI cB cZ cJ cR : ClassId) (tb : Nat → Nat) (sz : Nat) (ad : Nat → Nat) (pr : Int32 → Nat) (N : Nat) (L1 L2 : List Nat) (v : MS) (pa : Int32) (pb : Int32) (ps : Int32) (zNN : (N : Int) ≤ 4096) (hps : pr ps = ad 908) (es334 : (v.1 0 334) = ps) (zs : 0 ≤ (v.1 0 337).toInt ∧ (v.1 0 337).toInt + 3 ≤ 7000000) : Met l yX0_layJump (Cond.code yX0_layJump cX0_layJump 3 none :: tw_W) ({ frames := 2, cells := 0, slots := 0, locals := 45 }) (pc_ (dC, dI) (tyS cI cB cZ cJ cR) tb (cW ad pr N cI cR L1 L2 v) sz [.ref (ad 904), .int pa, .int pb]) (qv_ (dC, dI) (cW ad pr N cI cR L1 L2 v) sz (fun (u : MS) => FC [337] [0, 382] v u ∧ (Q_x_X0_layJump L1 L2 N v pa pb u) ∧ ((v.1 0 337).toInt ≤ (u.1 0 337).toInt ∧ (u.1 0 337).toInt ≤ (v.1 0 337).toInt + 3) ∧ (RS v u)) (fun (u : MS) => (cW ad pr N cI cR L1 L2 u))) 0 0 (va_A (cW ad pr N cI cR L1 L2 v) sz) := by
  refine Met.ofW (cc := cX0_layJump) (maxL := 3) (ret := none) (by decide) rfl ?_
  intro p e s m args below meth c s₁ B hml hv
  obtain ⟨rfl, hsz, hP, hKK, hD0, hFx⟩ := hv
  have hK := hKK.1
  have hx := B.exec
  have hb := B.bytes
  have hr := B.returns
  have ht : ∀ w ∈ tw_W, w.before _ s = true := fun w h => atoms_spec (ws := Cond.code yX0_layJump cX0_layJump 3 none :: tw_W) B.pre w (List.mem_cons_of_mem _ h)
  have hown : s.vm.findClass RX0 = some m.cls := findClass_of_methodNamed B.named
  have hlocks := B.notSynchronized
  subst hsz
  unfold qv_
  have hD := hD0.self (sz := s.heap.size)
  generalize hAe : va_A (cW ad pr N cI cR L1 L2 v) s.heap.size = A at hD hFx ⊢
  have hA : ∀ q : Nat, s.heap.size ≤ q → A q := fun q h => by rw [← hAe]; exact Or.inr h
  have hS : va_S A s.heap s.heap [] := va_S.rf
  have hl := lv_entry ([.ref (ad 904), .int pa, .int pb]) (n := 3) (Nat.le_of_ble_eq_true rfl)
  rw [lg_entry_eq]
  generalize (lg_sl ([.ref (ad 904), .int pa, .int pb]) ++ List.replicate (3 - (lg_sl ([.ref (ad 904), .int pa, .int pb])).length) Slot.unset).toArray = ls at hl ⊢
  have hl : lv_has ls 3 [(0, .ref (ad 904)), (1, .int pa), (2, .int pb)] := hl
  refine lv_iload_n hx hb dX0_layJump_0 rfl (lv_at hl 1 rfl) ?_
  refine lv_bipush (v := 16) hx hb dX0_layJump_1 (by decide) ?_
  refine lv_icmp_ne (tgt := 21) hx hb dX0_layJump_3 (by decide) (fun h1 => ?_) (fun h1 => ?_)
  · have z2 : pa.toInt ≠ (16 : Int) := ne_z rfl (show (16 : Int32).toInt = (16 : Int) by decide) h1
    refine lv_iload_n hx hb dX0_layJump_21 rfl (lv_at hl 1 rfl) ?_
    refine lv_bipush (v := 17) hx hb dX0_layJump_22 (by decide) ?_
    refine lv_icmp_ne (tgt := 41) hx hb dX0_layJump_24 (by decide) (fun h3 => ?_) (fun h3 => ?_)
    · have z4 : pa.toInt ≠ (17 : Int) := ne_z rfl (show (17 : Int32).toInt = (17 : Int) by decide) h3
      refine lv_iload_n hx hb dX0_layJump_41 rfl (lv_at hl 1 rfl) ?_
      refine lv_bipush (v := 18) hx hb dX0_layJump_42 (by decide) ?_
      refine lv_icmp_ne (tgt := 68) hx hb dX0_layJump_44 (by decide) (fun h5 => ?_) (fun h5 => ?_)
      · have z6 : pa.toInt ≠ (18 : Int) := ne_z rfl (show (18 : Int32).toInt = (18 : Int) by decide) h5
        refine lv_aload_n hx hb dX0_layJump_68 rfl (lv_at hl 0 rfl) ?_
        refine lv_iconst (v := 0) hx hb dX0_layJump_69 (by decide) ?_
        refine lv_aload_n hx hb dX0_layJump_70 rfl (lv_at hl 0 rfl) ?_
        refine lv_iload_n hx hb dX0_layJump_71 rfl (lv_at hl 2 rfl) ?_
        refine cu_i (rn_Vk (n := 1) (As := [.int pb]) (rest := [.int 0, .ref (ad 904)]) hx hb hml hown ht hKK hFx hP hD hS hA (c_x_X0_addressOfDeed l dC dI cI cB cZ cJ cR tb s.heap.size ad pr N L1 L2 v pb ) tw_695 tw_696 (by decide +kernel) rfl rfl ⟨Nat.le_of_ble_eq_true rfl, Nat.le_of_ble_eq_true rfl⟩ (List.range (cW ad pr N cI cR L1 L2 v).length) (rg_map _) (nd_range _) 4 rfl rfl rfl rfl hl.1 rfl (Nat.le_of_ble_eq_true rfl) dX0_layJump_72 ⟨Nat.le_of_ble_eq_true rfl, Nat.le_of_ble_eq_true rfl⟩) hP hD hS hA (fun r9 u8 H locs hw7 hP hD hS => ?_)
        obtain ⟨rfl, ex7⟩ := hw7
        refine W.widen (k := 0) (n := 0) (Nat.le_refl _) (Nat.le_refl _) ?_
        refine cu_v (rn_Vk (n := 2) (As := [.int 0, .int r9]) (rest := []) hx hb hml hown ht hKK hFx hP hD hS hA (c_x_X0_jump l dC dI cI cB cZ cJ cR tb H.size ad pr N L1 L2 v (0 : Int32) r9 ps (show (N : Int) ≤ 4096 from (om_1c2c49c46c zNN)) (show pr ps = ad 908 from hps) (show (v.1 0 334) = ps from es334) (show 0 ≤ (v.1 0 337).toInt ∧ (v.1 0 337).toInt + 1 ≤ 7000000 from (om_147013809e zs))) tw_697 tw_698 (by decide +kernel) rfl rfl ⟨Nat.le_of_ble_eq_true rfl, Nat.le_of_ble_eq_true rfl⟩ (List.range (cW ad pr N cI cR L1 L2 v).length) (rg_map _) (nd_range _) 4 rfl rfl rfl rfl hl.1 rfl (Nat.le_of_ble_eq_true rfl) dX0_layJump_75 ⟨Nat.le_of_ble_eq_true rfl, Nat.le_of_ble_eq_true rfl⟩) hP hD hS hA (fun u11 H locs hw10 hP hD hS => ?_)
        obtain ⟨fr10, ex10, pz10, rs10⟩ := hw10
        refine W.widen (k := 0) (n := 0) (Nat.le_refl _) (Nat.le_refl _) ?_
        exact W.vret hx hb hr (fun t ht9 hW => ⟨⟨u11, rfl, ⟨(FC.tr (FC.rf _) (FC.up fr10 (by decide) (by decide))), ⟨zs, (Or.inl ⟨z2, (Or.inl ⟨z4, (Or.inl ⟨z6, r9, ex7, u11, ex10, ⟨fr10, pz10, rs10⟩, rfl⟩)⟩)⟩)⟩, (show (v.1 0 337).toInt ≤ (u11.1 0 337).toInt ∧ (u11.1 0 337).toInt ≤ (v.1 0 337).toInt + 3 from (om_ebc6f3f6b9 pz10)), (RS.tr RS.rf rs10)⟩, by rw [ht9]; exact hP, hD⟩, hS.F ht9⟩) hS.2.2 dX0_layJump_78
      · have z13 : pa.toInt = (18 : Int) := eq_z rfl (show (18 : Int32).toInt = (18 : Int) by decide) h5
        refine lv_aload_n hx hb dX0_layJump_47 rfl (lv_at hl 0 rfl) ?_
        refine lv_bipush (v := 99) hx hb dX0_layJump_48 (by decide) ?_
        refine lv_bipush (v := 10) hx hb dX0_layJump_50 (by decide) ?_
        refine lv_iconst (v := 0) hx hb dX0_layJump_52 (by decide) ?_
        refine lv_bipush (v := 12) hx hb dX0_layJump_53 (by decide) ?_
        refine cu_v (rn_Vk (n := 4) (As := [.int 99, .int 10, .int 0, .int 12]) (rest := []) hx hb hml hown ht hKK hFx hP hD hS hA (c_x_X0_branch l dC dI cI cB cZ cJ cR tb s.heap.size ad pr N L1 L2 v (99 : Int32) (10 : Int32) (0 : Int32) (12 : Int32) ps (show (N : Int) ≤ 4096 from (om_1c2c49c46c zNN)) (show pr ps = ad 908 from hps) (show (v.1 0 334) = ps from es334) (show 0 ≤ (v.1 0 337).toInt ∧ (v.1 0 337).toInt + 1 ≤ 7000000 from (om_147013809e zs))) tw_691 tw_692 (by decide +kernel) rfl rfl ⟨Nat.le_of_ble_eq_true rfl, Nat.le_of_ble_eq_true rfl⟩ (List.range (cW ad pr N cI cR L1 L2 v).length) (rg_map _) (nd_range _) 4 rfl rfl rfl rfl hl.1 rfl (Nat.le_of_ble_eq_true rfl) dX0_layJump_55 ⟨Nat.le_of_ble_eq_true rfl, Nat.le_of_ble_eq_true rfl⟩) hP hD hS hA (fun u15 H locs hw14 hP hD hS => ?_)
        obtain ⟨fr14, ex14, pz14, rs14⟩ := hw14
        refine W.widen (k := 0) (n := 0) (Nat.le_refl _) (Nat.le_refl _) ?_
        refine lv_aload_n hx hb dX0_layJump_58 rfl (lv_at hl 0 rfl) ?_
        refine lv_bipush (v := 19) hx hb dX0_layJump_59 (by decide) ?_
        refine lv_bipush (v := 10) hx hb dX0_layJump_61 (by decide) ?_
        refine lv_iconst (v := 0) hx hb dX0_layJump_63 (by decide) ?_
        refine lv_iconst (v := 1) hx hb dX0_layJump_64 (by decide) ?_
        refine cu_v (rn_Vk (n := 4) (As := [.int 19, .int 10, .int 0, .int 1]) (rest := []) hx hb hml hown ht hKK hFx hP hD hS hA (c_x_X0_immediate l dC dI cI cB cZ cJ cR tb H.size ad pr N L1 L2 u15 (19 : Int32) (10 : Int32) (0 : Int32) (1 : Int32) ps (show (N : Int) ≤ 4096 from (om_1c2c49c46c zNN)) (show pr ps = ad 908 from hps) (show (u15.1 0 334) = ps from (Eq.trans (fr14.2.1 334 (by decide)) es334)) (show 0 ≤ (u15.1 0 337).toInt ∧ (u15.1 0 337).toInt + 1 ≤ 7000000 from (om_19e944ed04 zs pz14))) tw_678 tw_679 (by decide +kernel) rfl rfl ⟨Nat.le_of_ble_eq_true rfl, Nat.le_of_ble_eq_true rfl⟩ (List.range (cW ad pr N cI cR L1 L2 u15).length) (rg_map _) (nd_range _) 4 rfl rfl rfl rfl hl.1 rfl (Nat.le_of_ble_eq_true rfl) dX0_layJump_65 ⟨Nat.le_of_ble_eq_true rfl, Nat.le_of_ble_eq_true rfl⟩) hP hD hS hA (fun u18 H locs hw17 hP hD hS => ?_)
        obtain ⟨fr17, ex17, pz17, rs17⟩ := hw17
        have pz17 : (u18.1 0 337).toInt = (u15.1 0 337).toInt + 1 := pz17
        have rs17 : RS u15 u18 := rs17
        refine W.widen (k := 0) (n := 0) (Nat.le_refl _) (Nat.le_refl _) ?_
        refine lv_aload_n hx hb dX0_layJump_68 rfl (lv_at hl 0 rfl) ?_
        refine lv_iconst (v := 0) hx hb dX0_layJump_69 (by decide) ?_
        refine lv_aload_n hx hb dX0_layJump_70 rfl (lv_at hl 0 rfl) ?_
        refine lv_iload_n hx hb dX0_layJump_71 rfl (lv_at hl 2 rfl) ?_
        refine cu_i (rn_Vk (n := 1) (As := [.int pb]) (rest := [.int 0, .ref (ad 904)]) hx hb hml hown ht hKK hFx hP hD hS hA (c_x_X0_addressOfDeed l dC dI cI cB cZ cJ cR tb H.size ad pr N L1 L2 u18 pb ) tw_695 tw_696 (by decide +kernel) rfl rfl ⟨Nat.le_of_ble_eq_true rfl, Nat.le_of_ble_eq_true rfl⟩ (List.range (cW ad pr N cI cR L1 L2 u18).length) (rg_map _) (nd_range _) 4 rfl rfl rfl rfl hl.1 rfl (Nat.le_of_ble_eq_true rfl) dX0_layJump_72 ⟨Nat.le_of_ble_eq_true rfl, Nat.le_of_ble_eq_true rfl⟩) hP hD hS hA (fun r22 u21 H locs hw20 hP hD hS => ?_)
        obtain ⟨rfl, ex20⟩ := hw20
        refine W.widen (k := 0) (n := 0) (Nat.le_refl _) (Nat.le_refl _) ?_
        refine cu_v (rn_Vk (n := 2) (As := [.int 0, .int r22]) (rest := []) hx hb hml hown ht hKK hFx hP hD hS hA (c_x_X0_jump l dC dI cI cB cZ cJ cR tb H.size ad pr N L1 L2 u18 (0 : Int32) r22 ps (show (N : Int) ≤ 4096 from (om_1c2c49c46c zNN)) (show pr ps = ad 908 from hps) (show (u18.1 0 334) = ps from (Eq.trans (fr17.2.1 334 (by decide)) (Eq.trans (fr14.2.1 334 (by decide)) es334))) (show 0 ≤ (u18.1 0 337).toInt ∧ (u18.1 0 337).toInt + 1 ≤ 7000000 from (om_9f6bdad2c6 zs pz14 pz17))) tw_697 tw_698 (by decide +kernel) rfl rfl ⟨Nat.le_of_ble_eq_true rfl, Nat.le_of_ble_eq_true rfl⟩ (List.range (cW ad pr N cI cR L1 L2 u18).length) (rg_map _) (nd_range _) 4 rfl rfl rfl rfl hl.1 rfl (Nat.le_of_ble_eq_true rfl) dX0_layJump_75 ⟨Nat.le_of_ble_eq_true rfl, Nat.le_of_ble_eq_true rfl⟩) hP hD hS hA (fun u24 H locs hw23 hP hD hS => ?_)
        obtain ⟨fr23, ex23, pz23, rs23⟩ := hw23
        have pz23 : (u24.1 0 337).toInt = (u18.1 0 337).toInt + 1 := pz23
        have rs23 : RS u18 u24 := rs23
        refine W.widen (k := 0) (n := 0) (Nat.le_refl _) (Nat.le_refl _) ?_
        exact W.vret hx hb hr (fun t ht9 hW => ⟨⟨u24, rfl, ⟨(FC.tr (FC.tr (FC.tr (FC.rf _) (FC.up fr14 (by decide) (by decide))) (FC.up fr17 (by decide) (by decide))) (FC.up fr23 (by decide) (by decide))), ⟨zs, (Or.inl ⟨z2, (Or.inl ⟨z4, (Or.inr (⟨z13, u15, ex14, ⟨fr14, pz14, rs14⟩, u18, ex17, ⟨fr17, pz17, rs17⟩, r22, ex20, u24, ex23, ⟨fr23, pz23, rs23⟩, rfl⟩))⟩)⟩)⟩, (show (v.1 0 337).toInt ≤ (u24.1 0 337).toInt ∧ (u24.1 0 337).toInt ≤ (v.1 0 337).toInt + 3 from (om_805458116b pz14 pz17 pz23)), (RS.tr (RS.tr (RS.tr RS.rf rs14) rs17) rs23)⟩, by rw [ht9]; exact hP, hD⟩, hS.F ht9⟩) hS.2.2 dX0_layJump_78
    · have z26 : pa.toInt = (17 : Int) := eq_z rfl (show (17 : Int32).toInt = (17 : Int) by decide) h3
      refine lv_aload_n hx hb dX0_layJump_27 rfl (lv_at hl 0 rfl) ?_
      refine lv_bipush (v := 99) hx hb dX0_layJump_28 (by decide) ?_
      refine lv_bipush (v := 10) hx hb dX0_layJump_30 (by decide) ?_
      refine lv_iconst (v := 0) hx hb dX0_layJump_32 (by decide) ?_
      refine lv_bipush (v := 8) hx hb dX0_layJump_33 (by decide) ?_
      refine cu_v (rn_Vk (n := 4) (As := [.int 99, .int 10, .int 0, .int 8]) (rest := []) hx hb hml hown ht hKK hFx hP hD hS hA (c_x_X0_branch l dC dI cI cB cZ cJ cR tb s.heap.size ad pr N L1 L2 v (99 : Int32) (10 : Int32) (0 : Int32) (8 : Int32) ps (show (N : Int) ≤ 4096 from (om_1c2c49c46c zNN)) (show pr ps = ad 908 from hps) (show (v.1 0 334) = ps from es334) (show 0 ≤ (v.1 0 337).toInt ∧ (v.1 0 337).toInt + 1 ≤ 7000000 from (om_147013809e zs))) tw_691 tw_692 (by decide +kernel) rfl rfl ⟨Nat.le_of_ble_eq_true rfl, Nat.le_of_ble_eq_true rfl⟩ (List.range (cW ad pr N cI cR L1 L2 v).length) (rg_map _) (nd_range _) 4 rfl rfl rfl rfl hl.1 rfl (Nat.le_of_ble_eq_true rfl) dX0_layJump_35 ⟨Nat.le_of_ble_eq_true rfl, Nat.le_of_ble_eq_true rfl⟩) hP hD hS hA (fun u28 H locs hw27 hP hD hS => ?_)
      obtain ⟨fr27, ex27, pz27, rs27⟩ := hw27
      refine W.widen (k := 0) (n := 0) (Nat.le_refl _) (Nat.le_refl _) ?_
      refine lv_goto (tgt := 68) hx hb dX0_layJump_38 (by decide) ?_
      refine lv_aload_n hx hb dX0_layJump_68 rfl (lv_at hl 0 rfl) ?_
      refine lv_iconst (v := 0) hx hb dX0_layJump_69 (by decide) ?_
      refine lv_aload_n hx hb dX0_layJump_70 rfl (lv_at hl 0 rfl) ?_
      refine lv_iload_n hx hb dX0_layJump_71 rfl (lv_at hl 2 rfl) ?_
      refine cu_i (rn_Vk (n := 1) (As := [.int pb]) (rest := [.int 0, .ref (ad 904)]) hx hb hml hown ht hKK hFx hP hD hS hA (c_x_X0_addressOfDeed l dC dI cI cB cZ cJ cR tb H.size ad pr N L1 L2 u28 pb ) tw_695 tw_696 (by decide +kernel) rfl rfl ⟨Nat.le_of_ble_eq_true rfl, Nat.le_of_ble_eq_true rfl⟩ (List.range (cW ad pr N cI cR L1 L2 u28).length) (rg_map _) (nd_range _) 4 rfl rfl rfl rfl hl.1 rfl (Nat.le_of_ble_eq_true rfl) dX0_layJump_72 ⟨Nat.le_of_ble_eq_true rfl, Nat.le_of_ble_eq_true rfl⟩) hP hD hS hA (fun r32 u31 H locs hw30 hP hD hS => ?_)
      obtain ⟨rfl, ex30⟩ := hw30
      refine W.widen (k := 0) (n := 0) (Nat.le_refl _) (Nat.le_refl _) ?_
      refine cu_v (rn_Vk (n := 2) (As := [.int 0, .int r32]) (rest := []) hx hb hml hown ht hKK hFx hP hD hS hA (c_x_X0_jump l dC dI cI cB cZ cJ cR tb H.size ad pr N L1 L2 u28 (0 : Int32) r32 ps (show (N : Int) ≤ 4096 from (om_1c2c49c46c zNN)) (show pr ps = ad 908 from hps) (show (u28.1 0 334) = ps from (Eq.trans (fr27.2.1 334 (by decide)) es334)) (show 0 ≤ (u28.1 0 337).toInt ∧ (u28.1 0 337).toInt + 1 ≤ 7000000 from (om_19e944ed04 zs pz27))) tw_697 tw_698 (by decide +kernel) rfl rfl ⟨Nat.le_of_ble_eq_true rfl, Nat.le_of_ble_eq_true rfl⟩ (List.range (cW ad pr N cI cR L1 L2 u28).length) (rg_map _) (nd_range _) 4 rfl rfl rfl rfl hl.1 rfl (Nat.le_of_ble_eq_true rfl) dX0_layJump_75 ⟨Nat.le_of_ble_eq_true rfl, Nat.le_of_ble_eq_true rfl⟩) hP hD hS hA (fun u34 H locs hw33 hP hD hS => ?_)
      obtain ⟨fr33, ex33, pz33, rs33⟩ := hw33
      have pz33 : (u34.1 0 337).toInt = (u28.1 0 337).toInt + 1 := pz33
      have rs33 : RS u28 u34 := rs33
      refine W.widen (k := 0) (n := 0) (Nat.le_refl _) (Nat.le_refl _) ?_
      exact W.vret hx hb hr (fun t ht9 hW => ⟨⟨u34, rfl, ⟨(FC.tr (FC.tr (FC.rf _) (FC.up fr27 (by decide) (by decide))) (FC.up fr33 (by decide) (by decide))), ⟨zs, (Or.inl ⟨z2, (Or.inr (⟨z26, u28, ex27, ⟨fr27, pz27, rs27⟩, r32, ex30, u34, ex33, ⟨fr33, pz33, rs33⟩, rfl⟩))⟩)⟩, (show (v.1 0 337).toInt ≤ (u34.1 0 337).toInt ∧ (u34.1 0 337).toInt ≤ (v.1 0 337).toInt + 3 from (om_64c48ee76b pz27 pz33)), (RS.tr (RS.tr RS.rf rs27) rs33)⟩, by rw [ht9]; exact hP, hD⟩, hS.F ht9⟩) hS.2.2 dX0_layJump_78
  · have z36 : pa.toInt = (16 : Int) := eq_z rfl (show (16 : Int32).toInt = (16 : Int) by decide) h1
    refine lv_aload_n hx hb dX0_layJump_6 rfl (lv_at hl 0 rfl) ?_
    refine lv_sipush (v := 4195) hx hb dX0_layJump_7 (by decide) ?_
    refine lv_bipush (v := 10) hx hb dX0_layJump_10 (by decide) ?_
    refine lv_iconst (v := 0) hx hb dX0_layJump_12 (by decide) ?_
    refine lv_bipush (v := 8) hx hb dX0_layJump_13 (by decide) ?_
    refine cu_v (rn_Vk (n := 4) (As := [.int 4195, .int 10, .int 0, .int 8]) (rest := []) hx hb hml hown ht hKK hFx hP hD hS hA (c_x_X0_branch l dC dI cI cB cZ cJ cR tb s.heap.size ad pr N L1 L2 v (4195 : Int32) (10 : Int32) (0 : Int32) (8 : Int32) ps (show (N : Int) ≤ 4096 from (om_1c2c49c46c zNN)) (show pr ps = ad 908 from hps) (show (v.1 0 334) = ps from es334) (show 0 ≤ (v.1 0 337).toInt ∧ (v.1 0 337).toInt + 1 ≤ 7000000 from (om_147013809e zs))) tw_691 tw_692 (by decide +kernel) rfl rfl ⟨Nat.le_of_ble_eq_true rfl, Nat.le_of_ble_eq_true rfl⟩ (List.range (cW ad pr N cI cR L1 L2 v).length) (rg_map _) (nd_range _) 4 rfl rfl rfl rfl hl.1 rfl (Nat.le_of_ble_eq_true rfl) dX0_layJump_15 ⟨Nat.le_of_ble_eq_true rfl, Nat.le_of_ble_eq_true rfl⟩) hP hD hS hA (fun u38 H locs hw37 hP hD hS => ?_)
    obtain ⟨fr37, ex37, pz37, rs37⟩ := hw37
    refine W.widen (k := 0) (n := 0) (Nat.le_refl _) (Nat.le_refl _) ?_
    refine lv_goto (tgt := 68) hx hb dX0_layJump_18 (by decide) ?_
    refine lv_aload_n hx hb dX0_layJump_68 rfl (lv_at hl 0 rfl) ?_
    refine lv_iconst (v := 0) hx hb dX0_layJump_69 (by decide) ?_
    refine lv_aload_n hx hb dX0_layJump_70 rfl (lv_at hl 0 rfl) ?_
    refine lv_iload_n hx hb dX0_layJump_71 rfl (lv_at hl 2 rfl) ?_
    refine cu_i (rn_Vk (n := 1) (As := [.int pb]) (rest := [.int 0, .ref (ad 904)]) hx hb hml hown ht hKK hFx hP hD hS hA (c_x_X0_addressOfDeed l dC dI cI cB cZ cJ cR tb H.size ad pr N L1 L2 u38 pb ) tw_695 tw_696 (by decide +kernel) rfl rfl ⟨Nat.le_of_ble_eq_true rfl, Nat.le_of_ble_eq_true rfl⟩ (List.range (cW ad pr N cI cR L1 L2 u38).length) (rg_map _) (nd_range _) 4 rfl rfl rfl rfl hl.1 rfl (Nat.le_of_ble_eq_true rfl) dX0_layJump_72 ⟨Nat.le_of_ble_eq_true rfl, Nat.le_of_ble_eq_true rfl⟩) hP hD hS hA (fun r42 u41 H locs hw40 hP hD hS => ?_)
    obtain ⟨rfl, ex40⟩ := hw40
    refine W.widen (k := 0) (n := 0) (Nat.le_refl _) (Nat.le_refl _) ?_
    refine cu_v (rn_Vk (n := 2) (As := [.int 0, .int r42]) (rest := []) hx hb hml hown ht hKK hFx hP hD hS hA (c_x_X0_jump l dC dI cI cB cZ cJ cR tb H.size ad pr N L1 L2 u38 (0 : Int32) r42 ps (show (N : Int) ≤ 4096 from (om_1c2c49c46c zNN)) (show pr ps = ad 908 from hps) (show (u38.1 0 334) = ps from (Eq.trans (fr37.2.1 334 (by decide)) es334)) (show 0 ≤ (u38.1 0 337).toInt ∧ (u38.1 0 337).toInt + 1 ≤ 7000000 from (om_19e944ed04 zs pz37))) tw_697 tw_698 (by decide +kernel) rfl rfl ⟨Nat.le_of_ble_eq_true rfl, Nat.le_of_ble_eq_true rfl⟩ (List.range (cW ad pr N cI cR L1 L2 u38).length) (rg_map _) (nd_range _) 4 rfl rfl rfl rfl hl.1 rfl (Nat.le_of_ble_eq_true rfl) dX0_layJump_75 ⟨Nat.le_of_ble_eq_true rfl, Nat.le_of_ble_eq_true rfl⟩) hP hD hS hA (fun u44 H locs hw43 hP hD hS => ?_)
    obtain ⟨fr43, ex43, pz43, rs43⟩ := hw43
    have pz43 : (u44.1 0 337).toInt = (u38.1 0 337).toInt + 1 := pz43
    have rs43 : RS u38 u44 := rs43
    refine W.widen (k := 0) (n := 0) (Nat.le_refl _) (Nat.le_refl _) ?_
    exact W.vret hx hb hr (fun t ht9 hW => ⟨⟨u44, rfl, ⟨(FC.tr (FC.tr (FC.rf _) (FC.up fr37 (by decide) (by decide))) (FC.up fr43 (by decide) (by decide))), ⟨zs, (Or.inr (⟨z36, u38, ex37, ⟨fr37, pz37, rs37⟩, r42, ex40, u44, ex43, ⟨fr43, pz43, rs43⟩, rfl⟩))⟩, (show (v.1 0 337).toInt ≤ (u44.1 0 337).toInt ∧ (u44.1 0 337).toInt ≤ (v.1 0 337).toInt + 3 from (om_64c48ee76b pz37 pz43)), (RS.tr (RS.tr RS.rf rs37) rs43)⟩, by rw [ht9]; exact hP, hD⟩, hS.F ht9⟩) hS.2.2 dX0_layJump_78
set_option maxHeartbeats 4000000 in
set_option maxRecDepth 100000 in
theorem c_x_X0_layCall (l : Launch) (dC : Nat → ClassId) (dI : Nat → Nat → Nat) (cI cB cZ cJ cR : ClassId) (tb : Nat → Nat) (sz : Nat) (ad : Nat → Nat) (pr : Int32 → Nat) (N : Nat) (L1 L2 : List Nat) (v : MS) (pa : Int32) (pb : Int32) (ps : Int32) (zNN : (N : Int) ≤ 4096) (hL1 : L1.length = 40) (hL2 : L2.length = 60) (rp : RP v) (hps : pr ps = ad 908) (es334 : (v.1 0 334) = ps) (zs : 0 ≤ (v.1 0 337).toInt ∧ (v.1 0 337).toInt + 2 ≤ 7000000) : Met l yX0_layCall (Cond.code yX0_layCall cX0_layCall 3 none :: tw_W) ({ frames := 2, cells := 0, slots := 0, locals := 45 }) (pc_ (dC, dI) (tyS cI cB cZ cJ cR) tb (cW ad pr N cI cR L1 L2 v) sz [.ref (ad 904), .int pa, .int pb]) (qv_ (dC, dI) (cW ad pr N cI cR L1 L2 v) sz (fun (u : MS) => FC [337] [0, 382] v u ∧ (Q_x_X0_layCall L1 L2 N v pa pb u) ∧ ((v.1 0 337).toInt ≤ (u.1 0 337).toInt ∧ (u.1 0 337).toInt ≤ (v.1 0 337).toInt + 2) ∧ (RS v u)) (fun (u : MS) => (cW ad pr N cI cR L1 L2 u))) 0 0 (va_A (cW ad pr N cI cR L1 L2 v) sz) := by
  refine Met.ofW (cc := cX0_layCall) (maxL := 3) (ret := none) (by decide) rfl ?_
  intro p e s m args below meth c s₁ B hml hv
  obtain ⟨rfl, hsz, hP, hKK, hD0, hFx⟩ := hv
  have hK := hKK.1
  have hx := B.exec
  have hb := B.bytes
  have hr := B.returns
  have ht : ∀ w ∈ tw_W, w.before _ s = true := fun w h => atoms_spec (ws := Cond.code yX0_layCall cX0_layCall 3 none :: tw_W) B.pre w (List.mem_cons_of_mem _ h)
  have hown : s.vm.findClass RX0 = some m.cls := findClass_of_methodNamed B.named
  have hlocks := B.notSynchronized
  subst hsz
  unfold qv_
  have hD := hD0.self (sz := s.heap.size)
  generalize hAe : va_A (cW ad pr N cI cR L1 L2 v) s.heap.size = A at hD hFx ⊢
  have hA : ∀ q : Nat, s.heap.size ≤ q → A q := fun q h => by rw [← hAe]; exact Or.inr h
  have hS : va_S A s.heap s.heap [] := va_S.rf
  have hl := lv_entry ([.ref (ad 904), .int pa, .int pb]) (n := 3) (Nat.le_of_ble_eq_true rfl)
  rw [lg_entry_eq]
  generalize (lg_sl ([.ref (ad 904), .int pa, .int pb]) ++ List.replicate (3 - (lg_sl ([.ref (ad 904), .int pa, .int pb])).length) Slot.unset).toArray = ls at hl ⊢
  have hl : lv_has ls 3 [(0, .ref (ad 904)), (1, .int pa), (2, .int pb)] := hl
  refine lv_aload_n hx hb dX0_layCall_0 rfl (lv_at hl 0 rfl) ?_
  refine va_get (D := (dC, dI)) (ci := 4) (fs := oF_X0 ad pr v) (v := .ref (pr (v.1 0 334))) (C := RX0) (T := TX0) (N := 9) hx hb ht itX0 hown hK hP 4 rfl rfl 0 (by decide) (ht _ tw_674) (fun _ h9 => h9) rfl dX0_layCall_1 ?_
  refine lv_iload_n hx hb dX0_layCall_4 rfl (lv_at hl 1 rfl) ?_
  refine lv_iconst (v := 0) hx hb dX0_layCall_5 (by decide) ?_
  refine W.eq (g2 := F0 m 6 ls [.int 0, .int pa, .ref (ad 908)]) (by rw [show pr (v.1 0 334) = (ad 908) from (by rw [show (v.1 0 334) = ps from es334]; exact hps)]) ?_
  refine cu_i (rn_Vk (n := 2) (As := [.int pa, .int 0]) (rest := []) hx hb hml hown ht hKK hFx hP hD hS hA (c_x_X7_functionFact l dC dI cI cB cZ cJ cR tb s.heap.size ad pr N L1 L2 v pa (0 : Int32) (show L1.length = 40 from hL1) (show L2.length = 60 from hL2) (show RP v from rp)) tw_398 tw_699 (by decide +kernel) rfl rfl ⟨Nat.le_of_ble_eq_true rfl, Nat.le_of_ble_eq_true rfl⟩ (List.range (cW ad pr N cI cR L1 L2 v).length) (rg_map _) (nd_range _) 8 rfl rfl rfl rfl hl.1 rfl (Nat.le_of_ble_eq_true rfl) dX0_layCall_6 ⟨Nat.le_of_ble_eq_true rfl, Nat.le_of_ble_eq_true rfl⟩) hP hD hS hA (fun r3 u2 H locs hw1 hP hD hS => ?_)
  obtain ⟨rfl, ex1, c1, d1⟩ := hw1
  have c1 : ((0 : Int) ≠ 0 ∨ r3.toInt ≤ 1000) := c1
  refine W.widen (k := 0) (n := 0) (Nat.le_refl _) (Nat.le_refl _) ?_
  refine lv_if_le (tgt := 25) hx hb dX0_layCall_9 (by decide) (fun h4 => ?_) (fun h4 => ?_)
  · have z5 : r3.toInt ≤ (0 : Int) := le_z rfl (show (0 : Int32).toInt = (0 : Int) by decide) h4
    refine lv_aload_n hx hb dX0_layCall_25 rfl (lv_at hl 0 rfl) ?_
    refine lv_iconst (v := 1) hx hb dX0_layCall_26 (by decide) ?_
    refine lv_aload_n hx hb dX0_layCall_27 rfl (lv_at hl 0 rfl) ?_
    refine va_get (D := (dC, dI)) (ci := 4) (fs := oF_X0 ad pr v) (v := .ref (pr (v.1 0 334))) (C := RX0) (T := TX0) (N := 9) hx hb ht itX0 hown hK hP 4 rfl rfl 0 (by decide) (ht _ tw_674) (fun _ h9 => h9) rfl dX0_layCall_28 ?_
    refine lv_iload_n hx hb dX0_layCall_31 rfl (lv_at hl 1 rfl) ?_
    refine lv_iconst (v := 1) hx hb dX0_layCall_32 (by decide) ?_
    refine W.eq (g2 := F0 m 33 ls [.int 1, .int pa, .ref (ad 908), .int 1, .ref (ad 904)]) (by rw [show pr (v.1 0 334) = (ad 908) from (by rw [show (v.1 0 334) = ps from es334]; exact hps)]) ?_
    refine cu_i (rn_Vk (n := 2) (As := [.int pa, .int 1]) (rest := [.int 1, .ref (ad 904)]) hx hb hml hown ht hKK hFx hP hD hS hA (c_x_X7_functionFact l dC dI cI cB cZ cJ cR tb H.size ad pr N L1 L2 v pa (1 : Int32) (show L1.length = 40 from hL1) (show L2.length = 60 from hL2) (show RP v from rp)) tw_398 tw_699 (by decide +kernel) rfl rfl ⟨Nat.le_of_ble_eq_true rfl, Nat.le_of_ble_eq_true rfl⟩ (List.range (cW ad pr N cI cR L1 L2 v).length) (rg_map _) (nd_range _) 8 rfl rfl rfl rfl hl.1 rfl (Nat.le_of_ble_eq_true rfl) dX0_layCall_33 ⟨Nat.le_of_ble_eq_true rfl, Nat.le_of_ble_eq_true rfl⟩) hP hD hS hA (fun r8 u7 H locs hw6 hP hD hS => ?_)
    obtain ⟨rfl, ex6, c6, d6⟩ := hw6
    have c6 : ((1 : Int) ≠ 0 ∨ r8.toInt ≤ 1000) := c6
    refine W.widen (k := 0) (n := 0) (Nat.le_refl _) (Nat.le_refl _) ?_
    refine cu_v (rn_Vk (n := 2) (As := [.int 1, .int r8]) (rest := []) hx hb hml hown ht hKK hFx hP hD hS hA (c_x_X0_jump l dC dI cI cB cZ cJ cR tb H.size ad pr N L1 L2 v (1 : Int32) r8 ps (show (N : Int) ≤ 4096 from (om_1c2c49c46c zNN)) (show pr ps = ad 908 from hps) (show (v.1 0 334) = ps from es334) (show 0 ≤ (v.1 0 337).toInt ∧ (v.1 0 337).toInt + 1 ≤ 7000000 from (om_d0491bd047 zs))) tw_697 tw_698 (by decide +kernel) rfl rfl ⟨Nat.le_of_ble_eq_true rfl, Nat.le_of_ble_eq_true rfl⟩ (List.range (cW ad pr N cI cR L1 L2 v).length) (rg_map _) (nd_range _) 4 rfl rfl rfl rfl hl.1 rfl (Nat.le_of_ble_eq_true rfl) dX0_layCall_36 ⟨Nat.le_of_ble_eq_true rfl, Nat.le_of_ble_eq_true rfl⟩) hP hD hS hA (fun u10 H locs hw9 hP hD hS => ?_)
    obtain ⟨fr9, ex9, pz9, rs9⟩ := hw9
    refine W.widen (k := 0) (n := 0) (Nat.le_refl _) (Nat.le_refl _) ?_
    exact W.vret hx hb hr (fun t ht9 hW => ⟨⟨u10, rfl, ⟨(FC.tr (FC.rf _) (FC.up fr9 (by decide) (by decide))), ⟨zs, r3, ex1, ⟨c1, d1⟩, (Or.inl ⟨z5, r8, ex6, ⟨c6, d6⟩, u10, ex9, ⟨fr9, pz9, rs9⟩, rfl⟩)⟩, (show (v.1 0 337).toInt ≤ (u10.1 0 337).toInt ∧ (u10.1 0 337).toInt ≤ (v.1 0 337).toInt + 2 from (om_11a20d2072 pz9)), (RS.tr RS.rf rs9)⟩, by rw [ht9]; exact hP, hD⟩, hS.F ht9⟩) hS.2.2 dX0_layCall_39
  · have z12 : (0 : Int) < r3.toInt := nle_z rfl (show (0 : Int32).toInt = (0 : Int) by decide) h4
    refine lv_aload_n hx hb dX0_layCall_12 rfl (lv_at hl 0 rfl) ?_
    refine lv_bipush (v := 19) hx hb dX0_layCall_13 (by decide) ?_
    refine lv_iconst (v := 5) hx hb dX0_layCall_15 (by decide) ?_
    refine lv_bipush (v := 8) hx hb dX0_layCall_16 (by decide) ?_
    refine lv_iload_n hx hb dX0_layCall_18 rfl (lv_at hl 2 rfl) ?_
    refine cu_s (nd_range _) (rn_S (n := 1) (As := [.int pb]) (rest := [.int 8, .int 5, .int 19, .ref (ad 904)]) hx hb hml hown ht hKK hFx hP hD hS hA (c_x_X0_fromFrame l dC dI cI cB cZ cJ cR tb H.size pb ) tw_681 tw_682 (by decide +kernel) rfl rfl ⟨Nat.le_of_ble_eq_true rfl, Nat.le_of_ble_eq_true rfl⟩ [] rfl rfl rfl hl.1 rfl (Nat.le_of_ble_eq_true rfl) dX0_layCall_19 ⟨Nat.le_of_ble_eq_true rfl, Nat.le_of_ble_eq_true rfl⟩) hP hD hS hA (fun r15 H locs hw13 hP hD hS => ?_)
    have ex13 := hw13
    refine W.widen (k := 0) (n := 0) (Nat.le_refl _) (Nat.le_refl _) ?_
    refine cu_v (rn_Vk (n := 4) (As := [.int 19, .int 5, .int 8, .int r15]) (rest := []) hx hb hml hown ht hKK hFx hP hD hS hA (c_x_X0_immediate l dC dI cI cB cZ cJ cR tb H.size ad pr N L1 L2 v (19 : Int32) (5 : Int32) (8 : Int32) r15 ps (show (N : Int) ≤ 4096 from (om_1c2c49c46c zNN)) (show pr ps = ad 908 from hps) (show (v.1 0 334) = ps from es334) (show 0 ≤ (v.1 0 337).toInt ∧ (v.1 0 337).toInt + 1 ≤ 7000000 from (om_d0491bd047 zs))) tw_678 tw_679 (by decide +kernel) rfl rfl ⟨Nat.le_of_ble_eq_true rfl, Nat.le_of_ble_eq_true rfl⟩ (List.range (cW ad pr N cI cR L1 L2 v).length) (rg_map _) (nd_range _) 4 rfl rfl rfl rfl hl.1 rfl (Nat.le_of_ble_eq_true rfl) dX0_layCall_22 ⟨Nat.le_of_ble_eq_true rfl, Nat.le_of_ble_eq_true rfl⟩) hP hD hS hA (fun u17 H locs hw16 hP hD hS => ?_)
    obtain ⟨fr16, ex16, pz16, rs16⟩ := hw16
    refine W.widen (k := 0) (n := 0) (Nat.le_refl _) (Nat.le_refl _) ?_
    refine lv_aload_n hx hb dX0_layCall_25 rfl (lv_at hl 0 rfl) ?_
    refine lv_iconst (v := 1) hx hb dX0_layCall_26 (by decide) ?_
    refine lv_aload_n hx hb dX0_layCall_27 rfl (lv_at hl 0 rfl) ?_
    refine va_get (D := (dC, dI)) (ci := 4) (fs := oF_X0 ad pr u17) (v := .ref (pr (u17.1 0 334))) (C := RX0) (T := TX0) (N := 9) hx hb ht itX0 hown hK hP 4 rfl rfl 0 (by decide) (ht _ tw_674) (fun _ h9 => h9) rfl dX0_layCall_28 ?_
    refine lv_iload_n hx hb dX0_layCall_31 rfl (lv_at hl 1 rfl) ?_
    refine lv_iconst (v := 1) hx hb dX0_layCall_32 (by decide) ?_
    refine W.eq (g2 := F0 m 33 ls [.int 1, .int pa, .ref (ad 908), .int 1, .ref (ad 904)]) (by rw [show pr (u17.1 0 334) = (ad 908) from (by rw [show (u17.1 0 334) = ps from (Eq.trans (fr16.2.1 334 (by decide)) es334)]; exact hps)]) ?_
    refine cu_i (rn_Vk (n := 2) (As := [.int pa, .int 1]) (rest := [.int 1, .ref (ad 904)]) hx hb hml hown ht hKK hFx hP hD hS hA (c_x_X7_functionFact l dC dI cI cB cZ cJ cR tb H.size ad pr N L1 L2 u17 pa (1 : Int32) (show L1.length = 40 from hL1) (show L2.length = 60 from hL2) (show RP u17 from ((show FC [337] [0, 382] v u17 from (FC.tr (FC.rf _) (FC.up fr16 (by decide) (by decide)))).1 rp))) tw_398 tw_699 (by decide +kernel) rfl rfl ⟨Nat.le_of_ble_eq_true rfl, Nat.le_of_ble_eq_true rfl⟩ (List.range (cW ad pr N cI cR L1 L2 u17).length) (rg_map _) (nd_range _) 8 rfl rfl rfl rfl hl.1 rfl (Nat.le_of_ble_eq_true rfl) dX0_layCall_33 ⟨Nat.le_of_ble_eq_true rfl, Nat.le_of_ble_eq_true rfl⟩) hP hD hS hA (fun r21 u20 H locs hw19 hP hD hS => ?_)
    obtain ⟨rfl, ex19, c19, d19⟩ := hw19
    have c19 : ((1 : Int) ≠ 0 ∨ r21.toInt ≤ 1000) := c19
    have d19 : (r21.toInt ≤ 2147483647) := d19
    refine W.widen (k := 0) (n := 0) (Nat.le_refl _) (Nat.le_refl _) ?_
    refine cu_v (rn_Vk (n := 2) (As := [.int 1, .int r21]) (rest := []) hx hb hml hown ht hKK hFx hP hD hS hA (c_x_X0_jump l dC dI cI cB cZ cJ cR tb H.size ad pr N L1 L2 u17 (1 : Int32) r21 ps (show (N : Int) ≤ 4096 from (om_1c2c49c46c zNN)) (show pr ps = ad 908 from hps) (show (u17.1 0 334) = ps from (Eq.trans (fr16.2.1 334 (by decide)) es334)) (show 0 ≤ (u17.1 0 337).toInt ∧ (u17.1 0 337).toInt + 1 ≤ 7000000 from (om_d2a48ee112 zs pz16))) tw_697 tw_698 (by decide +kernel) rfl rfl ⟨Nat.le_of_ble_eq_true rfl, Nat.le_of_ble_eq_true rfl⟩ (List.range (cW ad pr N cI cR L1 L2 u17).length) (rg_map _) (nd_range _) 4 rfl rfl rfl rfl hl.1 rfl (Nat.le_of_ble_eq_true rfl) dX0_layCall_36 ⟨Nat.le_of_ble_eq_true rfl, Nat.le_of_ble_eq_true rfl⟩) hP hD hS hA (fun u23 H locs hw22 hP hD hS => ?_)
    obtain ⟨fr22, ex22, pz22, rs22⟩ := hw22
    have pz22 : (u23.1 0 337).toInt = (u17.1 0 337).toInt + 1 := pz22
    have rs22 : RS u17 u23 := rs22
    refine W.widen (k := 0) (n := 0) (Nat.le_refl _) (Nat.le_refl _) ?_
    exact W.vret hx hb hr (fun t ht9 hW => ⟨⟨u23, rfl, ⟨(FC.tr (FC.tr (FC.rf _) (FC.up fr16 (by decide) (by decide))) (FC.up fr22 (by decide) (by decide))), ⟨zs, r3, ex1, ⟨c1, d1⟩, (Or.inr (⟨z12, r15, ex13, u17, ex16, ⟨fr16, pz16, rs16⟩, r21, ex19, ⟨c19, d19⟩, u23, ex22, ⟨fr22, pz22, rs22⟩, rfl⟩))⟩, (show (v.1 0 337).toInt ≤ (u23.1 0 337).toInt ∧ (u23.1 0 337).toInt ≤ (v.1 0 337).toInt + 2 from (om_44baea2434 pz16 pz22)), (RS.tr (RS.tr RS.rf rs16) rs22)⟩, by rw [ht9]; exact hP, hD⟩, hS.F ht9⟩) hS.2.2 dX0_layCall_39
