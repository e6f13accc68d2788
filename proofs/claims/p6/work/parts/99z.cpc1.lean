theorem dX11_tapeNumber_0 : decode cX11_tapeNumber 0 = .ok (.bipush 24, 2) := by decide +kernel
theorem dX11_tapeNumber_2 : decode cX11_tapeNumber 2 = .ok (.istore_n 2, 1) := by decide +kernel
theorem dX11_tapeNumber_3 : decode cX11_tapeNumber 3 = .ok (.iload_n 2, 1) := by decide +kernel
theorem dX11_tapeNumber_4 : decode cX11_tapeNumber 4 = .ok (.ifCond .lt 45, 3) := by decide +kernel
theorem dX11_tapeNumber_49 : decode cX11_tapeNumber 49 = .ok (.return_, 1) := by decide +kernel
theorem dX11_tapeNumber_7 : decode cX11_tapeNumber 7 = .ok (.aload_n 0, 1) := by decide +kernel
theorem dX11_tapeNumber_8 : decode cX11_tapeNumber 8 = .ok (.getfield 86, 3) := by decide +kernel
theorem tw_913 : (.fieldLink RX11 86 "PocketCompiler" "taped" "I" : Cond) ∈ tw_W := tw_in (t8_5 (List.mem_of_getElem? (i := 150) rfl)) rfl
theorem itX11 : ∀ w ∈ wsX110, w ∈ tw_W := tw_all (by decide +kernel)
theorem dX11_tapeNumber_11 : decode cX11_tapeNumber 11 = .ok (.sipush 4000, 3) := by decide +kernel
theorem dX11_tapeNumber_14 : decode cX11_tapeNumber 14 = .ok (.if_icmp .ge 35, 3) := by decide +kernel
theorem dX11_tapeNumber_17 : decode cX11_tapeNumber 17 = .ok (.aload_n 0, 1) := by decide +kernel
theorem dX11_tapeNumber_18 : decode cX11_tapeNumber 18 = .ok (.getfield 9, 3) := by decide +kernel
theorem tw_914 : (.fieldLink RX11 9 "PocketCompiler" "tape" "[I" : Cond) ∈ tw_W := tw_in (t8_5 (List.mem_of_getElem? (i := 149) rfl)) rfl
theorem dX11_tapeNumber_21 : decode cX11_tapeNumber 21 = .ok (.aload_n 0, 1) := by decide +kernel
theorem dX11_tapeNumber_22 : decode cX11_tapeNumber 22 = .ok (.getfield 86, 3) := by decide +kernel
theorem dX11_tapeNumber_25 : decode cX11_tapeNumber 25 = .ok (.iload_n 1, 1) := by decide +kernel
theorem dX11_tapeNumber_26 : decode cX11_tapeNumber 26 = .ok (.iload_n 2, 1) := by decide +kernel
theorem dX11_tapeNumber_27 : decode cX11_tapeNumber 27 = .ok (.iushr, 1) := by decide +kernel
theorem dX11_tapeNumber_28 : decode cX11_tapeNumber 28 = .ok (.sipush 255, 3) := by decide +kernel
theorem dX11_tapeNumber_31 : decode cX11_tapeNumber 31 = .ok (.iand, 1) := by decide +kernel
theorem dX11_tapeNumber_32 : decode cX11_tapeNumber 32 = .ok (.iastore, 1) := by decide +kernel
theorem dX11_tapeNumber_33 : decode cX11_tapeNumber 33 = .ok (.aload_n 0, 1) := by decide +kernel
theorem dX11_tapeNumber_34 : decode cX11_tapeNumber 34 = .ok (.dup, 1) := by decide +kernel
theorem dX11_tapeNumber_35 : decode cX11_tapeNumber 35 = .ok (.getfield 86, 3) := by decide +kernel
theorem dX11_tapeNumber_38 : decode cX11_tapeNumber 38 = .ok (.iconst 1, 1) := by decide +kernel
theorem dX11_tapeNumber_39 : decode cX11_tapeNumber 39 = .ok (.iadd, 1) := by decide +kernel
theorem dX11_tapeNumber_40 : decode cX11_tapeNumber 40 = .ok (.putfield 86, 3) := by decide +kernel
theorem dX11_tapeNumber_43 : decode cX11_tapeNumber 43 = .ok (.iinc 2 (-8), 3) := by decide +kernel
theorem dX11_tapeNumber_46 : decode cX11_tapeNumber 46 = .ok (.goto (-43), 3) := by decide +kernel
theorem dX11_feed_0 : decode cX11_feed 0 = .ok (.aload_n 0, 1) := by decide +kernel
theorem dX11_feed_1 : decode cX11_feed 1 = .ok (.getfield 86, 3) := by decide +kernel
theorem dX11_feed_4 : decode cX11_feed 4 = .ok (.bipush 20, 2) := by decide +kernel
theorem dX11_feed_6 : decode cX11_feed 6 = .ok (.iadd, 1) := by decide +kernel
theorem dX11_feed_7 : decode cX11_feed 7 = .ok (.sipush 4000, 3) := by decide +kernel
theorem dX11_feed_10 : decode cX11_feed 10 = .ok (.if_icmp .le 5, 3) := by decide +kernel
theorem dX11_feed_15 : decode cX11_feed 15 = .ok (.aload_n 0, 1) := by decide +kernel
theorem dX11_feed_16 : decode cX11_feed 16 = .ok (.iload_n 1, 1) := by decide +kernel
theorem dX11_feed_17 : decode cX11_feed 17 = .ok (.invokevirtual 89, 3) := by decide +kernel
theorem tw_915 : (.code yX11_tapeNumber cX11_tapeNumber 3 none : Cond) ∈ tw_W := tw_in (t8_5 (List.mem_of_getElem? (i := 193) rfl)) rfl
theorem tw_916 : ∀ w ∈ ([.methodLink RX11 89 yX11_tapeNumber, .instanceMethod yX11_tapeNumber, .selects RX11 yX11_tapeNumber yX11_tapeNumber, .initialized RX11] : List Cond), w ∈ tw_W := al_c (tw_in (t8_5 (List.mem_of_getElem? (i := 190) rfl)) rfl) (al_c (tw_in (t8_5 (List.mem_of_getElem? (i := 192) rfl)) rfl) (al_c (tw_in (t7_5 (q := (yX11_tapeNumber, 12)) (List.mem_of_getElem? (i := 11) rfl)) rfl) (al_c (tw_in (t8_1 (List.mem_of_getElem? (i := 1) rfl)) rfl) al_n)))
theorem dX11_feed_20 : decode cX11_feed 20 = .ok (.aload_n 0, 1) := by decide +kernel
theorem dX11_feed_21 : decode cX11_feed 21 = .ok (.iload_n 2, 1) := by decide +kernel
theorem dX11_feed_22 : decode cX11_feed 22 = .ok (.invokevirtual 89, 3) := by decide +kernel
theorem dX11_feed_25 : decode cX11_feed 25 = .ok (.aload_n 0, 1) := by decide +kernel
theorem dX11_feed_26 : decode cX11_feed 26 = .ok (.iload_n 3, 1) := by decide +kernel
theorem dX11_feed_27 : decode cX11_feed 27 = .ok (.invokevirtual 89, 3) := by decide +kernel
theorem dX11_feed_30 : decode cX11_feed 30 = .ok (.aload_n 0, 1) := by decide +kernel
theorem dX11_feed_31 : decode cX11_feed 31 = .ok (.iload 4, 2) := by decide +kernel
theorem dX11_feed_33 : decode cX11_feed 33 = .ok (.invokevirtual 89, 3) := by decide +kernel
theorem dX11_feed_36 : decode cX11_feed 36 = .ok (.aload_n 0, 1) := by decide +kernel
theorem dX11_feed_37 : decode cX11_feed 37 = .ok (.iload 5, 2) := by decide +kernel
theorem dX11_feed_39 : decode cX11_feed 39 = .ok (.invokevirtual 89, 3) := by decide +kernel
theorem dX11_feed_42 : decode cX11_feed 42 = .ok (.iconst 1, 1) := by decide +kernel
theorem dX11_feed_43 : decode cX11_feed 43 = .ok (.ireturn, 1) := by decide +kernel
theorem dX11_feed_13 : decode cX11_feed 13 = .ok (.iconst 0, 1) := by decide +kernel
theorem dX11_feed_14 : decode cX11_feed 14 = .ok (.ireturn, 1) := by decide +kernel
theorem dX11_end_0 : decode cX11_end 0 = .ok (.iload_n 1, 1) := by decide +kernel
theorem dX11_end_1 : decode cX11_end 1 = .ok (.ifCond .lt 11, 3) := by decide +kernel
theorem dX11_end_12 : decode cX11_end 12 = .ok (.iconst 0, 1) := by decide +kernel
theorem dX11_end_13 : decode cX11_end 13 = .ok (.ireturn, 1) := by decide +kernel
theorem dX11_end_4 : decode cX11_end 4 = .ok (.iload_n 1, 1) := by decide +kernel
theorem dX11_end_5 : decode cX11_end 5 = .ok (.aload_n 0, 1) := by decide +kernel
theorem dX11_end_6 : decode cX11_end 6 = .ok (.getfield 86, 3) := by decide +kernel
theorem dX11_end_9 : decode cX11_end 9 = .ok (.if_icmp .le 5, 3) := by decide +kernel
theorem dX11_end_14 : decode cX11_end 14 = .ok (.aload_n 0, 1) := by decide +kernel
theorem dX11_end_15 : decode cX11_end 15 = .ok (.iload_n 1, 1) := by decide +kernel
theorem dX11_end_16 : decode cX11_end 16 = .ok (.putfield 86, 3) := by decide +kernel
theorem dX11_end_19 : decode cX11_end 19 = .ok (.iconst 1, 1) := by decide +kernel
theorem dX11_end_20 : decode cX11_end 20 = .ok (.ireturn, 1) := by decide +kernel
theorem dX11_give_0 : decode cX11_give 0 = .ok (.aload_n 0, 1) := by decide +kernel
theorem dX11_give_1 : decode cX11_give 1 = .ok (.getfield 20, 3) := by decide +kernel
theorem tw_917 : (.fieldLink RX11 20 "PocketCompiler" "gifts" "LPocketCompiler$Gifts;" : Cond) ∈ tw_W := tw_in (t8_5 (List.mem_of_getElem? (i := 157) rfl)) rfl
theorem dX11_give_4 : decode cX11_give 4 = .ok (.iload_n 1, 1) := by decide +kernel
theorem dX11_give_5 : decode cX11_give 5 = .ok (.invokevirtual 152, 3) := by decide +kernel
theorem tw_918 : (.code yX3_add cX3_add 2 (some .int) : Cond) ∈ tw_W := tw_in (t8_5 (List.mem_of_getElem? (i := 235) rfl)) rfl
theorem tw_919 : ∀ w ∈ ([.methodLink RX11 152 yX3_add, .instanceMethod yX3_add, .selects RX3 yX3_add yX3_add, .initialized RX3] : List Cond), w ∈ tw_W := al_c (tw_in (t8_5 (List.mem_of_getElem? (i := 232) rfl)) rfl) (al_c (tw_in (t8_5 (List.mem_of_getElem? (i := 233) rfl)) rfl) (al_c (tw_in (t8_5 (List.mem_of_getElem? (i := 234) rfl)) rfl) (al_c (tw_in (t8_1 (List.mem_of_getElem? (i := 2) rfl)) rfl) al_n)))
theorem dX11_give_8 : decode cX11_give 8 = .ok (.ireturn, 1) := by decide +kernel
theorem dX11_forget_0 : decode cX11_forget 0 = .ok (.aload_n 0, 1) := by decide +kernel
theorem dX11_forget_1 : decode cX11_forget 1 = .ok (.getfield 20, 3) := by decide +kernel
theorem dX11_forget_4 : decode cX11_forget 4 = .ok (.invokevirtual 155, 3) := by decide +kernel
theorem tw_920 : (.code yX3_clear cX3_clear 2 (some .int) : Cond) ∈ tw_W := tw_in (t8_6 (List.mem_of_getElem? (i := 3) rfl)) rfl
theorem tw_921 : ∀ w ∈ ([.methodLink RX11 155 yX3_clear, .instanceMethod yX3_clear, .selects RX3 yX3_clear yX3_clear, .initialized RX3] : List Cond), w ∈ tw_W := al_c (tw_in (t8_6 (List.mem_of_getElem? (i := 0) rfl)) rfl) (al_c (tw_in (t8_6 (List.mem_of_getElem? (i := 1) rfl)) rfl) (al_c (tw_in (t8_6 (List.mem_of_getElem? (i := 2) rfl)) rfl) (al_c (tw_in (t8_1 (List.mem_of_getElem? (i := 2) rfl)) rfl) al_n)))
theorem dX11_forget_7 : decode cX11_forget 7 = .ok (.ireturn, 1) := by decide +kernel
theorem dX11_fault_0 : decode cX11_fault 0 = .ok (.iload_n 1, 1) := by decide +kernel
theorem dX11_fault_1 : decode cX11_fault 1 = .ok (.lookupswitch 37 #[(0, 27), (1, 32)], 27) := by decide +kernel
theorem dX11_fault_28 : decode cX11_fault 28 = .ok (.aload_n 0, 1) := by decide +kernel
theorem dX11_fault_29 : decode cX11_fault 29 = .ok (.getfield 96, 3) := by decide +kernel
theorem tw_922 : (.fieldLink RX11 96 "PocketCompiler" "latestFault" "I" : Cond) ∈ tw_W := tw_in (t8_5 (List.mem_of_getElem? (i := 155) rfl)) rfl
theorem dX11_fault_32 : decode cX11_fault 32 = .ok (.ireturn, 1) := by decide +kernel
theorem dX11_fault_33 : decode cX11_fault 33 = .ok (.aload_n 0, 1) := by decide +kernel
theorem dX11_fault_34 : decode cX11_fault 34 = .ok (.getfield 13, 3) := by decide +kernel
theorem tw_923 : (.fieldLink RX11 13 "PocketCompiler" "latestPlace" "I" : Cond) ∈ tw_W := tw_in (t8_5 (List.mem_of_getElem? (i := 156) rfl)) rfl
theorem dX11_fault_37 : decode cX11_fault 37 = .ok (.ireturn, 1) := by decide +kernel
theorem dX11_fault_38 : decode cX11_fault 38 = .ok (.iconst (-1), 1) := by decide +kernel
theorem dX11_fault_39 : decode cX11_fault 39 = .ok (.ireturn, 1) := by decide +kernel
theorem dX11_function_0 : decode cX11_function 0 = .ok (.iload_n 2, 1) := by decide +kernel
theorem dX11_function_1 : decode cX11_function 1 = .ok (.ifCond .lt 20, 3) := by decide +kernel
theorem dX11_function_21 : decode cX11_function 21 = .ok (.iconst (-1), 1) := by decide +kernel
theorem dX11_function_22 : decode cX11_function 22 = .ok (.ireturn, 1) := by decide +kernel
theorem dX11_function_4 : decode cX11_function 4 = .ok (.iload_n 2, 1) := by decide +kernel
theorem dX11_function_5 : decode cX11_function 5 = .ok (.iconst 3, 1) := by decide +kernel
theorem dX11_function_6 : decode cX11_function 6 = .ok (.if_icmp .gt 15, 3) := by decide +kernel
theorem dX11_function_9 : decode cX11_function 9 = .ok (.aload_n 0, 1) := by decide +kernel
theorem dX11_function_10 : decode cX11_function 10 = .ok (.getfield 36, 3) := by decide +kernel
theorem tw_924 : (.fieldLink RX11 36 "PocketCompiler" "loaded" "LPocketCompiler$Program;" : Cond) ∈ tw_W := tw_in (t8_5 (List.mem_of_getElem? (i := 151) rfl)) rfl
theorem dX11_function_13 : decode cX11_function 13 = .ok (.iload_n 1, 1) := by decide +kernel
theorem dX11_function_14 : decode cX11_function 14 = .ok (.iload_n 2, 1) := by decide +kernel
theorem dX11_function_15 : decode cX11_function 15 = .ok (.invokevirtual 130, 3) := by decide +kernel
theorem tw_925 : ∀ w ∈ ([.methodLink RX11 130 yX7_functionFact, .instanceMethod yX7_functionFact, .selects RX7 yX7_functionFact yX7_functionFact, .initialized RX7] : List Cond), w ∈ tw_W := al_c (tw_in (t8_5 (List.mem_of_getElem? (i := 222) rfl)) rfl) (al_c (tw_in (t8_3 (List.mem_of_getElem? (i := 212) rfl)) rfl) (al_c (tw_in (t8_3 (List.mem_of_getElem? (i := 213) rfl)) rfl) (al_c (tw_in (t8_1 (List.mem_of_getElem? (i := 8) rfl)) rfl) al_n)))
theorem dX11_function_18 : decode cX11_function 18 = .ok (.goto 4, 3) := by decide +kernel
theorem dX11_global_0 : decode cX11_global 0 = .ok (.iload_n 2, 1) := by decide +kernel
theorem dX11_global_1 : decode cX11_global 1 = .ok (.ifCond .lt 20, 3) := by decide +kernel
theorem dX11_global_21 : decode cX11_global 21 = .ok (.iconst (-1), 1) := by decide +kernel
theorem dX11_global_22 : decode cX11_global 22 = .ok (.ireturn, 1) := by decide +kernel
theorem dX11_global_4 : decode cX11_global 4 = .ok (.iload_n 2, 1) := by decide +kernel
theorem dX11_global_5 : decode cX11_global 5 = .ok (.iconst 3, 1) := by decide +kernel
theorem dX11_global_6 : decode cX11_global 6 = .ok (.if_icmp .gt 15, 3) := by decide +kernel
theorem dX11_global_9 : decode cX11_global 9 = .ok (.aload_n 0, 1) := by decide +kernel
theorem dX11_global_10 : decode cX11_global 10 = .ok (.getfield 36, 3) := by decide +kernel
theorem dX11_global_13 : decode cX11_global 13 = .ok (.iload_n 1, 1) := by decide +kernel
theorem dX11_global_14 : decode cX11_global 14 = .ok (.iload_n 2, 1) := by decide +kernel
theorem dX11_global_15 : decode cX11_global 15 = .ok (.invokevirtual 134, 3) := by decide +kernel
theorem tw_926 : ∀ w ∈ ([.methodLink RX11 134 yX7_globalFact, .instanceMethod yX7_globalFact, .selects RX7 yX7_globalFact yX7_globalFact, .initialized RX7] : List Cond), w ∈ tw_W := al_c (tw_in (t8_5 (List.mem_of_getElem? (i := 227) rfl)) rfl) (al_c (tw_in (t8_3 (List.mem_of_getElem? (i := 220) rfl)) rfl) (al_c (tw_in (t8_3 (List.mem_of_getElem? (i := 221) rfl)) rfl) (al_c (tw_in (t8_1 (List.mem_of_getElem? (i := 8) rfl)) rfl) al_n)))
theorem dX11_global_18 : decode cX11_global 18 = .ok (.goto 4, 3) := by decide +kernel
theorem dX11_result_0 : decode cX11_result 0 = .ok (.aload_n 0, 1) := by decide +kernel
theorem dX11_result_1 : decode cX11_result 1 = .ok (.getfield 66, 3) := by decide +kernel
theorem tw_927 : (.fieldLink RX11 66 "PocketCompiler" "processor" "LPocketCompiler$Processor;" : Cond) ∈ tw_W := tw_in (t8_5 (List.mem_of_getElem? (i := 158) rfl)) rfl
theorem dX11_result_4 : decode cX11_result 4 = .ok (.getfield 166, 3) := by decide +kernel
theorem dX11_result_7 : decode cX11_result 7 = .ok (.iconst 1, 1) := by decide +kernel
theorem dX11_result_8 : decode cX11_result 8 = .ok (.if_icmp .ne 15, 3) := by decide +kernel
theorem dX11_result_23 : decode cX11_result 23 = .ok (.iconst 0, 1) := by decide +kernel
theorem dX11_result_24 : decode cX11_result 24 = .ok (.ireturn, 1) := by decide +kernel
theorem dX11_result_11 : decode cX11_result 11 = .ok (.aload_n 0, 1) := by decide +kernel
theorem dX11_result_12 : decode cX11_result 12 = .ok (.getfield 66, 3) := by decide +kernel
theorem dX11_result_15 : decode cX11_result 15 = .ok (.bipush 10, 2) := by decide +kernel
theorem dX11_result_17 : decode cX11_result 17 = .ok (.invokevirtual 175, 3) := by decide +kernel
theorem tw_928 : ∀ w ∈ ([.methodLink RX11 175 yX6_valueOf, .instanceMethod yX6_valueOf, .selects RX6 yX6_valueOf yX6_valueOf, .initialized RX6] : List Cond), w ∈ tw_W := al_c (tw_in (t8_6 (List.mem_of_getElem? (i := 147) rfl)) rfl) (al_c (tw_in (t8_6 (List.mem_of_getElem? (i := 75) rfl)) rfl) (al_c (tw_in (t8_6 (List.mem_of_getElem? (i := 76) rfl)) rfl) (al_c (tw_in (t8_1 (List.mem_of_getElem? (i := 14) rfl)) rfl) al_n)))
theorem dX11_result_20 : decode cX11_result 20 = .ok (.goto 4, 3) := by decide +kernel
theorem dX11_told_0 : decode cX11_told 0 = .ok (.aload_n 0, 1) := by decide +kernel
theorem dX11_told_1 : decode cX11_told 1 = .ok (.getfield 75, 3) := by decide +kernel
theorem tw_929 : (.fieldLink RX11 75 "PocketCompiler" "worker" "LPocketCompiler$Worker;" : Cond) ∈ tw_W := tw_in (t8_5 (List.mem_of_getElem? (i := 159) rfl)) rfl
theorem dX11_told_4 : decode cX11_told 4 = .ok (.iload_n 1, 1) := by decide +kernel
theorem dX11_told_5 : decode cX11_told 5 = .ok (.invokevirtual 229, 3) := by decide +kernel
theorem tw_930 : (.code yX10_fact cX10_fact 2 (some .int) : Cond) ∈ tw_W := tw_in (t8_8 (List.mem_of_getElem? (i := 15) rfl)) rfl
theorem tw_931 : ∀ w ∈ ([.methodLink RX11 229 yX10_fact, .instanceMethod yX10_fact, .selects RX10 yX10_fact yX10_fact, .initialized RX10] : List Cond), w ∈ tw_W := al_c (tw_in (t8_8 (List.mem_of_getElem? (i := 12) rfl)) rfl) (al_c (tw_in (t8_8 (List.mem_of_getElem? (i := 13) rfl)) rfl) (al_c (tw_in (t8_8 (List.mem_of_getElem? (i := 14) rfl)) rfl) (al_c (tw_in (t8_1 (List.mem_of_getElem? (i := 15) rfl)) rfl) al_n)))
theorem dX11_told_8 : decode cX11_told 8 = .ok (.ireturn, 1) := by decide +kernel
theorem dX11_count_0 : decode cX11_count 0 = .ok (.iload_n 1, 1) := by decide +kernel
theorem dX11_count_1 : decode cX11_count 1 = .ok (.tableswitch 161 0 10 #[59, 64, 72, 80, 88, 96, 104, 112, 120, 128, 136], 59) := by decide +kernel
theorem dX11_count_60 : decode cX11_count 60 = .ok (.aload_n 0, 1) := by decide +kernel
theorem dX11_count_61 : decode cX11_count 61 = .ok (.getfield 86, 3) := by decide +kernel
theorem dX11_count_64 : decode cX11_count 64 = .ok (.ireturn, 1) := by decide +kernel
theorem dX11_count_65 : decode cX11_count 65 = .ok (.aload_n 0, 1) := by decide +kernel
theorem dX11_count_66 : decode cX11_count 66 = .ok (.getfield 36, 3) := by decide +kernel
theorem dX11_count_69 : decode cX11_count 69 = .ok (.getfield 246, 3) := by decide +kernel
theorem tw_932 : (.fieldLink RX11 246 "PocketCompiler$Program" "wordCount" "I" : Cond) ∈ tw_W := tw_in (t8_1 (List.mem_of_getElem? (i := 147) rfl)) rfl
theorem dX11_count_72 : decode cX11_count 72 = .ok (.ireturn, 1) := by decide +kernel
theorem dX11_count_73 : decode cX11_count 73 = .ok (.aload_n 0, 1) := by decide +kernel
theorem dX11_count_74 : decode cX11_count 74 = .ok (.getfield 36, 3) := by decide +kernel
theorem dX11_count_77 : decode cX11_count 77 = .ok (.getfield 142, 3) := by decide +kernel
theorem tw_933 : (.fieldLink RX11 142 "PocketCompiler$Program" "functionCount" "I" : Cond) ∈ tw_W := tw_in (t8_1 (List.mem_of_getElem? (i := 119) rfl)) rfl
theorem dX11_count_80 : decode cX11_count 80 = .ok (.ireturn, 1) := by decide +kernel
theorem dX11_count_81 : decode cX11_count 81 = .ok (.aload_n 0, 1) := by decide +kernel
theorem dX11_count_82 : decode cX11_count 82 = .ok (.getfield 36, 3) := by decide +kernel
theorem dX11_count_85 : decode cX11_count 85 = .ok (.getfield 145, 3) := by decide +kernel
theorem tw_934 : (.fieldLink RX11 145 "PocketCompiler$Program" "globalCount" "I" : Cond) ∈ tw_W := tw_in (t8_1 (List.mem_of_getElem? (i := 124) rfl)) rfl
theorem dX11_count_88 : decode cX11_count 88 = .ok (.ireturn, 1) := by decide +kernel
theorem dX11_count_89 : decode cX11_count 89 = .ok (.aload_n 0, 1) := by decide +kernel
theorem dX11_count_90 : decode cX11_count 90 = .ok (.getfield 36, 3) := by decide +kernel
theorem dX11_count_93 : decode cX11_count 93 = .ok (.getfield 249, 3) := by decide +kernel
theorem tw_935 : (.fieldLink RX11 249 "PocketCompiler$Program" "limit" "I" : Cond) ∈ tw_W := tw_in (t8_1 (List.mem_of_getElem? (i := 151) rfl)) rfl
theorem dX11_count_96 : decode cX11_count 96 = .ok (.ireturn, 1) := by decide +kernel
theorem dX11_count_97 : decode cX11_count 97 = .ok (.aload_n 0, 1) := by decide +kernel
theorem dX11_count_98 : decode cX11_count 98 = .ok (.getfield 66, 3) := by decide +kernel
theorem dX11_count_101 : decode cX11_count 101 = .ok (.getfield 166, 3) := by decide +kernel
theorem dX11_count_104 : decode cX11_count 104 = .ok (.ireturn, 1) := by decide +kernel
theorem dX11_count_105 : decode cX11_count 105 = .ok (.aload_n 0, 1) := by decide +kernel
theorem dX11_count_106 : decode cX11_count 106 = .ok (.getfield 66, 3) := by decide +kernel
theorem dX11_count_109 : decode cX11_count 109 = .ok (.getfield 252, 3) := by decide +kernel
theorem dX11_count_112 : decode cX11_count 112 = .ok (.ireturn, 1) := by decide +kernel
theorem dX11_count_113 : decode cX11_count 113 = .ok (.aload_n 0, 1) := by decide +kernel
theorem dX11_count_114 : decode cX11_count 114 = .ok (.getfield 66, 3) := by decide +kernel
theorem dX11_count_117 : decode cX11_count 117 = .ok (.getfield 202, 3) := by decide +kernel
theorem dX11_count_120 : decode cX11_count 120 = .ok (.ireturn, 1) := by decide +kernel
theorem dX11_count_121 : decode cX11_count 121 = .ok (.aload_n 0, 1) := by decide +kernel
theorem dX11_count_122 : decode cX11_count 122 = .ok (.getfield 20, 3) := by decide +kernel
theorem dX11_count_125 : decode cX11_count 125 = .ok (.getfield 255, 3) := by decide +kernel
theorem dX11_count_128 : decode cX11_count 128 = .ok (.ireturn, 1) := by decide +kernel
theorem dX11_count_129 : decode cX11_count 129 = .ok (.aload_n 0, 1) := by decide +kernel
theorem dX11_count_130 : decode cX11_count 130 = .ok (.getfield 66, 3) := by decide +kernel
theorem dX11_count_133 : decode cX11_count 133 = .ok (.invokevirtual 258, 3) := by decide +kernel
theorem tw_936 : (.code yX6_size cX6_size 1 (some .int) : Cond) ∈ tw_W := tw_in (t8_8 (List.mem_of_getElem? (i := 23) rfl)) rfl
theorem tw_937 : ∀ w ∈ ([.methodLink RX11 258 yX6_size, .instanceMethod yX6_size, .selects RX6 yX6_size yX6_size, .initialized RX6] : List Cond), w ∈ tw_W := al_c (tw_in (t8_8 (List.mem_of_getElem? (i := 20) rfl)) rfl) (al_c (tw_in (t8_8 (List.mem_of_getElem? (i := 21) rfl)) rfl) (al_c (tw_in (t8_8 (List.mem_of_getElem? (i := 22) rfl)) rfl) (al_c (tw_in (t8_1 (List.mem_of_getElem? (i := 14) rfl)) rfl) al_n)))
theorem dX11_count_136 : decode cX11_count 136 = .ok (.ireturn, 1) := by decide +kernel
theorem dX11_count_137 : decode cX11_count 137 = .ok (.aload_n 0, 1) := by decide +kernel
theorem dX11_count_138 : decode cX11_count 138 = .ok (.getfield 66, 3) := by decide +kernel
theorem dX11_count_141 : decode cX11_count 141 = .ok (.getfield 166, 3) := by decide +kernel
theorem dX11_count_144 : decode cX11_count 144 = .ok (.iconst 1, 1) := by decide +kernel
theorem dX11_count_145 : decode cX11_count 145 = .ok (.if_icmp .ne 15, 3) := by decide +kernel
theorem dX11_count_160 : decode cX11_count 160 = .ok (.iconst 0, 1) := by decide +kernel
theorem dX11_count_161 : decode cX11_count 161 = .ok (.ireturn, 1) := by decide +kernel
theorem dX11_count_148 : decode cX11_count 148 = .ok (.aload_n 0, 1) := by decide +kernel
theorem dX11_count_149 : decode cX11_count 149 = .ok (.getfield 66, 3) := by decide +kernel
theorem dX11_count_152 : decode cX11_count 152 = .ok (.bipush 17, 2) := by decide +kernel
theorem dX11_count_154 : decode cX11_count 154 = .ok (.invokevirtual 175, 3) := by decide +kernel
theorem dX11_count_157 : decode cX11_count 157 = .ok (.goto 4, 3) := by decide +kernel
theorem dX11_count_162 : decode cX11_count 162 = .ok (.iconst (-1), 1) := by decide +kernel
theorem dX11_count_163 : decode cX11_count 163 = .ok (.ireturn, 1) := by decide +kernel
theorem dX11_start_0 : decode cX11_start 0 = .ok (.aload_n 0, 1) := by decide +kernel
theorem dX11_start_1 : decode cX11_start 1 = .ok (.getfield 36, 3) := by decide +kernel
theorem dX11_start_4 : decode cX11_start 4 = .ok (.iload_n 1, 1) := by decide +kernel
theorem dX11_start_5 : decode cX11_start 5 = .ok (.iconst 0, 1) := by decide +kernel
theorem dX11_start_6 : decode cX11_start 6 = .ok (.invokevirtual 130, 3) := by decide +kernel
theorem dX11_start_9 : decode cX11_start 9 = .ok (.istore 4, 2) := by decide +kernel
theorem dX11_start_11 : decode cX11_start 11 = .ok (.iload 4, 2) := by decide +kernel
theorem dX11_start_13 : decode cX11_start 13 = .ok (.iconst (-1), 1) := by decide +kernel
theorem dX11_start_14 : decode cX11_start 14 = .ok (.if_icmp .eq 9, 3) := by decide +kernel
theorem dX11_start_23 : decode cX11_start 23 = .ok (.iconst 0, 1) := by decide +kernel
theorem dX11_start_24 : decode cX11_start 24 = .ok (.ireturn, 1) := by decide +kernel
theorem dX11_start_17 : decode cX11_start 17 = .ok (.iload 4, 2) := by decide +kernel
theorem dX11_start_19 : decode cX11_start 19 = .ok (.iconst 2, 1) := by decide +kernel
theorem dX11_start_20 : decode cX11_start 20 = .ok (.if_icmp .le 5, 3) := by decide +kernel
theorem dX11_start_25 : decode cX11_start 25 = .ok (.aload_n 0, 1) := by decide +kernel
theorem dX11_start_26 : decode cX11_start 26 = .ok (.getfield 66, 3) := by decide +kernel
theorem dX11_start_29 : decode cX11_start 29 = .ok (.aload_n 0, 1) := by decide +kernel
theorem dX11_start_30 : decode cX11_start 30 = .ok (.getfield 36, 3) := by decide +kernel
theorem dX11_start_33 : decode cX11_start 33 = .ok (.aload_n 0, 1) := by decide +kernel
theorem dX11_start_34 : decode cX11_start 34 = .ok (.getfield 36, 3) := by decide +kernel
theorem dX11_start_37 : decode cX11_start 37 = .ok (.iload_n 1, 1) := by decide +kernel
theorem dX11_start_38 : decode cX11_start 38 = .ok (.iconst 1, 1) := by decide +kernel
theorem dX11_start_39 : decode cX11_start 39 = .ok (.invokevirtual 130, 3) := by decide +kernel
theorem dX11_start_42 : decode cX11_start 42 = .ok (.iload_n 2, 1) := by decide +kernel
theorem dX11_start_43 : decode cX11_start 43 = .ok (.iload_n 3, 1) := by decide +kernel
theorem dX11_start_44 : decode cX11_start 44 = .ok (.invokevirtual 159, 3) := by decide +kernel
theorem tw_938 : (.code yX6_begin cX6_begin 6 none : Cond) ∈ tw_W := tw_in (t8_6 (List.mem_of_getElem? (i := 11) rfl)) rfl
theorem tw_939 : ∀ w ∈ ([.methodLink RX11 159 yX6_begin, .instanceMethod yX6_begin, .selects RX6 yX6_begin yX6_begin, .initialized RX6] : List Cond), w ∈ tw_W := al_c (tw_in (t8_6 (List.mem_of_getElem? (i := 8) rfl)) rfl) (al_c (tw_in (t8_6 (List.mem_of_getElem? (i := 9) rfl)) rfl) (al_c (tw_in (t8_6 (List.mem_of_getElem? (i := 10) rfl)) rfl) (al_c (tw_in (t8_1 (List.mem_of_getElem? (i := 14) rfl)) rfl) al_n)))
theorem dX11_start_47 : decode cX11_start 47 = .ok (.iconst 1, 1) := by decide +kernel
theorem dX11_start_48 : decode cX11_start 48 = .ok (.ireturn, 1) := by decide +kernel
theorem dX11_step_0 : decode cX11_step 0 = .ok (.aload_n 0, 1) := by decide +kernel
theorem dX11_step_1 : decode cX11_step 1 = .ok (.getfield 66, 3) := by decide +kernel
theorem dX11_step_4 : decode cX11_step 4 = .ok (.invokevirtual 163, 3) := by decide +kernel
theorem tw_940 : ∀ w ∈ ([.methodLink RX11 163 yX6_tick, .instanceMethod yX6_tick, .selects RX6 yX6_tick yX6_tick, .initialized RX6] : List Cond), w ∈ tw_W := al_c (tw_in (t8_6 (List.mem_of_getElem? (i := 35) rfl)) rfl) (al_c (tw_in (t8_6 (List.mem_of_getElem? (i := 36) rfl)) rfl) (al_c (tw_in (t8_6 (List.mem_of_getElem? (i := 37) rfl)) rfl) (al_c (tw_in (t8_1 (List.mem_of_getElem? (i := 14) rfl)) rfl) al_n)))
theorem dX11_step_7 : decode cX11_step 7 = .ok (.aload_n 0, 1) := by decide +kernel
theorem dX11_step_8 : decode cX11_step 8 = .ok (.getfield 66, 3) := by decide +kernel
theorem dX11_step_11 : decode cX11_step 11 = .ok (.getfield 166, 3) := by decide +kernel
theorem dX11_step_14 : decode cX11_step 14 = .ok (.ireturn, 1) := by decide +kernel
theorem dX11_code_0 : decode cX11_code 0 = .ok (.iload_n 1, 1) := by decide +kernel
theorem dX11_code_1 : decode cX11_code 1 = .ok (.ifCond .ge 13, 3) := by decide +kernel
theorem dX11_code_14 : decode cX11_code 14 = .ok (.aload_n 0, 1) := by decide +kernel
theorem dX11_code_15 : decode cX11_code 15 = .ok (.getfield 36, 3) := by decide +kernel
theorem dX11_code_18 : decode cX11_code 18 = .ok (.iload_n 1, 1) := by decide +kernel
theorem dX11_code_19 : decode cX11_code 19 = .ok (.invokevirtual 126, 3) := by decide +kernel
theorem tw_941 : ∀ w ∈ ([.methodLink RX11 126 yX7_wordAt, .instanceMethod yX7_wordAt, .selects RX7 yX7_wordAt yX7_wordAt, .initialized RX7] : List Cond), w ∈ tw_W := al_c (tw_in (t8_8 (List.mem_of_getElem? (i := 48) rfl)) rfl) (al_c (tw_in (t8_6 (List.mem_of_getElem? (i := 16) rfl)) rfl) (al_c (tw_in (t8_6 (List.mem_of_getElem? (i := 17) rfl)) rfl) (al_c (tw_in (t8_1 (List.mem_of_getElem? (i := 8) rfl)) rfl) al_n)))
theorem dX11_code_22 : decode cX11_code 22 = .ok (.ireturn, 1) := by decide +kernel
theorem dX11_code_4 : decode cX11_code 4 = .ok (.new 119, 3) := by decide +kernel
theorem dX11_code_7 : decode cX11_code 7 = .ok (.dup, 1) := by decide +kernel
theorem dX11_code_8 : decode cX11_code 8 = .ok (.ldc 121, 2) := by decide +kernel
theorem dX11_code_10 : decode cX11_code 10 = .ok (.invokespecial 123, 3) := by decide +kernel
theorem dX11_code_13 : decode cX11_code 13 = .ok (.athrow, 1) := by decide +kernel
theorem tw_942 : (.classLink RX11 119 "java/lang/IndexOutOfBoundsException" : Cond) ∈ tw_W := tw_in (t8_8 (List.mem_of_getElem? (i := 35) rfl)) rfl
theorem tw_943 : (.initialized "java/lang/IndexOutOfBoundsException" : Cond) ∈ tw_W := tw_in (t8_1 (List.mem_of_getElem? (i := 26) rfl)) rfl
theorem xat_0 : ∀ w ∈ (vx_atS RX11 123 "java/lang/IndexOutOfBoundsException" ["java/lang/RuntimeException", "java/lang/Exception"]).filter goodWord, w ∈ tw_W := tw_all (by decide +kernel)
theorem xat_0_n : ∀ w ∈ (vx_atS RX11 123 "java/lang/IndexOutOfBoundsException" ["java/lang/RuntimeException", "java/lang/Exception"]).filter (fun w => !goodWord w), w ∈ ([.castable "java/lang/IndexOutOfBoundsException" "java/lang/IndexOutOfBoundsException", .declares (Bundle.initS "java/lang/RuntimeException"), .declares (Bundle.initS "java/lang/Exception"), .declares (Bundle.initS Bundle.tN)] : List Cond) := by decide +kernel
theorem xat_0_o : ∀ w ∈ Cond.classLink RX11 119 "java/lang/IndexOutOfBoundsException" :: Cond.initialized "java/lang/IndexOutOfBoundsException" :: vx_atS RX11 123 "java/lang/IndexOutOfBoundsException" ["java/lang/RuntimeException", "java/lang/Exception"], vx_ot w = true := by decide +kernel
theorem dX11_run_0 : decode cX11_run 0 = .ok (.iload_n 1, 1) := by decide +kernel
theorem dX11_run_1 : decode cX11_run 1 = .ok (.ifCond .lt 9, 3) := by decide +kernel
theorem dX11_run_10 : decode cX11_run 10 = .ok (.new 137, 3) := by decide +kernel
theorem dX11_run_13 : decode cX11_run 13 = .ok (.dup, 1) := by decide +kernel
theorem dX11_run_14 : decode cX11_run 14 = .ok (.ldc 170, 2) := by decide +kernel
theorem dX11_run_16 : decode cX11_run 16 = .ok (.invokespecial 141, 3) := by decide +kernel
theorem dX11_run_19 : decode cX11_run 19 = .ok (.athrow, 1) := by decide +kernel
theorem tw_944 : (.classLink RX11 137 "java/lang/IllegalArgumentException" : Cond) ∈ tw_W := tw_in (t8_8 (List.mem_of_getElem? (i := 57) rfl)) rfl
theorem tw_945 : (.initialized "java/lang/IllegalArgumentException" : Cond) ∈ tw_W := tw_in (t8_1 (List.mem_of_getElem? (i := 27) rfl)) rfl
theorem xat_1 : ∀ w ∈ (vx_atS RX11 141 "java/lang/IllegalArgumentException" ["java/lang/RuntimeException", "java/lang/Exception"]).filter goodWord, w ∈ tw_W := tw_all (by decide +kernel)
theorem xat_1_n : ∀ w ∈ (vx_atS RX11 141 "java/lang/IllegalArgumentException" ["java/lang/RuntimeException", "java/lang/Exception"]).filter (fun w => !goodWord w), w ∈ ([.castable "java/lang/IllegalArgumentException" "java/lang/IllegalArgumentException", .declares (Bundle.initS "java/lang/RuntimeException"), .declares (Bundle.initS "java/lang/Exception"), .declares (Bundle.initS Bundle.tN)] : List Cond) := by decide +kernel
theorem xat_1_o : ∀ w ∈ Cond.classLink RX11 137 "java/lang/IllegalArgumentException" :: Cond.initialized "java/lang/IllegalArgumentException" :: vx_atS RX11 141 "java/lang/IllegalArgumentException" ["java/lang/RuntimeException", "java/lang/Exception"], vx_ot w = true := by decide +kernel
theorem dX11_run_4 : decode cX11_run 4 = .ok (.iload_n 1, 1) := by decide +kernel
theorem dX11_run_5 : decode cX11_run 5 = .ok (.ldc 169, 2) := by decide +kernel
theorem tw_946 : (.constant RX11 169 (50000) : Cond) ∈ tw_W := tw_in (t8_8 (List.mem_of_getElem? (i := 72) rfl)) rfl
theorem dX11_run_7 : decode cX11_run 7 = .ok (.if_icmp .le 13, 3) := by decide +kernel
theorem dX11_run_20 : decode cX11_run 20 = .ok (.aload_n 0, 1) := by decide +kernel
theorem dX11_run_21 : decode cX11_run 21 = .ok (.getfield 66, 3) := by decide +kernel
theorem dX11_run_24 : decode cX11_run 24 = .ok (.iload_n 1, 1) := by decide +kernel
theorem dX11_run_25 : decode cX11_run 25 = .ok (.invokevirtual 172, 3) := by decide +kernel
theorem tw_947 : (.code yX6_ticks cX6_ticks 4 (some .int) : Cond) ∈ tw_W := tw_in (t8_8 (List.mem_of_getElem? (i := 77) rfl)) rfl
theorem tw_948 : ∀ w ∈ ([.methodLink RX11 172 yX6_ticks, .instanceMethod yX6_ticks, .selects RX6 yX6_ticks yX6_ticks, .initialized RX6] : List Cond), w ∈ tw_W := al_c (tw_in (t8_8 (List.mem_of_getElem? (i := 74) rfl)) rfl) (al_c (tw_in (t8_8 (List.mem_of_getElem? (i := 75) rfl)) rfl) (al_c (tw_in (t8_8 (List.mem_of_getElem? (i := 76) rfl)) rfl) (al_c (tw_in (t8_1 (List.mem_of_getElem? (i := 14) rfl)) rfl) al_n)))
theorem dX11_run_28 : decode cX11_run 28 = .ok (.ireturn, 1) := by decide +kernel
theorem dX11_register_0 : decode cX11_register 0 = .ok (.iload_n 1, 1) := by decide +kernel
theorem dX11_register_1 : decode cX11_register 1 = .ok (.ifCond .lt 9, 3) := by decide +kernel
theorem dX11_register_10 : decode cX11_register 10 = .ok (.new 119, 3) := by decide +kernel
theorem dX11_register_13 : decode cX11_register 13 = .ok (.dup, 1) := by decide +kernel
theorem dX11_register_14 : decode cX11_register 14 = .ok (.ldc 178, 2) := by decide +kernel
theorem dX11_register_16 : decode cX11_register 16 = .ok (.invokespecial 123, 3) := by decide +kernel
theorem dX11_register_19 : decode cX11_register 19 = .ok (.athrow, 1) := by decide +kernel
theorem dX11_register_4 : decode cX11_register 4 = .ok (.iload_n 1, 1) := by decide +kernel
theorem dX11_register_5 : decode cX11_register 5 = .ok (.bipush 32, 2) := by decide +kernel
theorem dX11_register_7 : decode cX11_register 7 = .ok (.if_icmp .le 13, 3) := by decide +kernel
theorem dX11_register_20 : decode cX11_register 20 = .ok (.iload_n 1, 1) := by decide +kernel
theorem dX11_register_21 : decode cX11_register 21 = .ok (.bipush 32, 2) := by decide +kernel
theorem dX11_register_23 : decode cX11_register 23 = .ok (.if_icmp .ne 13, 3) := by decide +kernel
theorem dX11_register_36 : decode cX11_register 36 = .ok (.aload_n 0, 1) := by decide +kernel
theorem dX11_register_37 : decode cX11_register 37 = .ok (.getfield 66, 3) := by decide +kernel
theorem dX11_register_40 : decode cX11_register 40 = .ok (.iload_n 1, 1) := by decide +kernel
theorem dX11_register_41 : decode cX11_register 41 = .ok (.invokevirtual 175, 3) := by decide +kernel
theorem dX11_register_44 : decode cX11_register 44 = .ok (.ireturn, 1) := by decide +kernel
theorem dX11_register_26 : decode cX11_register 26 = .ok (.aload_n 0, 1) := by decide +kernel
theorem dX11_register_27 : decode cX11_register 27 = .ok (.getfield 66, 3) := by decide +kernel
theorem dX11_register_30 : decode cX11_register 30 = .ok (.getfield 180, 3) := by decide +kernel
theorem dX11_register_33 : decode cX11_register 33 = .ok (.goto 11, 3) := by decide +kernel
theorem dX11_set_0 : decode cX11_set 0 = .ok (.iload_n 1, 1) := by decide +kernel
theorem dX11_set_1 : decode cX11_set 1 = .ok (.ifCond .lt 9, 3) := by decide +kernel
theorem dX11_set_10 : decode cX11_set 10 = .ok (.new 119, 3) := by decide +kernel
theorem dX11_set_13 : decode cX11_set 13 = .ok (.dup, 1) := by decide +kernel
theorem dX11_set_14 : decode cX11_set 14 = .ok (.ldc 178, 2) := by decide +kernel
theorem dX11_set_16 : decode cX11_set 16 = .ok (.invokespecial 123, 3) := by decide +kernel
theorem dX11_set_19 : decode cX11_set 19 = .ok (.athrow, 1) := by decide +kernel
theorem dX11_set_4 : decode cX11_set 4 = .ok (.iload_n 1, 1) := by decide +kernel
theorem dX11_set_5 : decode cX11_set 5 = .ok (.bipush 32, 2) := by decide +kernel
theorem dX11_set_7 : decode cX11_set 7 = .ok (.if_icmp .le 13, 3) := by decide +kernel
theorem dX11_set_20 : decode cX11_set 20 = .ok (.aload_n 0, 1) := by decide +kernel
theorem dX11_set_21 : decode cX11_set 21 = .ok (.getfield 66, 3) := by decide +kernel
theorem dX11_set_24 : decode cX11_set 24 = .ok (.iload_n 1, 1) := by decide +kernel
theorem dX11_set_25 : decode cX11_set 25 = .ok (.iload_n 2, 1) := by decide +kernel
theorem dX11_set_26 : decode cX11_set 26 = .ok (.invokevirtual 183, 3) := by decide +kernel
theorem tw_949 : (.code yX6_change cX6_change 3 none : Cond) ∈ tw_W := tw_in (t8_8 (List.mem_of_getElem? (i := 97) rfl)) rfl
theorem tw_950 : ∀ w ∈ ([.methodLink RX11 183 yX6_change, .instanceMethod yX6_change, .selects RX6 yX6_change yX6_change, .initialized RX6] : List Cond), w ∈ tw_W := al_c (tw_in (t8_8 (List.mem_of_getElem? (i := 94) rfl)) rfl) (al_c (tw_in (t8_8 (List.mem_of_getElem? (i := 95) rfl)) rfl) (al_c (tw_in (t8_8 (List.mem_of_getElem? (i := 96) rfl)) rfl) (al_c (tw_in (t8_1 (List.mem_of_getElem? (i := 14) rfl)) rfl) al_n)))
theorem dX11_set_29 : decode cX11_set 29 = .ok (.return_, 1) := by decide +kernel
theorem dX11_checkAddress_0 : decode cX11_checkAddress 0 = .ok (.iload_n 1, 1) := by decide +kernel
theorem dX11_checkAddress_1 : decode cX11_checkAddress 1 = .ok (.iconst 3, 1) := by decide +kernel
theorem dX11_checkAddress_2 : decode cX11_checkAddress 2 = .ok (.iand, 1) := by decide +kernel
theorem dX11_checkAddress_3 : decode cX11_checkAddress 3 = .ok (.ifCond .eq 13, 3) := by decide +kernel
theorem dX11_checkAddress_16 : decode cX11_checkAddress 16 = .ok (.aload_n 0, 1) := by decide +kernel
theorem dX11_checkAddress_17 : decode cX11_checkAddress 17 = .ok (.getfield 66, 3) := by decide +kernel
theorem dX11_checkAddress_20 : decode cX11_checkAddress 20 = .ok (.iload_n 1, 1) := by decide +kernel
theorem dX11_checkAddress_21 : decode cX11_checkAddress 21 = .ok (.invokevirtual 196, 3) := by decide +kernel
theorem tw_951 : ∀ w ∈ ([.methodLink RX11 196 yX6_hasWord, .instanceMethod yX6_hasWord, .selects RX6 yX6_hasWord yX6_hasWord, .initialized RX6] : List Cond), w ∈ tw_W := al_c (tw_in (t8_8 (List.mem_of_getElem? (i := 110) rfl)) rfl) (al_c (tw_in (t8_6 (List.mem_of_getElem? (i := 40) rfl)) rfl) (al_c (tw_in (t8_6 (List.mem_of_getElem? (i := 41) rfl)) rfl) (al_c (tw_in (t8_1 (List.mem_of_getElem? (i := 14) rfl)) rfl) al_n)))
theorem dX11_checkAddress_24 : decode cX11_checkAddress 24 = .ok (.ifCond .ne 13, 3) := by decide +kernel
theorem dX11_checkAddress_37 : decode cX11_checkAddress 37 = .ok (.return_, 1) := by decide +kernel
theorem dX11_checkAddress_27 : decode cX11_checkAddress 27 = .ok (.new 119, 3) := by decide +kernel
theorem dX11_checkAddress_30 : decode cX11_checkAddress 30 = .ok (.dup, 1) := by decide +kernel
theorem dX11_checkAddress_31 : decode cX11_checkAddress 31 = .ok (.ldc 200, 2) := by decide +kernel
theorem dX11_checkAddress_33 : decode cX11_checkAddress 33 = .ok (.invokespecial 123, 3) := by decide +kernel
theorem dX11_checkAddress_36 : decode cX11_checkAddress 36 = .ok (.athrow, 1) := by decide +kernel
theorem dX11_checkAddress_6 : decode cX11_checkAddress 6 = .ok (.new 137, 3) := by decide +kernel
theorem dX11_checkAddress_9 : decode cX11_checkAddress 9 = .ok (.dup, 1) := by decide +kernel
theorem dX11_checkAddress_10 : decode cX11_checkAddress 10 = .ok (.ldc 194, 2) := by decide +kernel
theorem dX11_checkAddress_12 : decode cX11_checkAddress 12 = .ok (.invokespecial 141, 3) := by decide +kernel
theorem dX11_checkAddress_15 : decode cX11_checkAddress 15 = .ok (.athrow, 1) := by decide +kernel
theorem dX11_word_0 : decode cX11_word 0 = .ok (.aload_n 0, 1) := by decide +kernel
theorem dX11_word_1 : decode cX11_word 1 = .ok (.iload_n 1, 1) := by decide +kernel
theorem dX11_word_2 : decode cX11_word 2 = .ok (.invokevirtual 187, 3) := by decide +kernel
theorem tw_952 : (.code yX11_checkAddress cX11_checkAddress 2 none : Cond) ∈ tw_W := tw_in (t8_8 (List.mem_of_getElem? (i := 108) rfl)) rfl
theorem tw_953 : ∀ w ∈ ([.methodLink RX11 187 yX11_checkAddress, .instanceMethod yX11_checkAddress, .selects RX11 yX11_checkAddress yX11_checkAddress, .initialized RX11] : List Cond), w ∈ tw_W := al_c (tw_in (t8_8 (List.mem_of_getElem? (i := 105) rfl)) rfl) (al_c (tw_in (t8_8 (List.mem_of_getElem? (i := 107) rfl)) rfl) (al_c (tw_in (t7_6 (q := (yX11_checkAddress, 12)) (List.mem_of_getElem? (i := 10) rfl)) rfl) (al_c (tw_in (t8_1 (List.mem_of_getElem? (i := 1) rfl)) rfl) al_n)))
theorem dX11_word_5 : decode cX11_word 5 = .ok (.aload_n 0, 1) := by decide +kernel
theorem dX11_word_6 : decode cX11_word 6 = .ok (.getfield 66, 3) := by decide +kernel
theorem dX11_word_9 : decode cX11_word 9 = .ok (.iload_n 1, 1) := by decide +kernel
theorem dX11_word_10 : decode cX11_word 10 = .ok (.invokevirtual 190, 3) := by decide +kernel
theorem tw_954 : ∀ w ∈ ([.methodLink RX11 190 yX6_wordAt, .instanceMethod yX6_wordAt, .selects RX6 yX6_wordAt yX6_wordAt, .initialized RX6] : List Cond), w ∈ tw_W := al_c (tw_in (t8_8 (List.mem_of_getElem? (i := 112) rfl)) rfl) (al_c (tw_in (t8_6 (List.mem_of_getElem? (i := 44) rfl)) rfl) (al_c (tw_in (t8_6 (List.mem_of_getElem? (i := 45) rfl)) rfl) (al_c (tw_in (t8_1 (List.mem_of_getElem? (i := 14) rfl)) rfl) al_n)))
theorem dX11_word_13 : decode cX11_word 13 = .ok (.ireturn, 1) := by decide +kernel
theorem dX11_poke_0 : decode cX11_poke 0 = .ok (.aload_n 0, 1) := by decide +kernel
theorem dX11_poke_1 : decode cX11_poke 1 = .ok (.iload_n 1, 1) := by decide +kernel
theorem dX11_poke_2 : decode cX11_poke 2 = .ok (.invokevirtual 187, 3) := by decide +kernel
theorem dX11_poke_5 : decode cX11_poke 5 = .ok (.aload_n 0, 1) := by decide +kernel
theorem dX11_poke_6 : decode cX11_poke 6 = .ok (.getfield 66, 3) := by decide +kernel
theorem dX11_poke_9 : decode cX11_poke 9 = .ok (.iload_n 1, 1) := by decide +kernel
theorem dX11_poke_10 : decode cX11_poke 10 = .ok (.iload_n 2, 1) := by decide +kernel
theorem dX11_poke_11 : decode cX11_poke 11 = .ok (.invokevirtual 191, 3) := by decide +kernel
theorem tw_955 : ∀ w ∈ ([.methodLink RX11 191 yX6_layWord, .instanceMethod yX6_layWord, .selects RX6 yX6_layWord yX6_layWord, .initialized RX6] : List Cond), w ∈ tw_W := al_c (tw_in (t8_8 (List.mem_of_getElem? (i := 120) rfl)) rfl) (al_c (tw_in (t8_6 (List.mem_of_getElem? (i := 20) rfl)) rfl) (al_c (tw_in (t8_6 (List.mem_of_getElem? (i := 21) rfl)) rfl) (al_c (tw_in (t8_1 (List.mem_of_getElem? (i := 14) rfl)) rfl) al_n)))
theorem dX11_poke_14 : decode cX11_poke 14 = .ok (.return_, 1) := by decide +kernel
theorem dX11_put_0 : decode cX11_put 0 = .ok (.iload_n 1, 1) := by decide +kernel
theorem dX11_put_1 : decode cX11_put 1 = .ok (.ifCond .lt 21, 3) := by decide +kernel
theorem dX11_put_22 : decode cX11_put 22 = .ok (.new 205, 3) := by decide +kernel
theorem dX11_put_25 : decode cX11_put 25 = .ok (.dup, 1) := by decide +kernel
theorem dX11_put_26 : decode cX11_put 26 = .ok (.ldc 207, 2) := by decide +kernel
theorem dX11_put_28 : decode cX11_put 28 = .ok (.invokespecial 209, 3) := by decide +kernel
theorem dX11_put_31 : decode cX11_put 31 = .ok (.athrow, 1) := by decide +kernel
theorem tw_956 : (.classLink RX11 205 "java/util/NoSuchElementException" : Cond) ∈ tw_W := tw_in (t8_8 (List.mem_of_getElem? (i := 129) rfl)) rfl
theorem tw_957 : (.initialized "java/util/NoSuchElementException" : Cond) ∈ tw_W := tw_in (t8_1 (List.mem_of_getElem? (i := 31) rfl)) rfl
theorem xat_2 : ∀ w ∈ (nx_at RX11 209 "java/util/NoSuchElementException" 13 nx_rx ["java/lang/RuntimeException", "java/lang/Exception"]).filter goodWord, w ∈ tw_W := tw_all (by decide +kernel)
theorem xat_2_n : ∀ w ∈ (nx_at RX11 209 "java/util/NoSuchElementException" 13 nx_rx ["java/lang/RuntimeException", "java/lang/Exception"]).filter (fun w => !goodWord w), w ∈ ([.castable "java/util/NoSuchElementException" "java/util/NoSuchElementException", .declares (Bundle.initS "java/lang/RuntimeException"), .declares (Bundle.initS "java/lang/Exception"), .declares (Bundle.initS Bundle.tN)] : List Cond) := by decide +kernel
theorem xat_2_o : ∀ w ∈ Cond.classLink RX11 205 "java/util/NoSuchElementException" :: Cond.initialized "java/util/NoSuchElementException" :: nx_at RX11 209 "java/util/NoSuchElementException" 13 nx_rx ["java/lang/RuntimeException", "java/lang/Exception"], vx_ot w = true := by decide +kernel
theorem dX11_put_4 : decode cX11_put 4 = .ok (.iload_n 1, 1) := by decide +kernel
theorem dX11_put_5 : decode cX11_put 5 = .ok (.aload_n 0, 1) := by decide +kernel
theorem dX11_put_6 : decode cX11_put 6 = .ok (.getfield 66, 3) := by decide +kernel
theorem dX11_put_9 : decode cX11_put 9 = .ok (.getfield 202, 3) := by decide +kernel
theorem dX11_put_12 : decode cX11_put 12 = .ok (.if_icmp .ge 10, 3) := by decide +kernel
theorem dX11_put_15 : decode cX11_put 15 = .ok (.iload_n 1, 1) := by decide +kernel
theorem dX11_put_16 : decode cX11_put 16 = .ok (.sipush 200, 3) := by decide +kernel
theorem dX11_put_19 : decode cX11_put 19 = .ok (.if_icmp .lt 13, 3) := by decide +kernel
theorem dX11_put_32 : decode cX11_put 32 = .ok (.aload_n 0, 1) := by decide +kernel
theorem dX11_put_33 : decode cX11_put 33 = .ok (.getfield 66, 3) := by decide +kernel
theorem dX11_put_36 : decode cX11_put 36 = .ok (.getfield 210, 3) := by decide +kernel
theorem dX11_put_39 : decode cX11_put 39 = .ok (.iload_n 1, 1) := by decide +kernel
theorem dX11_put_40 : decode cX11_put 40 = .ok (.iaload, 1) := by decide +kernel
theorem dX11_put_41 : decode cX11_put 41 = .ok (.ireturn, 1) := by decide +kernel
theorem dX11_worked_0 : decode cX11_worked 0 = .ok (.aload_n 0, 1) := by decide +kernel
theorem dX11_worked_1 : decode cX11_worked 1 = .ok (.getfield 75, 3) := by decide +kernel
theorem dX11_worked_4 : decode cX11_worked 4 = .ok (.getfield 232, 3) := by decide +kernel
theorem dX11_worked_7 : decode cX11_worked 7 = .ok (.ifCond .eq 25, 3) := by decide +kernel
theorem dX11_worked_32 : decode cX11_worked 32 = .ok (.new 205, 3) := by decide +kernel
theorem dX11_worked_35 : decode cX11_worked 35 = .ok (.dup, 1) := by decide +kernel
theorem dX11_worked_36 : decode cX11_worked 36 = .ok (.ldc 207, 2) := by decide +kernel
theorem dX11_worked_38 : decode cX11_worked 38 = .ok (.invokespecial 209, 3) := by decide +kernel
theorem dX11_worked_41 : decode cX11_worked 41 = .ok (.athrow, 1) := by decide +kernel
theorem dX11_worked_10 : decode cX11_worked 10 = .ok (.iload_n 1, 1) := by decide +kernel
theorem dX11_worked_11 : decode cX11_worked 11 = .ok (.ifCond .lt 21, 3) := by decide +kernel
theorem dX11_worked_14 : decode cX11_worked 14 = .ok (.iload_n 1, 1) := by decide +kernel
theorem dX11_worked_15 : decode cX11_worked 15 = .ok (.aload_n 0, 1) := by decide +kernel
theorem dX11_worked_16 : decode cX11_worked 16 = .ok (.getfield 75, 3) := by decide +kernel
theorem dX11_worked_19 : decode cX11_worked 19 = .ok (.getfield 236, 3) := by decide +kernel
theorem dX11_worked_22 : decode cX11_worked 22 = .ok (.if_icmp .ge 10, 3) := by decide +kernel
theorem dX11_worked_25 : decode cX11_worked 25 = .ok (.iload_n 1, 1) := by decide +kernel
theorem dX11_worked_26 : decode cX11_worked 26 = .ok (.sipush 200, 3) := by decide +kernel
theorem dX11_worked_29 : decode cX11_worked 29 = .ok (.if_icmp .lt 13, 3) := by decide +kernel
theorem dX11_worked_42 : decode cX11_worked 42 = .ok (.aload_n 0, 1) := by decide +kernel
theorem dX11_worked_43 : decode cX11_worked 43 = .ok (.getfield 75, 3) := by decide +kernel
theorem dX11_worked_46 : decode cX11_worked 46 = .ok (.getfield 237, 3) := by decide +kernel
theorem dX11_worked_49 : decode cX11_worked 49 = .ok (.iload_n 1, 1) := by decide +kernel
theorem dX11_worked_50 : decode cX11_worked 50 = .ok (.iaload, 1) := by decide +kernel
theorem dX11_worked_51 : decode cX11_worked 51 = .ok (.ireturn, 1) := by decide +kernel
theorem dX11_left_0 : decode cX11_left 0 = .ok (.aload_n 0, 1) := by decide +kernel
theorem dX11_left_1 : decode cX11_left 1 = .ok (.getfield 75, 3) := by decide +kernel
theorem dX11_left_4 : decode cX11_left 4 = .ok (.getfield 232, 3) := by decide +kernel
theorem dX11_left_7 : decode cX11_left 7 = .ok (.ifCond .eq 20, 3) := by decide +kernel
theorem dX11_left_27 : decode cX11_left 27 = .ok (.new 205, 3) := by decide +kernel
theorem dX11_left_30 : decode cX11_left 30 = .ok (.dup, 1) := by decide +kernel
theorem dX11_left_31 : decode cX11_left 31 = .ok (.ldc 238, 2) := by decide +kernel
theorem dX11_left_33 : decode cX11_left 33 = .ok (.invokespecial 209, 3) := by decide +kernel
theorem dX11_left_36 : decode cX11_left 36 = .ok (.athrow, 1) := by decide +kernel
theorem dX11_left_10 : decode cX11_left 10 = .ok (.iload_n 2, 1) := by decide +kernel
theorem dX11_left_11 : decode cX11_left 11 = .ok (.ifCond .lt 16, 3) := by decide +kernel
theorem dX11_left_14 : decode cX11_left 14 = .ok (.iload_n 2, 1) := by decide +kernel
theorem dX11_left_15 : decode cX11_left 15 = .ok (.aload_n 0, 1) := by decide +kernel
theorem dX11_left_16 : decode cX11_left 16 = .ok (.getfield 36, 3) := by decide +kernel
theorem dX11_left_19 : decode cX11_left 19 = .ok (.iload_n 1, 1) := by decide +kernel
theorem dX11_left_20 : decode cX11_left 20 = .ok (.iconst 0, 1) := by decide +kernel
theorem dX11_left_21 : decode cX11_left 21 = .ok (.invokevirtual 134, 3) := by decide +kernel
theorem dX11_left_24 : decode cX11_left 24 = .ok (.if_icmp .lt 13, 3) := by decide +kernel
theorem dX11_left_37 : decode cX11_left 37 = .ok (.aload_n 0, 1) := by decide +kernel
theorem dX11_left_38 : decode cX11_left 38 = .ok (.getfield 75, 3) := by decide +kernel
theorem dX11_left_41 : decode cX11_left 41 = .ok (.aload_n 0, 1) := by decide +kernel
theorem dX11_left_42 : decode cX11_left 42 = .ok (.getfield 36, 3) := by decide +kernel
theorem dX11_left_45 : decode cX11_left 45 = .ok (.iload_n 1, 1) := by decide +kernel
theorem dX11_left_46 : decode cX11_left 46 = .ok (.invokevirtual 240, 3) := by decide +kernel
theorem tw_958 : ∀ w ∈ ([.methodLink RX11 240 yX7_firstCell, .instanceMethod yX7_firstCell, .selects RX7 yX7_firstCell yX7_firstCell, .initialized RX7] : List Cond), w ∈ tw_W := al_c (tw_in (t8_9 (List.mem_of_getElem? (i := 22) rfl)) rfl) (al_c (tw_in (t8_8 (List.mem_of_getElem? (i := 231) rfl)) rfl) (al_c (tw_in (t8_8 (List.mem_of_getElem? (i := 232) rfl)) rfl) (al_c (tw_in (t8_1 (List.mem_of_getElem? (i := 8) rfl)) rfl) al_n)))
theorem dX11_left_49 : decode cX11_left 49 = .ok (.iload_n 2, 1) := by decide +kernel
theorem dX11_left_50 : decode cX11_left 50 = .ok (.iadd, 1) := by decide +kernel
theorem dX11_left_51 : decode cX11_left 51 = .ok (.invokevirtual 243, 3) := by decide +kernel
theorem tw_959 : ∀ w ∈ ([.methodLink RX11 243 yX10_cellAt, .instanceMethod yX10_cellAt, .selects RX10 yX10_cellAt yX10_cellAt, .initialized RX10] : List Cond), w ∈ tw_W := al_c (tw_in (t8_9 (List.mem_of_getElem? (i := 23) rfl)) rfl) (al_c (tw_in (t8_8 (List.mem_of_getElem? (i := 235) rfl)) rfl) (al_c (tw_in (t8_8 (List.mem_of_getElem? (i := 236) rfl)) rfl) (al_c (tw_in (t8_1 (List.mem_of_getElem? (i := 15) rfl)) rfl) al_n)))
theorem dX11_left_54 : decode cX11_left 54 = .ok (.ireturn, 1) := by decide +kernel
theorem dX11_find_0 : decode cX11_find 0 = .ok (.iload_n 1, 1) := by decide +kernel
theorem dX11_find_1 : decode cX11_find 1 = .ok (.ifCond .eq 18, 3) := by decide +kernel
theorem dX11_find_19 : decode cX11_find 19 = .ok (.iload_n 1, 1) := by decide +kernel
theorem dX11_find_20 : decode cX11_find 20 = .ok (.ifCond .ne 13, 3) := by decide +kernel
theorem dX11_find_23 : decode cX11_find 23 = .ok (.aload_n 0, 1) := by decide +kernel
theorem dX11_find_24 : decode cX11_find 24 = .ok (.getfield 36, 3) := by decide +kernel
theorem dX11_find_27 : decode cX11_find 27 = .ok (.getfield 142, 3) := by decide +kernel
theorem dX11_find_30 : decode cX11_find 30 = .ok (.goto 10, 3) := by decide +kernel
theorem dX11_find_40 : decode cX11_find 40 = .ok (.istore_n 2, 1) := by decide +kernel
theorem dX11_find_41 : decode cX11_find 41 = .ok (.iconst 0, 1) := by decide +kernel
theorem dX11_find_42 : decode cX11_find 42 = .ok (.istore_n 3, 1) := by decide +kernel
theorem dX11_find_43 : decode cX11_find 43 = .ok (.iload_n 3, 1) := by decide +kernel
theorem dX11_find_44 : decode cX11_find 44 = .ok (.iload_n 2, 1) := by decide +kernel
theorem dX11_find_45 : decode cX11_find 45 = .ok (.if_icmp .ge 58, 3) := by decide +kernel
theorem dX11_find_103 : decode cX11_find 103 = .ok (.iconst (-1), 1) := by decide +kernel
theorem dX11_find_104 : decode cX11_find 104 = .ok (.ireturn, 1) := by decide +kernel
theorem dX11_find_48 : decode cX11_find 48 = .ok (.iload_n 1, 1) := by decide +kernel
theorem dX11_find_49 : decode cX11_find 49 = .ok (.ifCond .ne 15, 3) := by decide +kernel
theorem dX11_find_52 : decode cX11_find 52 = .ok (.aload_n 0, 1) := by decide +kernel
theorem dX11_find_53 : decode cX11_find 53 = .ok (.getfield 36, 3) := by decide +kernel
theorem dX11_find_56 : decode cX11_find 56 = .ok (.iload_n 3, 1) := by decide +kernel
theorem dX11_find_57 : decode cX11_find 57 = .ok (.iconst 3, 1) := by decide +kernel
theorem dX11_find_58 : decode cX11_find 58 = .ok (.invokevirtual 130, 3) := by decide +kernel
theorem dX11_find_61 : decode cX11_find 61 = .ok (.goto 12, 3) := by decide +kernel
theorem dX11_find_73 : decode cX11_find 73 = .ok (.istore 4, 2) := by decide +kernel
theorem dX11_find_75 : decode cX11_find 75 = .ok (.aload_n 0, 1) := by decide +kernel
theorem dX11_find_76 : decode cX11_find 76 = .ok (.getfield 36, 3) := by decide +kernel
theorem dX11_find_79 : decode cX11_find 79 = .ok (.iload 4, 2) := by decide +kernel
theorem dX11_find_81 : decode cX11_find 81 = .ok (.aload_n 0, 1) := by decide +kernel
theorem dX11_find_82 : decode cX11_find 82 = .ok (.getfield 9, 3) := by decide +kernel
theorem dX11_find_85 : decode cX11_find 85 = .ok (.aload_n 0, 1) := by decide +kernel
theorem dX11_find_86 : decode cX11_find 86 = .ok (.getfield 86, 3) := by decide +kernel
theorem dX11_find_89 : decode cX11_find 89 = .ok (.invokevirtual 148, 3) := by decide +kernel
theorem tw_960 : (.code yX7_isNameAt cX7_isNameAt 5 (some .boolean) : Cond) ∈ tw_W := tw_in (t8_8 (List.mem_of_getElem? (i := 63) rfl)) rfl
theorem tw_961 : ∀ w ∈ ([.methodLink RX11 148 yX7_isNameAt, .instanceMethod yX7_isNameAt, .selects RX7 yX7_isNameAt yX7_isNameAt, .initialized RX7] : List Cond), w ∈ tw_W := al_c (tw_in (t8_8 (List.mem_of_getElem? (i := 60) rfl)) rfl) (al_c (tw_in (t8_8 (List.mem_of_getElem? (i := 61) rfl)) rfl) (al_c (tw_in (t8_8 (List.mem_of_getElem? (i := 62) rfl)) rfl) (al_c (tw_in (t8_1 (List.mem_of_getElem? (i := 8) rfl)) rfl) al_n)))
theorem dX11_find_92 : decode cX11_find 92 = .ok (.ifCond .eq 5, 3) := by decide +kernel
theorem dX11_find_97 : decode cX11_find 97 = .ok (.iinc 3 1, 3) := by decide +kernel
theorem dX11_find_100 : decode cX11_find 100 = .ok (.goto (-57), 3) := by decide +kernel
theorem dX11_find_95 : decode cX11_find 95 = .ok (.iload_n 3, 1) := by decide +kernel
theorem dX11_find_96 : decode cX11_find 96 = .ok (.ireturn, 1) := by decide +kernel
theorem dX11_find_4 : decode cX11_find 4 = .ok (.iload_n 1, 1) := by decide +kernel
theorem dX11_find_5 : decode cX11_find 5 = .ok (.iconst 1, 1) := by decide +kernel
theorem dX11_find_6 : decode cX11_find 6 = .ok (.if_icmp .eq 13, 3) := by decide +kernel
theorem dX11_find_33 : decode cX11_find 33 = .ok (.aload_n 0, 1) := by decide +kernel
theorem dX11_find_34 : decode cX11_find 34 = .ok (.getfield 36, 3) := by decide +kernel
theorem dX11_find_37 : decode cX11_find 37 = .ok (.getfield 145, 3) := by decide +kernel
theorem dX11_find_64 : decode cX11_find 64 = .ok (.aload_n 0, 1) := by decide +kernel
theorem dX11_find_65 : decode cX11_find 65 = .ok (.getfield 36, 3) := by decide +kernel
theorem dX11_find_68 : decode cX11_find 68 = .ok (.iload_n 3, 1) := by decide +kernel
theorem dX11_find_69 : decode cX11_find 69 = .ok (.iconst 3, 1) := by decide +kernel
theorem dX11_find_70 : decode cX11_find 70 = .ok (.invokevirtual 134, 3) := by decide +kernel
theorem dX11_find_9 : decode cX11_find 9 = .ok (.new 137, 3) := by decide +kernel
theorem dX11_find_12 : decode cX11_find 12 = .ok (.dup, 1) := by decide +kernel
theorem dX11_find_13 : decode cX11_find 13 = .ok (.ldc 139, 2) := by decide +kernel
theorem dX11_find_15 : decode cX11_find 15 = .ok (.invokespecial 141, 3) := by decide +kernel
theorem dX11_find_18 : decode cX11_find 18 = .ok (.athrow, 1) := by decide +kernel
theorem dX11_work_0 : decode cX11_work 0 = .ok (.aload_n 0, 1) := by decide +kernel
theorem dX11_work_1 : decode cX11_work 1 = .ok (.getfield 36, 3) := by decide +kernel
theorem dX11_work_4 : decode cX11_work 4 = .ok (.iload_n 1, 1) := by decide +kernel
theorem dX11_work_5 : decode cX11_work 5 = .ok (.iconst 0, 1) := by decide +kernel
theorem dX11_work_6 : decode cX11_work 6 = .ok (.invokevirtual 130, 3) := by decide +kernel
theorem dX11_work_9 : decode cX11_work 9 = .ok (.istore 5, 2) := by decide +kernel
theorem dX11_work_11 : decode cX11_work 11 = .ok (.iload 5, 2) := by decide +kernel
theorem dX11_work_13 : decode cX11_work 13 = .ok (.iconst (-1), 1) := by decide +kernel
theorem dX11_work_14 : decode cX11_work 14 = .ok (.if_icmp .ne 13, 3) := by decide +kernel
theorem dX11_work_27 : decode cX11_work 27 = .ok (.iload 5, 2) := by decide +kernel
theorem dX11_work_29 : decode cX11_work 29 = .ok (.iconst 2, 1) := by decide +kernel
theorem dX11_work_30 : decode cX11_work 30 = .ok (.if_icmp .gt 16, 3) := by decide +kernel
theorem dX11_work_46 : decode cX11_work 46 = .ok (.new 137, 3) := by decide +kernel
theorem dX11_work_49 : decode cX11_work 49 = .ok (.dup, 1) := by decide +kernel
theorem dX11_work_50 : decode cX11_work 50 = .ok (.ldc 221, 2) := by decide +kernel
theorem dX11_work_52 : decode cX11_work 52 = .ok (.invokespecial 141, 3) := by decide +kernel
theorem dX11_work_55 : decode cX11_work 55 = .ok (.athrow, 1) := by decide +kernel
theorem dX11_work_33 : decode cX11_work 33 = .ok (.iload 4, 2) := by decide +kernel
theorem dX11_work_35 : decode cX11_work 35 = .ok (.ifCond .lt 11, 3) := by decide +kernel
theorem dX11_work_38 : decode cX11_work 38 = .ok (.iload 4, 2) := by decide +kernel
theorem dX11_work_40 : decode cX11_work 40 = .ok (.sipush 20000, 3) := by decide +kernel
theorem dX11_work_43 : decode cX11_work 43 = .ok (.if_icmp .le 13, 3) := by decide +kernel
theorem dX11_work_56 : decode cX11_work 56 = .ok (.aload_n 0, 1) := by decide +kernel
theorem dX11_work_57 : decode cX11_work 57 = .ok (.getfield 75, 3) := by decide +kernel
theorem dX11_work_60 : decode cX11_work 60 = .ok (.aload_n 0, 1) := by decide +kernel
theorem dX11_work_61 : decode cX11_work 61 = .ok (.getfield 36, 3) := by decide +kernel
theorem dX11_work_64 : decode cX11_work 64 = .ok (.iload 4, 2) := by decide +kernel
theorem dX11_work_66 : decode cX11_work 66 = .ok (.invokevirtual 223, 3) := by decide +kernel
theorem tw_962 : (.code yX10_begin cX10_begin 3 none : Cond) ∈ tw_W := tw_in (t8_8 (List.mem_of_getElem? (i := 157) rfl)) rfl
theorem tw_963 : ∀ w ∈ ([.methodLink RX11 223 yX10_begin, .instanceMethod yX10_begin, .selects RX10 yX10_begin yX10_begin, .initialized RX10] : List Cond), w ∈ tw_W := al_c (tw_in (t8_8 (List.mem_of_getElem? (i := 154) rfl)) rfl) (al_c (tw_in (t8_8 (List.mem_of_getElem? (i := 155) rfl)) rfl) (al_c (tw_in (t8_8 (List.mem_of_getElem? (i := 156) rfl)) rfl) (al_c (tw_in (t8_1 (List.mem_of_getElem? (i := 15) rfl)) rfl) al_n)))
theorem dX11_work_69 : decode cX11_work 69 = .ok (.aload_n 0, 1) := by decide +kernel
theorem dX11_work_70 : decode cX11_work 70 = .ok (.getfield 75, 3) := by decide +kernel
theorem dX11_work_73 : decode cX11_work 73 = .ok (.iload_n 1, 1) := by decide +kernel
theorem dX11_work_74 : decode cX11_work 74 = .ok (.iload_n 2, 1) := by decide +kernel
theorem dX11_work_75 : decode cX11_work 75 = .ok (.iload_n 3, 1) := by decide +kernel
theorem dX11_work_76 : decode cX11_work 76 = .ok (.invokevirtual 225, 3) := by decide +kernel
theorem tw_964 : (.code yX10_perform cX10_perform 6 (some .int) : Cond) ∈ tw_W := tw_in (t8_8 (List.mem_of_getElem? (i := 162) rfl)) rfl
theorem tw_965 : ∀ w ∈ ([.methodLink RX11 225 yX10_perform, .instanceMethod yX10_perform, .selects RX10 yX10_perform yX10_perform, .initialized RX10] : List Cond), w ∈ tw_W := al_c (tw_in (t8_8 (List.mem_of_getElem? (i := 159) rfl)) rfl) (al_c (tw_in (t8_8 (List.mem_of_getElem? (i := 160) rfl)) rfl) (al_c (tw_in (t8_8 (List.mem_of_getElem? (i := 161) rfl)) rfl) (al_c (tw_in (t8_1 (List.mem_of_getElem? (i := 15) rfl)) rfl) al_n)))
theorem dX11_work_79 : decode cX11_work 79 = .ok (.ireturn, 1) := by decide +kernel
theorem dX11_work_17 : decode cX11_work 17 = .ok (.new 205, 3) := by decide +kernel
theorem dX11_work_20 : decode cX11_work 20 = .ok (.dup, 1) := by decide +kernel
theorem dX11_work_21 : decode cX11_work 21 = .ok (.ldc 219, 2) := by decide +kernel
theorem dX11_work_23 : decode cX11_work 23 = .ok (.invokespecial 209, 3) := by decide +kernel
theorem dX11_work_26 : decode cX11_work 26 = .ok (.athrow, 1) := by decide +kernel
theorem om_77e86ab0aa : -8 ≤ (24 : Int) ∧ (24 : Int) ≤ 24 := by omega
theorem om_5739693d88 {x0 : Int} : 4000 < x0 + 4 ∨ ((24 : Int) = 24 ∧ x0 = x0) ∨ ((24 : Int) = 16 ∧ x0 = x0 + 1) ∨ ((24 : Int) = 8 ∧ x0 = x0 + 2) ∨ ((24 : Int) = 0 ∧ x0 = x0 + 3) ∨ ((24 : Int) = -8 ∧ x0 = x0 + 4) := by omega
theorem om_a5693e5ccf {x0 x1 x2 : Int} (h0 : 4000 < x0 + 4 ∨ (x1 = 24 ∧ x2 = x0) ∨ (x1 = 16 ∧ x2 = x0 + 1) ∨ (x1 = 8 ∧ x2 = x0 + 2) ∨ (x1 = 0 ∧ x2 = x0 + 3) ∨ (x1 = -8 ∧ x2 = x0 + 4)) (h1 : x1 < (0 : Int)) : 4000 < x0 + 4 ∨ x2 = x0 + 4 := by omega
theorem om_33f50978ca {x0 : Int} (h0 : 0 ≤ x0 ∧ x0 ≤ 4000) (h1 : (4000 : Int) ≤ x0) : 0 ≤ x0 ∧ x0 ≤ 4000 := by omega
theorem om_2e61873d11 {x0 x1 x2 : Int} (h0 : 4000 < x0 + 4 ∨ (x1 = 24 ∧ x2 = x0) ∨ (x1 = 16 ∧ x2 = x0 + 1) ∨ (x1 = 8 ∧ x2 = x0 + 2) ∨ (x1 = 0 ∧ x2 = x0 + 3) ∨ (x1 = -8 ∧ x2 = x0 + 4)) (h1 : (0 : Int) ≤ x1) (h2 : (4000 : Int) ≤ x2) : 4000 < x0 + 4 ∨ x2 = x0 + 4 := by omega
theorem om_bf63f54252 {x0 : Int} (h0 : 0 ≤ x0 ∧ x0 ≤ 4000) : -2147483648 ≤ (x0) + (1 : Int) := by omega
theorem om_6b1d535e54 {x0 : Int} (h0 : 0 ≤ x0 ∧ x0 ≤ 4000) : (x0) + (1 : Int) < 2147483648 := by omega
theorem om_46a32e73c6 {x0 : Int} (h0 : -8 ≤ x0 ∧ x0 ≤ 24) : -2147483648 ≤ x0 + (-8 : Int) := by omega
theorem om_4b053e3f73 {x0 : Int} (h0 : -8 ≤ x0 ∧ x0 ≤ 24) : x0 + (-8 : Int) < 2147483648 := by omega
theorem om_ec11426526 {x0 x1 : Int} (h0 : 0 ≤ x0 ∧ x0 ≤ 4000) (h1 : x0 < (4000 : Int)) (h2 : x1 = (x0) + (1 : Int)) : 0 ≤ x1 ∧ x1 ≤ 4000 := by omega
theorem om_5adeab355d {x0 x1 : Int} (h0 : -8 ≤ x0 ∧ x0 ≤ 24) (h1 : (0 : Int) ≤ x0) (h2 : x1 = x0 + (-8 : Int)) : -8 ≤ x1 ∧ x1 ≤ 24 := by omega
theorem om_45343ba71a {x0 x1 x2 x3 x4 : Int} (h0 : -8 ≤ x0 ∧ x0 ≤ 24) (h1 : 4000 < x1 + 4 ∨ (x0 = 24 ∧ x2 = x1) ∨ (x0 = 16 ∧ x2 = x1 + 1) ∨ (x0 = 8 ∧ x2 = x1 + 2) ∨ (x0 = 0 ∧ x2 = x1 + 3) ∨ (x0 = -8 ∧ x2 = x1 + 4)) (h2 : (0 : Int) ≤ x0) (h3 : x3 = (x2) + (1 : Int)) (h4 : x4 = x0 + (-8 : Int)) : 4000 < x1 + 4 ∨ (x4 = 24 ∧ x3 = x1) ∨ (x4 = 16 ∧ x3 = x1 + 1) ∨ (x4 = 8 ∧ x3 = x1 + 2) ∨ (x4 = 0 ∧ x3 = x1 + 3) ∨ (x4 = -8 ∧ x3 = x1 + 4) := by omega
set_option maxHeartbeats 4000000 in
set_option maxRecDepth 100000 in
theorem c_x_X11_tapeNumber (l : Launch) (dC : Nat → ClassId) (dI : Nat → Nat → Nat) (cI cB cZ cJ cR : ClassId) (tb : Nat → Nat) (sz : Nat) (ad : Nat → Nat) (pr : Int32 → Nat) (N : Nat) (L1 L2 : List Nat) (Z : va_W) (v : MS) (pa : Int32) (z391 : 0 ≤ (v.1 0 391).toInt ∧ (v.1 0 391).toInt ≤ 4000) : Met l yX11_tapeNumber (Cond.code yX11_tapeNumber cX11_tapeNumber 3 none :: tw_W) ({ frames := 0, cells := 0, slots := 0, locals := 0 }) (pc_ (dC, dI) (tyS cI cB cZ cJ cR) tb (pW ad pr N cI cR L1 L2 Z v) sz [.ref (ad 909), .int pa]) (qv_ (dC, dI) (pW ad pr N cI cR L1 L2 Z v) sz (fun (u : MS) => FC [391] [0, 299] v u ∧ (Q_x_X11_tapeNumber L1 L2 v pa u) ∧ (0 ≤ (u.1 0 391).toInt ∧ (u.1 0 391).toInt ≤ 4000) ∧ (4000 < (v.1 0 391).toInt + 4 ∨ (u.1 0 391).toInt = (v.1 0 391).toInt + 4) ∧ (RS0 v u)) (fun (u : MS) => (pW ad pr N cI cR L1 L2 Z u))) 0 0 (va_A (pW ad pr N cI cR L1 L2 Z v) sz) := by
  refine Met.ofW (cc := cX11_tapeNumber) (maxL := 3) (ret := none) (by decide) rfl ?_
  intro p e s m args below meth c s₁ B hml hv
  obtain ⟨rfl, hsz, hP, hKK, hD0, hFx⟩ := hv
  have hK := hKK.1
  have hx := B.exec
  have hb := B.bytes
  have hr := B.returns
  have ht : ∀ w ∈ tw_W, w.before _ s = true := fun w h => atoms_spec (ws := Cond.code yX11_tapeNumber cX11_tapeNumber 3 none :: tw_W) B.pre w (List.mem_cons_of_mem _ h)
  have hown : s.vm.findClass RX11 = some m.cls := findClass_of_methodNamed B.named
  have hlocks := B.notSynchronized
  subst hsz
  unfold qv_
  have hD := hD0.self (sz := s.heap.size)
  generalize hAe : va_A (pW ad pr N cI cR L1 L2 Z v) s.heap.size = A at hD hFx ⊢
  have hA : ∀ q : Nat, s.heap.size ≤ q → A q := fun q h => by rw [← hAe]; exact Or.inr h
  have hS : va_S A s.heap s.heap [] := va_S.rf
  have hl := lv_entry ([.ref (ad 909), .int pa]) (n := 3) (Nat.le_of_ble_eq_true rfl)
  rw [lg_entry_eq]
  generalize (lg_sl ([.ref (ad 909), .int pa]) ++ List.replicate (3 - (lg_sl ([.ref (ad 909), .int pa])).length) Slot.unset).toArray = ls at hl ⊢
  have hl : lv_has ls 3 [(0, .ref (ad 909)), (1, .int pa)] := hl
  refine lv_bipush (v := 24) hx hb dX11_tapeNumber_0 (by decide) ?_
  refine lv_istore_n (lv' := [(2, .int 24), (0, .ref (ad 909)), (1, .int pa)]) hx hb dX11_tapeNumber_2 rfl hl (by decide) rfl (fun ls hl => ?_)
  refine lpm_ (X := Int32 × MS) (P := (fun (x9 : Int32 × MS) (H : Heap) (locs : List Loc) (ls : Array Slot) => (FC [391] [0, 299] v x9.2) ∧ (0 ≤ (x9.2.1 0 391).toInt ∧ (x9.2.1 0 391).toInt ≤ 4000) ∧ (-8 ≤ x9.1.toInt ∧ x9.1.toInt ≤ 24) ∧ (4000 < (v.1 0 391).toInt + 4 ∨ (x9.1.toInt = 24 ∧ (x9.2.1 0 391).toInt = (v.1 0 391).toInt) ∨ (x9.1.toInt = 16 ∧ (x9.2.1 0 391).toInt = (v.1 0 391).toInt + 1) ∨ (x9.1.toInt = 8 ∧ (x9.2.1 0 391).toInt = (v.1 0 391).toInt + 2) ∨ (x9.1.toInt = 0 ∧ (x9.2.1 0 391).toInt = (v.1 0 391).toInt + 3) ∨ (x9.1.toInt = -8 ∧ (x9.2.1 0 391).toInt = (v.1 0 391).toInt + 4)) ∧ (RS0 v x9.2) ∧ (RT (Q_x_X11_tapeNumber_L0 v pa) (24, v) (x9.1, x9.2)) ∧ va_P (dC, dI) vwCl (pW ad pr N cI cR L1 L2 Z x9.2) H ∧ va_D A (pW ad pr N cI cR L1 L2 Z x9.2) ∧ va_S A s.heap H locs ∧ lv_has ls 3 [(2, .int x9.1), (0, .ref (ad 909)), (1, .int pa)])) (fun x9 => (x9.1.toInt + 8).toNat) 3 (fun x9 H locs ls hh ih3 => ?_) (24, v) _ _ _ ⟨(show FC [391] [0, 299] v v from (FC.rf _)), (show 0 ≤ (v.1 0 391).toInt ∧ (v.1 0 391).toInt ≤ 4000 from (om_c74a68af25 z391)), (show -8 ≤ (24 : Int) ∧ (24 : Int) ≤ 24 from om_77e86ab0aa), (show 4000 < (v.1 0 391).toInt + 4 ∨ ((24 : Int) = 24 ∧ (v.1 0 391).toInt = (v.1 0 391).toInt) ∨ ((24 : Int) = 16 ∧ (v.1 0 391).toInt = (v.1 0 391).toInt + 1) ∨ ((24 : Int) = 8 ∧ (v.1 0 391).toInt = (v.1 0 391).toInt + 2) ∨ ((24 : Int) = 0 ∧ (v.1 0 391).toInt = (v.1 0 391).toInt + 3) ∨ ((24 : Int) = -8 ∧ (v.1 0 391).toInt = (v.1 0 391).toInt + 4) from om_5739693d88), (show RS0 v v from RS0.rf), RT.rf, hP, hD, hS, lv_sub hl [0, 1, 2] rfl⟩
  obtain ⟨sh, w3⟩ := x9
  obtain ⟨fwL3, i391L3, f1L3, f2L3, rsL3, exL3, hP, hD, hS, hl⟩ := hh
  have fwL3 : FC [391] [0, 299] v w3 := fwL3
  have i391L3 : 0 ≤ (w3.1 0 391).toInt ∧ (w3.1 0 391).toInt ≤ 4000 := i391L3
  have f1L3 : -8 ≤ sh.toInt ∧ sh.toInt ≤ 24 := f1L3
  have f2L3 : 4000 < (v.1 0 391).toInt + 4 ∨ (sh.toInt = 24 ∧ (w3.1 0 391).toInt = (v.1 0 391).toInt) ∨ (sh.toInt = 16 ∧ (w3.1 0 391).toInt = (v.1 0 391).toInt + 1) ∨ (sh.toInt = 8 ∧ (w3.1 0 391).toInt = (v.1 0 391).toInt + 2) ∨ (sh.toInt = 0 ∧ (w3.1 0 391).toInt = (v.1 0 391).toInt + 3) ∨ (sh.toInt = -8 ∧ (w3.1 0 391).toInt = (v.1 0 391).toInt + 4) := f2L3
  have rsL3 : RS0 v w3 := rsL3
  have hP : va_P (dC, dI) vwCl (pW ad pr N cI cR L1 L2 Z w3) H := hP
  have hD : va_D A (pW ad pr N cI cR L1 L2 Z w3) := hD
  have hl : lv_has ls 3 [(2, .int sh), (0, .ref (ad 909)), (1, .int pa)] := hl
  refine lv_iload_n hx hb dX11_tapeNumber_3 rfl (lv_at hl 0 rfl) ?_
  refine lv_if_lt (tgt := 49) hx hb dX11_tapeNumber_4 (by decide) (fun h1 => ?_) (fun h1 => ?_)
  · have z2 : sh.toInt < (0 : Int) := lt_z rfl (show (0 : Int32).toInt = (0 : Int) by decide) h1
    exact W.vret hx hb hr (fun t ht9 hW => ⟨⟨w3, rfl, ⟨(FC.tr (FC.rf _) (FC.up fwL3 (by decide) (by decide))), ⟨z391, sh, w3, exL3, fwL3, i391L3, f1L3, f2L3, rsL3, (Or.inl ⟨z2, rfl⟩)⟩, (show 0 ≤ (w3.1 0 391).toInt ∧ (w3.1 0 391).toInt ≤ 4000 from (om_c74a68af25 i391L3)), (show 4000 < (v.1 0 391).toInt + 4 ∨ (w3.1 0 391).toInt = (v.1 0 391).toInt + 4 from (om_a5693e5ccf f2L3 z2)), (RS0.tr RS0.rf rsL3)⟩, by rw [ht9]; exact hP, hD⟩, hS.F ht9⟩) hS.2.2 dX11_tapeNumber_49
  · have z3 : (0 : Int) ≤ sh.toInt := nlt_z rfl (show (0 : Int32).toInt = (0 : Int) by decide) h1
    refine lv_aload_n hx hb dX11_tapeNumber_7 rfl (lv_at hl 1 rfl) ?_
    refine va_get (D := (dC, dI)) (ci := 14) (fs := oF_X11 ad pr w3) (v := .int (w3.1 0 391)) (C := RX11) (T := TX11) (N := 12) hx hb ht itX11 hown hK hP 0 rfl rfl 1 (by decide) (ht _ tw_913) (fun _ h9 => h9) rfl dX11_tapeNumber_8 ?_
    refine lv_sipush (v := 4000) hx hb dX11_tapeNumber_11 (by decide) ?_
    refine lv_icmp_ge (tgt := 49) hx hb dX11_tapeNumber_14 (by decide) (fun h4 => ?_) (fun h4 => ?_)
    · have z5 : (4000 : Int) ≤ (w3.1 0 391).toInt := le_z (show (4000 : Int32).toInt = (4000 : Int) by decide) rfl h4
      exact W.vret hx hb hr (fun t ht9 hW => ⟨⟨w3, rfl, ⟨(FC.tr (FC.rf _) (FC.up fwL3 (by decide) (by decide))), ⟨z391, sh, w3, exL3, fwL3, i391L3, f1L3, f2L3, rsL3, (Or.inr (⟨z3, z5, rfl⟩))⟩, (show 0 ≤ (w3.1 0 391).toInt ∧ (w3.1 0 391).toInt ≤ 4000 from (om_33f50978ca i391L3 z5)), (show 4000 < (v.1 0 391).toInt + 4 ∨ (w3.1 0 391).toInt = (v.1 0 391).toInt + 4 from (om_2e61873d11 f2L3 z3 z5)), (RS0.tr RS0.rf rsL3)⟩, by rw [ht9]; exact hP, hD⟩, hS.F ht9⟩) hS.2.2 dX11_tapeNumber_49
    · have z6 : (w3.1 0 391).toInt < (4000 : Int) := nle_z (show (4000 : Int32).toInt = (4000 : Int) by decide) rfl h4
      refine lv_aload_n hx hb dX11_tapeNumber_17 rfl (lv_at hl 1 rfl) ?_
      refine va_get (D := (dC, dI)) (ci := 14) (fs := oF_X11 ad pr w3) (v := .ref (ad 299)) (C := RX11) (T := TX11) (N := 12) hx hb ht itX11 hown hK hP 0 rfl rfl 0 (by decide) (ht _ tw_914) (fun _ h9 => h9) rfl dX11_tapeNumber_18 ?_
      refine lv_aload_n hx hb dX11_tapeNumber_21 rfl (lv_at hl 1 rfl) ?_
      refine va_get (D := (dC, dI)) (ci := 14) (fs := oF_X11 ad pr w3) (v := .int (w3.1 0 391)) (C := RX11) (T := TX11) (N := 12) hx hb ht itX11 hown hK hP 0 rfl rfl 1 (by decide) (ht _ tw_913) (fun _ h9 => h9) rfl dX11_tapeNumber_22 ?_
      refine lv_iload_n hx hb dX11_tapeNumber_25 rfl (lv_at hl 2 rfl) ?_
      refine lv_iload_n hx hb dX11_tapeNumber_26 rfl (lv_at hl 0 rfl) ?_
      refine lv_iushr hx hb dX11_tapeNumber_27 rfl ?_
      refine lv_sipush (v := 255) hx hb dX11_tapeNumber_28 (by decide) ?_
      refine lv_iand hx hb dX11_tapeNumber_31 ?_
      refine va_iast (D := (dC, dI)) (f := (w3.1 299)) hx hb hK hP hD hS 10 0 rfl rfl (in_y (a := (w3.1 0 391).toInt) (b := 4000) rfl (om_e3c27f9cb3 i391L3) (om_6003c7c347 z6) rfl) dX11_tapeNumber_32 (fun H locs hP hD hS => ?_)
      have hP := cP_ (pq_299 ad pr N cI cR L1 L2 Z w3 ((w3.1 0 391).toNatClampNeg) (((pa.toUInt32 >>> (sh.toUInt32 &&& Int32.toUInt32 31)).toInt32) &&& (255 : Int32))) hP
      have hD := cD_ (pq_299 ad pr N cI cR L1 L2 Z w3 ((w3.1 0 391).toNatClampNeg) (((pa.toUInt32 >>> (sh.toUInt32 &&& Int32.toUInt32 31)).toInt32) &&& (255 : Int32))) hD
      refine lv_aload_n hx hb dX11_tapeNumber_33 rfl (lv_at hl 1 rfl) ?_
      refine lv_dup hx hb dX11_tapeNumber_34 rfl ?_
      refine va_get (D := (dC, dI)) (ci := 14) (fs := oF_X11 ad pr (wA w3 299 ((w3.1 0 391).toNatClampNeg) (((pa.toUInt32 >>> (sh.toUInt32 &&& Int32.toUInt32 31)).toInt32) &&& (255 : Int32)))) (v := .int (w3.1 0 391)) (C := RX11) (T := TX11) (N := 12) hx hb ht itX11 hown hK hP 0 rfl rfl 1 (by decide) (ht _ tw_913) (fun _ h9 => h9) rfl dX11_tapeNumber_35 ?_
      refine lv_iconst (v := 1) hx hb dX11_tapeNumber_38 (by decide) ?_
      refine lv_iadd hx hb dX11_tapeNumber_39 ?_
      have z7 : ((w3.1 0 391) + (1 : Int32)).toInt = ((w3.1 0 391).toInt) + (1 : Int) := add_z rfl (show (1 : Int32).toInt = (1 : Int) by decide) (om_bf63f54252 i391L3) (om_6b1d535e54 i391L3)
      refine va_put (D := (dC, dI)) (ci := 14) (fs := oF_X11 ad pr (wA w3 299 ((w3.1 0 391).toNatClampNeg) (((pa.toUInt32 >>> (sh.toUInt32 &&& Int32.toUInt32 31)).toInt32) &&& (255 : Int32)))) (v := .int ((w3.1 0 391) + (1 : Int32))) (ty := .int) (C := RX11) (T := TX11) (N := 12) hx hb ht itX11 tyX11 tyX11_ok nmX11 hown hK hP hD hS 0 rfl rfl 1 (by decide) (ht _ tw_913) (fun _ h9 => h9) rfl (by decide +kernel) rfl rfl (Nat.le_of_ble_eq_true rfl) dX11_tapeNumber_40 (fun H locs hP hD hS => ?_)
      have hP := cP_ (pw_391 ad pr N cI cR L1 L2 Z (wA w3 299 ((w3.1 0 391).toNatClampNeg) (((pa.toUInt32 >>> (sh.toUInt32 &&& Int32.toUInt32 31)).toInt32) &&& (255 : Int32))) ((w3.1 0 391) + (1 : Int32))) hP
      have hD := cD_ (pw_391 ad pr N cI cR L1 L2 Z (wA w3 299 ((w3.1 0 391).toNatClampNeg) (((pa.toUInt32 >>> (sh.toUInt32 &&& Int32.toUInt32 31)).toInt32) &&& (255 : Int32))) ((w3.1 0 391) + (1 : Int32))) hD
      refine lv_iinc (v := (sh + (-8 : Int32))) (lv' := [(2, .int (sh + (-8 : Int32))), (0, .ref (ad 909)), (1, .int pa)]) hx hb dX11_tapeNumber_43 hl (k := 0) rfl (rfl) (by decide) rfl (fun ls hl => ?_)
      have z8 : (sh + (-8 : Int32)).toInt = sh.toInt + (-8 : Int) := add_z rfl (show ((-8) : Int32).toInt = (-8 : Int) by decide) (om_46a32e73c6 f1L3) (om_4b053e3f73 f1L3)
      refine lv_goto (tgt := 3) hx hb dX11_tapeNumber_46 (by decide) ?_
      exact ih3 ((sh + (-8 : Int32)), (wA (wA w3 299 ((w3.1 0 391).toNatClampNeg) (((pa.toUInt32 >>> (sh.toUInt32 &&& Int32.toUInt32 31)).toInt32) &&& (255 : Int32))) 0 391 ((w3.1 0 391) + (1 : Int32)))) _ _ _ (show ((sh + (-8 : Int32)).toInt + 8).toNat < (sh.toInt + 8).toNat from tn_z (om_7daa630335 z8) (om_6819d4a94b z3)) ⟨(show FC [391] [0, 299] v (wA (wA w3 299 ((w3.1 0 391).toNatClampNeg) (((pa.toUInt32 >>> (sh.toUInt32 &&& Int32.toUInt32 31)).toInt32) &&& (255 : Int32))) 0 391 ((w3.1 0 391) + (1 : Int32))) from (FC.f (FC.a (FC.tr (FC.rf _) (FC.up fwL3 (by decide) (by decide))) ((w3.1 0 391).toNatClampNeg) (((pa.toUInt32 >>> (sh.toUInt32 &&& Int32.toUInt32 31)).toInt32) &&& (255 : Int32)) (by decide) (by decide)) ((w3.1 0 391) + (1 : Int32)) (by decide))), (show 0 ≤ ((w3.1 0 391) + (1 : Int32)).toInt ∧ ((w3.1 0 391) + (1 : Int32)).toInt ≤ 4000 from (om_ec11426526 i391L3 z6 z7)), (show -8 ≤ (sh + (-8 : Int32)).toInt ∧ (sh + (-8 : Int32)).toInt ≤ 24 from (om_5adeab355d f1L3 z3 z8)), (show 4000 < (v.1 0 391).toInt + 4 ∨ ((sh + (-8 : Int32)).toInt = 24 ∧ ((w3.1 0 391) + (1 : Int32)).toInt = (v.1 0 391).toInt) ∨ ((sh + (-8 : Int32)).toInt = 16 ∧ ((w3.1 0 391) + (1 : Int32)).toInt = (v.1 0 391).toInt + 1) ∨ ((sh + (-8 : Int32)).toInt = 8 ∧ ((w3.1 0 391) + (1 : Int32)).toInt = (v.1 0 391).toInt + 2) ∨ ((sh + (-8 : Int32)).toInt = 0 ∧ ((w3.1 0 391) + (1 : Int32)).toInt = (v.1 0 391).toInt + 3) ∨ ((sh + (-8 : Int32)).toInt = -8 ∧ ((w3.1 0 391) + (1 : Int32)).toInt = (v.1 0 391).toInt + 4) from (om_45343ba71a f1L3 f2L3 z3 z7 z8)), (show RS0 v (wA (wA w3 299 ((w3.1 0 391).toNatClampNeg) (((pa.toUInt32 >>> (sh.toUInt32 &&& Int32.toUInt32 31)).toInt32) &&& (255 : Int32))) 0 391 ((w3.1 0 391) + (1 : Int32))) from (RS0.w (RS0.w (RS0.tr RS0.rf rsL3) (by decide)) (by decide))), (RT.st exL3 ⟨fwL3, i391L3, f1L3, f2L3, rsL3, z3, z6, rfl⟩), hP, hD, hS, lv_sub hl [0, 1, 2] rfl⟩
theorem om_019ab3abd1 {x0 : Int} (h0 : 0 ≤ x0 ∧ x0 ≤ 4000) (h1 : ((x0) + (20 : Int)) ≤ (4000 : Int)) : 0 ≤ x0 ∧ x0 ≤ 4000 := by omega
theorem om_918d79ed57 {x0 x1 x2 x3 x4 x5 : Int} (h0 : ((x0) + (20 : Int)) ≤ (4000 : Int)) (h1 : 4000 < x0 + 4 ∨ x1 = x0 + 4) (h2 : 4000 < x1 + 4 ∨ x2 = x1 + 4) (h3 : 4000 < x2 + 4 ∨ x3 = x2 + 4) (h4 : 4000 < x3 + 4 ∨ x4 = x3 + 4) (h5 : 4000 < x4 + 4 ∨ x5 = x4 + 4) : (x0 + 20 ≤ 4000 ∧ x5 = x0 + 20 ∧ (1 : Int) = 1) ∨ (4000 < x0 + 20 ∧ x5 = x0 ∧ (1 : Int) = 0) := by omega
set_option maxHeartbeats 4000000 in
set_option maxRecDepth 100000 in
theorem c_x_X11_feed (l : Launch) (dC : Nat → ClassId) (dI : Nat → Nat → Nat) (cI cB cZ cJ cR : ClassId) (tb : Nat → Nat) (sz : Nat) (ad : Nat → Nat) (pr : Int32 → Nat) (N : Nat) (L1 L2 : List Nat) (Z : va_W) (v : MS) (pa : Int32) (pb : Int32) (pc1 : Int32) (pd : Int32) (pe : Int32) (z391 : 0 ≤ (v.1 0 391).toInt ∧ (v.1 0 391).toInt ≤ 4000) : Met l yX11_feed (Cond.code yX11_feed cX11_feed 6 (some .boolean) :: tw_W) ({ frames := 1, cells := 0, slots := 0, locals := 22 }) (pc_ (dC, dI) (tyS cI cB cZ cJ cR) tb (pW ad pr N cI cR L1 L2 Z v) sz [.ref (ad 909), .int pa, .int pb, .int pc1, .int pd, .int pe]) (qi_ (dC, dI) (pW ad pr N cI cR L1 L2 Z v) sz (fun (r : Int32) (u : MS) => FC [391] [0, 299] v u ∧ (Q_x_X11_feed L1 L2 v pa pb pc1 pd pe r u) ∧ (0 ≤ (u.1 0 391).toInt ∧ (u.1 0 391).toInt ≤ 4000) ∧ (((v.1 0 391).toInt + 20 ≤ 4000 ∧ (u.1 0 391).toInt = (v.1 0 391).toInt + 20 ∧ r.toInt = 1) ∨ (4000 < (v.1 0 391).toInt + 20 ∧ (u.1 0 391).toInt = (v.1 0 391).toInt ∧ r.toInt = 0)) ∧ (RS0 v u) ∧ (r = 0 ∨ r = 1)) (fun (u : MS) => (pW ad pr N cI cR L1 L2 Z u))) 0 0 (va_A (pW ad pr N cI cR L1 L2 Z v) sz) := by
  refine Met.ofW (cc := cX11_feed) (maxL := 6) (ret := (some .boolean)) (by decide) rfl ?_
  intro p e s m args below meth c s₁ B hml hv
  obtain ⟨rfl, hsz, hP, hKK, hD0, hFx⟩ := hv
  have hK := hKK.1
  have hx := B.exec
  have hb := B.bytes
  have hr := B.returns
  have ht : ∀ w ∈ tw_W, w.before _ s = true := fun w h => atoms_spec (ws := Cond.code yX11_feed cX11_feed 6 (some .boolean) :: tw_W) B.pre w (List.mem_cons_of_mem _ h)
  have hown : s.vm.findClass RX11 = some m.cls := findClass_of_methodNamed B.named
  have hlocks := B.notSynchronized
  subst hsz
  unfold qi_
  have hD := hD0.self (sz := s.heap.size)
  generalize hAe : va_A (pW ad pr N cI cR L1 L2 Z v) s.heap.size = A at hD hFx ⊢
  have hA : ∀ q : Nat, s.heap.size ≤ q → A q := fun q h => by rw [← hAe]; exact Or.inr h
  have hS : va_S A s.heap s.heap [] := va_S.rf
  have hl := lv_entry ([.ref (ad 909), .int pa, .int pb, .int pc1, .int pd, .int pe]) (n := 6) (Nat.le_of_ble_eq_true rfl)
  rw [lg_entry_eq]
  generalize (lg_sl ([.ref (ad 909), .int pa, .int pb, .int pc1, .int pd, .int pe]) ++ List.replicate (6 - (lg_sl ([.ref (ad 909), .int pa, .int pb, .int pc1, .int pd, .int pe])).length) Slot.unset).toArray = ls at hl ⊢
  have hl : lv_has ls 6 [(0, .ref (ad 909)), (1, .int pa), (2, .int pb), (3, .int pc1), (4, .int pd), (5, .int pe)] := hl
  refine lv_aload_n hx hb dX11_feed_0 rfl (lv_at hl 0 rfl) ?_
  refine va_get (D := (dC, dI)) (ci := 14) (fs := oF_X11 ad pr v) (v := .int (v.1 0 391)) (C := RX11) (T := TX11) (N := 12) hx hb ht itX11 hown hK hP 0 rfl rfl 1 (by decide) (ht _ tw_913) (fun _ h9 => h9) rfl dX11_feed_1 ?_
  refine lv_bipush (v := 20) hx hb dX11_feed_4 (by decide) ?_
  refine lv_iadd hx hb dX11_feed_6 ?_
  have z1 : ((v.1 0 391) + (20 : Int32)).toInt = ((v.1 0 391).toInt) + (20 : Int) := add_z rfl (show (20 : Int32).toInt = (20 : Int) by decide) (om_e96b7fa142 z391) (om_2ae7fdf0c1 z391)
  refine lv_sipush (v := 4000) hx hb dX11_feed_7 (by decide) ?_
  refine lv_icmp_le (tgt := 15) hx hb dX11_feed_10 (by decide) (fun h2 => ?_) (fun h2 => ?_)
  · have z3 : (((v.1 0 391).toInt) + (20 : Int)) ≤ (4000 : Int) := le_z z1 (show (4000 : Int32).toInt = (4000 : Int) by decide) h2
    refine lv_aload_n hx hb dX11_feed_15 rfl (lv_at hl 0 rfl) ?_
    refine lv_iload_n hx hb dX11_feed_16 rfl (lv_at hl 1 rfl) ?_
    refine cu_v (rn_Vk (n := 1) (As := [.int pa]) (rest := []) hx hb hml hown ht hKK hFx hP hD hS hA (c_x_X11_tapeNumber l dC dI cI cB cZ cJ cR tb s.heap.size ad pr N L1 L2 Z v pa (show 0 ≤ (v.1 0 391).toInt ∧ (v.1 0 391).toInt ≤ 4000 from (om_019ab3abd1 z391 z3))) tw_915 tw_916 (by decide +kernel) rfl rfl ⟨Nat.le_of_ble_eq_true rfl, Nat.le_of_ble_eq_true rfl⟩ (List.range (pW ad pr N cI cR L1 L2 Z v).length) (rg_map _) (nd_range _) 0 rfl rfl rfl rfl hl.1 rfl (Nat.le_of_ble_eq_true rfl) dX11_feed_17 ⟨Nat.le_of_ble_eq_true rfl, Nat.le_of_ble_eq_true rfl⟩) hP hD hS hA (fun u5 H locs hw4 hP hD hS => ?_)
    obtain ⟨fr4, ex4, i3914, pr4, rs4⟩ := hw4
    refine W.widen (k := 0) (n := 0) (Nat.le_refl _) (Nat.le_refl _) ?_
    refine lv_aload_n hx hb dX11_feed_20 rfl (lv_at hl 0 rfl) ?_
    refine lv_iload_n hx hb dX11_feed_21 rfl (lv_at hl 2 rfl) ?_
    refine cu_v (rn_Vk (n := 1) (As := [.int pb]) (rest := []) hx hb hml hown ht hKK hFx hP hD hS hA (c_x_X11_tapeNumber l dC dI cI cB cZ cJ cR tb H.size ad pr N L1 L2 Z u5 pb (show 0 ≤ (u5.1 0 391).toInt ∧ (u5.1 0 391).toInt ≤ 4000 from (om_c74a68af25 i3914))) tw_915 tw_916 (by decide +kernel) rfl rfl ⟨Nat.le_of_ble_eq_true rfl, Nat.le_of_ble_eq_true rfl⟩ (List.range (pW ad pr N cI cR L1 L2 Z u5).length) (rg_map _) (nd_range _) 0 rfl rfl rfl rfl hl.1 rfl (Nat.le_of_ble_eq_true rfl) dX11_feed_22 ⟨Nat.le_of_ble_eq_true rfl, Nat.le_of_ble_eq_true rfl⟩) hP hD hS hA (fun u8 H locs hw7 hP hD hS => ?_)
    obtain ⟨fr7, ex7, i3917, pr7, rs7⟩ := hw7
    have i3917 : 0 ≤ (u8.1 0 391).toInt ∧ (u8.1 0 391).toInt ≤ 4000 := i3917
    have pr7 : 4000 < (u5.1 0 391).toInt + 4 ∨ (u8.1 0 391).toInt = (u5.1 0 391).toInt + 4 := pr7
    have rs7 : RS0 u5 u8 := rs7
    refine W.widen (k := 0) (n := 0) (Nat.le_refl _) (Nat.le_refl _) ?_
    refine lv_aload_n hx hb dX11_feed_25 rfl (lv_at hl 0 rfl) ?_
    refine lv_iload_n hx hb dX11_feed_26 rfl (lv_at hl 3 rfl) ?_
    refine cu_v (rn_Vk (n := 1) (As := [.int pc1]) (rest := []) hx hb hml hown ht hKK hFx hP hD hS hA (c_x_X11_tapeNumber l dC dI cI cB cZ cJ cR tb H.size ad pr N L1 L2 Z u8 pc1 (show 0 ≤ (u8.1 0 391).toInt ∧ (u8.1 0 391).toInt ≤ 4000 from (om_c74a68af25 i3917))) tw_915 tw_916 (by decide +kernel) rfl rfl ⟨Nat.le_of_ble_eq_true rfl, Nat.le_of_ble_eq_true rfl⟩ (List.range (pW ad pr N cI cR L1 L2 Z u8).length) (rg_map _) (nd_range _) 0 rfl rfl rfl rfl hl.1 rfl (Nat.le_of_ble_eq_true rfl) dX11_feed_27 ⟨Nat.le_of_ble_eq_true rfl, Nat.le_of_ble_eq_true rfl⟩) hP hD hS hA (fun u11 H locs hw10 hP hD hS => ?_)
    obtain ⟨fr10, ex10, i39110, pr10, rs10⟩ := hw10
    have i39110 : 0 ≤ (u11.1 0 391).toInt ∧ (u11.1 0 391).toInt ≤ 4000 := i39110
    have pr10 : 4000 < (u8.1 0 391).toInt + 4 ∨ (u11.1 0 391).toInt = (u8.1 0 391).toInt + 4 := pr10
    have rs10 : RS0 u8 u11 := rs10
    refine W.widen (k := 0) (n := 0) (Nat.le_refl _) (Nat.le_refl _) ?_
    refine lv_aload_n hx hb dX11_feed_30 rfl (lv_at hl 0 rfl) ?_
    refine lv_iload hx hb dX11_feed_31 (lv_at hl 4 rfl) ?_
    refine cu_v (rn_Vk (n := 1) (As := [.int pd]) (rest := []) hx hb hml hown ht hKK hFx hP hD hS hA (c_x_X11_tapeNumber l dC dI cI cB cZ cJ cR tb H.size ad pr N L1 L2 Z u11 pd (show 0 ≤ (u11.1 0 391).toInt ∧ (u11.1 0 391).toInt ≤ 4000 from (om_c74a68af25 i39110))) tw_915 tw_916 (by decide +kernel) rfl rfl ⟨Nat.le_of_ble_eq_true rfl, Nat.le_of_ble_eq_true rfl⟩ (List.range (pW ad pr N cI cR L1 L2 Z u11).length) (rg_map _) (nd_range _) 0 rfl rfl rfl rfl hl.1 rfl (Nat.le_of_ble_eq_true rfl) dX11_feed_33 ⟨Nat.le_of_ble_eq_true rfl, Nat.le_of_ble_eq_true rfl⟩) hP hD hS hA (fun u14 H locs hw13 hP hD hS => ?_)
    obtain ⟨fr13, ex13, i39113, pr13, rs13⟩ := hw13
    have i39113 : 0 ≤ (u14.1 0 391).toInt ∧ (u14.1 0 391).toInt ≤ 4000 := i39113
    have pr13 : 4000 < (u11.1 0 391).toInt + 4 ∨ (u14.1 0 391).toInt = (u11.1 0 391).toInt + 4 := pr13
    have rs13 : RS0 u11 u14 := rs13
    refine W.widen (k := 0) (n := 0) (Nat.le_refl _) (Nat.le_refl _) ?_
    refine lv_aload_n hx hb dX11_feed_36 rfl (lv_at hl 0 rfl) ?_
    refine lv_iload hx hb dX11_feed_37 (lv_at hl 5 rfl) ?_
    refine cu_v (rn_Vk (n := 1) (As := [.int pe]) (rest := []) hx hb hml hown ht hKK hFx hP hD hS hA (c_x_X11_tapeNumber l dC dI cI cB cZ cJ cR tb H.size ad pr N L1 L2 Z u14 pe (show 0 ≤ (u14.1 0 391).toInt ∧ (u14.1 0 391).toInt ≤ 4000 from (om_c74a68af25 i39113))) tw_915 tw_916 (by decide +kernel) rfl rfl ⟨Nat.le_of_ble_eq_true rfl, Nat.le_of_ble_eq_true rfl⟩ (List.range (pW ad pr N cI cR L1 L2 Z u14).length) (rg_map _) (nd_range _) 0 rfl rfl rfl rfl hl.1 rfl (Nat.le_of_ble_eq_true rfl) dX11_feed_39 ⟨Nat.le_of_ble_eq_true rfl, Nat.le_of_ble_eq_true rfl⟩) hP hD hS hA (fun u17 H locs hw16 hP hD hS => ?_)
    obtain ⟨fr16, ex16, i39116, pr16, rs16⟩ := hw16
    have i39116 : 0 ≤ (u17.1 0 391).toInt ∧ (u17.1 0 391).toInt ≤ 4000 := i39116
    have pr16 : 4000 < (u14.1 0 391).toInt + 4 ∨ (u17.1 0 391).toInt = (u14.1 0 391).toInt + 4 := pr16
    have rs16 : RS0 u14 u17 := rs16
    refine W.widen (k := 0) (n := 0) (Nat.le_refl _) (Nat.le_refl _) ?_
    refine lv_iconst (v := 1) hx hb dX11_feed_42 (by decide) ?_
    exact W.zret (v := 1) hx hb hr rfl (fun t ht9 hW => ⟨⟨1, u17, rfl, ⟨(FC.tr (FC.tr (FC.tr (FC.tr (FC.tr (FC.rf _) (FC.up fr4 (by decide) (by decide))) (FC.up fr7 (by decide) (by decide))) (FC.up fr10 (by decide) (by decide))) (FC.up fr13 (by decide) (by decide))) (FC.up fr16 (by decide) (by decide))), ⟨z391, (Or.inl ⟨z3, u5, ex4, ⟨fr4, i3914, pr4, rs4⟩, u8, ex7, ⟨fr7, i3917, pr7, rs7⟩, u11, ex10, ⟨fr10, i39110, pr10, rs10⟩, u14, ex13, ⟨fr13, i39113, pr13, rs13⟩, u17, ex16, ⟨fr16, i39116, pr16, rs16⟩, rfl, rfl⟩)⟩, (show 0 ≤ (u17.1 0 391).toInt ∧ (u17.1 0 391).toInt ≤ 4000 from (om_c74a68af25 i39116)), (show ((v.1 0 391).toInt + 20 ≤ 4000 ∧ (u17.1 0 391).toInt = (v.1 0 391).toInt + 20 ∧ (1 : Int) = 1) ∨ (4000 < (v.1 0 391).toInt + 20 ∧ (u17.1 0 391).toInt = (v.1 0 391).toInt ∧ (1 : Int) = 0) from (om_918d79ed57 z3 pr4 pr7 pr10 pr13 pr16)), (RS0.tr (RS0.tr (RS0.tr (RS0.tr (RS0.tr RS0.rf rs4) rs7) rs10) rs13) rs16), (Or.inr rfl)⟩, by rw [ht9]; exact hP, hD⟩, hS.F ht9⟩) hS.2.2 dX11_feed_43
  · have z19 : (4000 : Int) < (((v.1 0 391).toInt) + (20 : Int)) := nle_z z1 (show (4000 : Int32).toInt = (4000 : Int) by decide) h2
    refine lv_iconst (v := 0) hx hb dX11_feed_13 (by decide) ?_
    exact W.zret (v := 0) hx hb hr rfl (fun t ht9 hW => ⟨⟨0, v, rfl, ⟨(FC.rf _), ⟨z391, (Or.inr (⟨z19, rfl, rfl⟩))⟩, (show 0 ≤ (v.1 0 391).toInt ∧ (v.1 0 391).toInt ≤ 4000 from (om_e63d36739a z391 z19)), (show ((v.1 0 391).toInt + 20 ≤ 4000 ∧ (v.1 0 391).toInt = (v.1 0 391).toInt + 20 ∧ (0 : Int) = 1) ∨ (4000 < (v.1 0 391).toInt + 20 ∧ (v.1 0 391).toInt = (v.1 0 391).toInt ∧ (0 : Int) = 0) from (om_f91223d0ad z19)), RS0.rf, (Or.inl rfl)⟩, by rw [ht9]; exact hP, hD⟩, hS.F ht9⟩) hS.2.2 dX11_feed_14
set_option maxHeartbeats 4000000 in
set_option maxRecDepth 100000 in
theorem c_x_X11_end (l : Launch) (dC : Nat → ClassId) (dI : Nat → Nat → Nat) (cI cB cZ cJ cR : ClassId) (tb : Nat → Nat) (sz : Nat) (ad : Nat → Nat) (pr : Int32 → Nat) (N : Nat) (L1 L2 : List Nat) (Z : va_W) (v : MS) (pa : Int32) (z391 : 0 ≤ (v.1 0 391).toInt ∧ (v.1 0 391).toInt ≤ 4000) : Met l yX11_end (Cond.code yX11_end cX11_end 2 (some .boolean) :: tw_W) ({ frames := 0, cells := 0, slots := 0, locals := 0 }) (pc_ (dC, dI) (tyS cI cB cZ cJ cR) tb (pW ad pr N cI cR L1 L2 Z v) sz [.ref (ad 909), .int pa]) (qi_ (dC, dI) (pW ad pr N cI cR L1 L2 Z v) sz (fun (r : Int32) (u : MS) => FC [391] [0] v u ∧ (Q_x_X11_end L1 L2 v pa r u) ∧ (0 ≤ (u.1 0 391).toInt ∧ (u.1 0 391).toInt ≤ 4000) ∧ (((0 ≤ pa.toInt ∧ pa.toInt ≤ (v.1 0 391).toInt) ∧ (u.1 0 391).toInt = pa.toInt ∧ r.toInt = 1) ∨ ((pa.toInt < 0 ∨ (v.1 0 391).toInt < pa.toInt) ∧ (u.1 0 391).toInt = (v.1 0 391).toInt ∧ r.toInt = 0)) ∧ (RS0 v u) ∧ (r = 0 ∨ r = 1)) (fun (u : MS) => (pW ad pr N cI cR L1 L2 Z u))) 0 0 (va_A (pW ad pr N cI cR L1 L2 Z v) sz) := by
  refine Met.ofW (cc := cX11_end) (maxL := 2) (ret := (some .boolean)) (by decide) rfl ?_
  intro p e s m args below meth c s₁ B hml hv
  obtain ⟨rfl, hsz, hP, hKK, hD0, hFx⟩ := hv
  have hK := hKK.1
  have hx := B.exec
  have hb := B.bytes
  have hr := B.returns
  have ht : ∀ w ∈ tw_W, w.before _ s = true := fun w h => atoms_spec (ws := Cond.code yX11_end cX11_end 2 (some .boolean) :: tw_W) B.pre w (List.mem_cons_of_mem _ h)
  have hown : s.vm.findClass RX11 = some m.cls := findClass_of_methodNamed B.named
  have hlocks := B.notSynchronized
  subst hsz
  unfold qi_
  have hD := hD0.self (sz := s.heap.size)
  generalize hAe : va_A (pW ad pr N cI cR L1 L2 Z v) s.heap.size = A at hD hFx ⊢
  have hA : ∀ q : Nat, s.heap.size ≤ q → A q := fun q h => by rw [← hAe]; exact Or.inr h
  have hS : va_S A s.heap s.heap [] := va_S.rf
  have hl := lv_entry ([.ref (ad 909), .int pa]) (n := 2) (Nat.le_of_ble_eq_true rfl)
  rw [lg_entry_eq]
  generalize (lg_sl ([.ref (ad 909), .int pa]) ++ List.replicate (2 - (lg_sl ([.ref (ad 909), .int pa])).length) Slot.unset).toArray = ls at hl ⊢
  have hl : lv_has ls 2 [(0, .ref (ad 909)), (1, .int pa)] := hl
  refine lv_iload_n hx hb dX11_end_0 rfl (lv_at hl 1 rfl) ?_
  refine lv_if_lt (tgt := 12) hx hb dX11_end_1 (by decide) (fun h1 => ?_) (fun h1 => ?_)
  · have z2 : pa.toInt < (0 : Int) := lt_z rfl (show (0 : Int32).toInt = (0 : Int) by decide) h1
    refine lv_iconst (v := 0) hx hb dX11_end_12 (by decide) ?_
    exact W.zret (v := 0) hx hb hr rfl (fun t ht9 hW => ⟨⟨0, v, rfl, ⟨(FC.rf _), ⟨z391, (Or.inl ⟨z2, rfl, rfl⟩)⟩, (show 0 ≤ (v.1 0 391).toInt ∧ (v.1 0 391).toInt ≤ 4000 from (om_c74a68af25 z391)), (show ((0 ≤ pa.toInt ∧ pa.toInt ≤ (v.1 0 391).toInt) ∧ (v.1 0 391).toInt = pa.toInt ∧ (0 : Int) = 1) ∨ ((pa.toInt < 0 ∨ (v.1 0 391).toInt < pa.toInt) ∧ (v.1 0 391).toInt = (v.1 0 391).toInt ∧ (0 : Int) = 0) from (om_9aa8bfd1ce z2)), RS0.rf, (Or.inl rfl)⟩, by rw [ht9]; exact hP, hD⟩, hS.F ht9⟩) hS.2.2 dX11_end_13
  · have z3 : (0 : Int) ≤ pa.toInt := nlt_z rfl (show (0 : Int32).toInt = (0 : Int) by decide) h1
    refine lv_iload_n hx hb dX11_end_4 rfl (lv_at hl 1 rfl) ?_
    refine lv_aload_n hx hb dX11_end_5 rfl (lv_at hl 0 rfl) ?_
    refine va_get (D := (dC, dI)) (ci := 14) (fs := oF_X11 ad pr v) (v := .int (v.1 0 391)) (C := RX11) (T := TX11) (N := 12) hx hb ht itX11 hown hK hP 0 rfl rfl 1 (by decide) (ht _ tw_913) (fun _ h9 => h9) rfl dX11_end_6 ?_
    refine lv_icmp_le (tgt := 14) hx hb dX11_end_9 (by decide) (fun h4 => ?_) (fun h4 => ?_)
    · have z5 : pa.toInt ≤ (v.1 0 391).toInt := le_z rfl rfl h4
      refine lv_aload_n hx hb dX11_end_14 rfl (lv_at hl 0 rfl) ?_
      refine lv_iload_n hx hb dX11_end_15 rfl (lv_at hl 1 rfl) ?_
      refine va_put (D := (dC, dI)) (ci := 14) (fs := oF_X11 ad pr v) (v := .int pa) (ty := .int) (C := RX11) (T := TX11) (N := 12) hx hb ht itX11 tyX11 tyX11_ok nmX11 hown hK hP hD hS 0 rfl rfl 1 (by decide) (ht _ tw_913) (fun _ h9 => h9) rfl (by decide +kernel) rfl rfl (Nat.le_of_ble_eq_true rfl) dX11_end_16 (fun H locs hP hD hS => ?_)
      have hP := cP_ (pw_391 ad pr N cI cR L1 L2 Z v pa) hP
      have hD := cD_ (pw_391 ad pr N cI cR L1 L2 Z v pa) hD
      refine lv_iconst (v := 1) hx hb dX11_end_19 (by decide) ?_
      exact W.zret (v := 1) hx hb hr rfl (fun t ht9 hW => ⟨⟨1, (wA v 0 391 pa), rfl, ⟨(FC.f (FC.rf _) pa (by decide)), ⟨z391, (Or.inr (⟨z3, (Or.inl ⟨z5, rfl, rfl⟩)⟩))⟩, (show 0 ≤ pa.toInt ∧ pa.toInt ≤ 4000 from (om_33bba70809 z391 z3 z5)), (show ((0 ≤ pa.toInt ∧ pa.toInt ≤ (v.1 0 391).toInt) ∧ pa.toInt = pa.toInt ∧ (1 : Int) = 1) ∨ ((pa.toInt < 0 ∨ (v.1 0 391).toInt < pa.toInt) ∧ pa.toInt = (v.1 0 391).toInt ∧ (1 : Int) = 0) from (om_4a4ab3e051 z3 z5)), (RS0.w RS0.rf (by decide)), (Or.inr rfl)⟩, by rw [ht9]; exact hP, hD⟩, hS.F ht9⟩) hS.2.2 dX11_end_20
    · have z6 : (v.1 0 391).toInt < pa.toInt := nle_z rfl rfl h4
      refine lv_iconst (v := 0) hx hb dX11_end_12 (by decide) ?_
      exact W.zret (v := 0) hx hb hr rfl (fun t ht9 hW => ⟨⟨0, v, rfl, ⟨(FC.rf _), ⟨z391, (Or.inr (⟨z3, (Or.inr (⟨z6, rfl, rfl⟩))⟩))⟩, (show 0 ≤ (v.1 0 391).toInt ∧ (v.1 0 391).toInt ≤ 4000 from (om_c74a68af25 z391)), (show ((0 ≤ pa.toInt ∧ pa.toInt ≤ (v.1 0 391).toInt) ∧ (v.1 0 391).toInt = pa.toInt ∧ (0 : Int) = 1) ∨ ((pa.toInt < 0 ∨ (v.1 0 391).toInt < pa.toInt) ∧ (v.1 0 391).toInt = (v.1 0 391).toInt ∧ (0 : Int) = 0) from (om_ed04f77e74 z6)), RS0.rf, (Or.inl rfl)⟩, by rw [ht9]; exact hP, hD⟩, hS.F ht9⟩) hS.2.2 dX11_end_13
theorem om_8ad3fb1d59 {x0 x1 x2 : Int} (h0 : 0 ≤ x0 ∧ x0 ≤ 64) (h1 : (x0 < 64 ∧ x1 = x0 + 1 ∧ x2 = x0 + 1) ∨ (x0 = 64 ∧ x1 = x0 ∧ x2 = -1)) : (x0 < 64 ∧ x1 = x0 + 1 ∧ x2 = x0 + 1) ∨ (x0 = 64 ∧ x1 = x0 ∧ x2 = -1) := by omega
set_option maxHeartbeats 4000000 in
set_option maxRecDepth 100000 in
theorem c_x_X11_give (l : Launch) (dC : Nat → ClassId) (dI : Nat → Nat → Nat) (cI cB cZ cJ cR : ClassId) (tb : Nat → Nat) (sz : Nat) (ad : Nat → Nat) (pr : Int32 → Nat) (N : Nat) (L1 L2 : List Nat) (Z : va_W) (v : MS) (pa : Int32) (z344 : 0 ≤ (v.1 0 344).toInt ∧ (v.1 0 344).toInt ≤ 64) : Met l yX11_give (Cond.code yX11_give cX11_give 2 (some .int) :: tw_W) ({ frames := 1, cells := 0, slots := 0, locals := 21 }) (pc_ (dC, dI) (tyS cI cB cZ cJ cR) tb (pW ad pr N cI cR L1 L2 Z v) sz [.ref (ad 909), .int pa]) (qi_ (dC, dI) (pW ad pr N cI cR L1 L2 Z v) sz (fun (r : Int32) (u : MS) => FC [344] [0, 343] v u ∧ (Q_x_X11_give L1 L2 v pa r u) ∧ (0 ≤ (u.1 0 344).toInt ∧ (u.1 0 344).toInt ≤ 64) ∧ (((v.1 0 344).toInt < 64 ∧ (u.1 0 344).toInt = (v.1 0 344).toInt + 1 ∧ r.toInt = (v.1 0 344).toInt + 1) ∨ ((v.1 0 344).toInt = 64 ∧ (u.1 0 344).toInt = (v.1 0 344).toInt ∧ r.toInt = -1)) ∧ (RS0 v u)) (fun (u : MS) => (pW ad pr N cI cR L1 L2 Z u))) 0 0 (va_A (pW ad pr N cI cR L1 L2 Z v) sz) := by
  refine Met.ofW (cc := cX11_give) (maxL := 2) (ret := (some .int)) (by decide) rfl ?_
  intro p e s m args below meth c s₁ B hml hv
  obtain ⟨rfl, hsz, hP, hKK, hD0, hFx⟩ := hv
  have hK := hKK.1
  have hx := B.exec
  have hb := B.bytes
  have hr := B.returns
  have ht : ∀ w ∈ tw_W, w.before _ s = true := fun w h => atoms_spec (ws := Cond.code yX11_give cX11_give 2 (some .int) :: tw_W) B.pre w (List.mem_cons_of_mem _ h)
  have hown : s.vm.findClass RX11 = some m.cls := findClass_of_methodNamed B.named
  have hlocks := B.notSynchronized
  subst hsz
  unfold qi_
  have hD := hD0.self (sz := s.heap.size)
  generalize hAe : va_A (pW ad pr N cI cR L1 L2 Z v) s.heap.size = A at hD hFx ⊢
  have hA : ∀ q : Nat, s.heap.size ≤ q → A q := fun q h => by rw [← hAe]; exact Or.inr h
  have hS : va_S A s.heap s.heap [] := va_S.rf
  have hl := lv_entry ([.ref (ad 909), .int pa]) (n := 2) (Nat.le_of_ble_eq_true rfl)
  rw [lg_entry_eq]
  generalize (lg_sl ([.ref (ad 909), .int pa]) ++ List.replicate (2 - (lg_sl ([.ref (ad 909), .int pa])).length) Slot.unset).toArray = ls at hl ⊢
  have hl : lv_has ls 2 [(0, .ref (ad 909)), (1, .int pa)] := hl
  refine lv_aload_n hx hb dX11_give_0 rfl (lv_at hl 0 rfl) ?_
  refine va_get (D := (dC, dI)) (ci := 14) (fs := oF_X11 ad pr v) (v := .ref (ad 905)) (C := RX11) (T := TX11) (N := 12) hx hb ht itX11 hown hK hP 0 rfl rfl 8 (by decide) (ht _ tw_917) (fun _ h9 => h9) rfl dX11_give_1 ?_
  refine lv_iload_n hx hb dX11_give_4 rfl (lv_at hl 1 rfl) ?_
  refine cA_i (rn_Vk (n := 1) (As := [.int pa]) (rest := []) hx hb hml hown ht hKK hFx hP hD hS hA (c_x_X3_add l dC dI cI cB cZ cJ cR tb s.heap.size ad pr N L1 L2 v pa (show 0 ≤ (v.1 0 344).toInt ∧ (v.1 0 344).toInt ≤ 64 from (om_0522002ca7 z344))) tw_918 tw_919 (by decide +kernel) rfl rfl ⟨Nat.le_of_ble_eq_true rfl, Nat.le_of_ble_eq_true rfl⟩ (ixC (cW ad pr N cI cR L1 L2 v).length) (ixC_map _ _ _) (ixC_nd _) 5 rfl rfl rfl rfl hl.1 rfl (Nat.le_of_ble_eq_true rfl) dX11_give_5 ⟨Nat.le_of_ble_eq_true rfl, Nat.le_of_ble_eq_true rfl⟩) hP hD hS hA (fun r3 u2 H locs hw1 hP hD hS => ?_)
  obtain ⟨fr1, ex1, i3441, pr1, rs1⟩ := hw1
  refine W.widen (k := 0) (n := 0) (Nat.le_refl _) (Nat.le_refl _) ?_
  have hP := cP_ (pW_up fr1 (by decide)) hP
  have hD := cD_ (pW_up fr1 (by decide)) hD
  exact W.iret (v := r3) hx hb hr (fun t ht9 hW => ⟨⟨r3, u2, rfl, ⟨(FC.tr (FC.rf _) (FC.up fr1 (by decide) (by decide))), ⟨z344, r3, u2, ex1, ⟨fr1, i3441, pr1, rs1⟩, rfl, rfl⟩, (show 0 ≤ (u2.1 0 344).toInt ∧ (u2.1 0 344).toInt ≤ 64 from (om_0522002ca7 i3441)), (show ((v.1 0 344).toInt < 64 ∧ (u2.1 0 344).toInt = (v.1 0 344).toInt + 1 ∧ r3.toInt = (v.1 0 344).toInt + 1) ∨ ((v.1 0 344).toInt = 64 ∧ (u2.1 0 344).toInt = (v.1 0 344).toInt ∧ r3.toInt = -1) from (om_8ad3fb1d59 z344 pr1)), (RS0.tr RS0.rf rs1)⟩, by rw [ht9]; exact hP, hD⟩, hS.F ht9⟩) hS.2.2 dX11_give_8
theorem om_ae4126c012 {x0 x1 x2 : Int} (h0 : 0 ≤ x0 ∧ x0 ≤ 64) (h1 : x0 = 0 ∧ x1 = x2) : 0 ≤ x0 ∧ x0 ≤ 64 := by omega
theorem om_98d30b16fc {x0 x1 x2 : Int} (h0 : 0 ≤ x0 ∧ x0 ≤ 64) (h1 : x0 = 0 ∧ x1 = x2) : x0 = 0 ∧ x1 = x2 := by omega
set_option maxHeartbeats 4000000 in
set_option maxRecDepth 100000 in
theorem c_x_X11_forget (l : Launch) (dC : Nat → ClassId) (dI : Nat → Nat → Nat) (cI cB cZ cJ cR : ClassId) (tb : Nat → Nat) (sz : Nat) (ad : Nat → Nat) (pr : Int32 → Nat) (N : Nat) (L1 L2 : List Nat) (Z : va_W) (v : MS)  (z344 : 0 ≤ (v.1 0 344).toInt ∧ (v.1 0 344).toInt ≤ 64) : Met l yX11_forget (Cond.code yX11_forget cX11_forget 1 (some .int) :: tw_W) ({ frames := 1, cells := 0, slots := 0, locals := 21 }) (pc_ (dC, dI) (tyS cI cB cZ cJ cR) tb (pW ad pr N cI cR L1 L2 Z v) sz [.ref (ad 909)]) (qi_ (dC, dI) (pW ad pr N cI cR L1 L2 Z v) sz (fun (r : Int32) (u : MS) => FC [344, 345] [0] v u ∧ (0 ≤ (u.1 0 344).toInt ∧ (u.1 0 344).toInt ≤ 64) ∧ ((u.1 0 344).toInt = 0 ∧ r.toInt = (v.1 0 344).toInt) ∧ (RS0 v u)) (fun (u : MS) => (pW ad pr N cI cR L1 L2 Z u))) 0 0 (va_A (pW ad pr N cI cR L1 L2 Z v) sz) := by
  refine Met.ofW (cc := cX11_forget) (maxL := 1) (ret := (some .int)) (by decide) rfl ?_
  intro p e s m args below meth c s₁ B hml hv
  obtain ⟨rfl, hsz, hP, hKK, hD0, hFx⟩ := hv
  have hK := hKK.1
  have hx := B.exec
  have hb := B.bytes
  have hr := B.returns
  have ht : ∀ w ∈ tw_W, w.before _ s = true := fun w h => atoms_spec (ws := Cond.code yX11_forget cX11_forget 1 (some .int) :: tw_W) B.pre w (List.mem_cons_of_mem _ h)
  have hown : s.vm.findClass RX11 = some m.cls := findClass_of_methodNamed B.named
  have hlocks := B.notSynchronized
  subst hsz
  unfold qi_
  have hD := hD0.self (sz := s.heap.size)
  generalize hAe : va_A (pW ad pr N cI cR L1 L2 Z v) s.heap.size = A at hD hFx ⊢
  have hA : ∀ q : Nat, s.heap.size ≤ q → A q := fun q h => by rw [← hAe]; exact Or.inr h
  have hS : va_S A s.heap s.heap [] := va_S.rf
  have hl := lv_entry ([.ref (ad 909)]) (n := 1) (Nat.le_of_ble_eq_true rfl)
  rw [lg_entry_eq]
  generalize (lg_sl ([.ref (ad 909)]) ++ List.replicate (1 - (lg_sl ([.ref (ad 909)])).length) Slot.unset).toArray = ls at hl ⊢
  have hl : lv_has ls 1 [(0, .ref (ad 909))] := hl
  refine lv_aload_n hx hb dX11_forget_0 rfl (lv_at hl 0 rfl) ?_
  refine va_get (D := (dC, dI)) (ci := 14) (fs := oF_X11 ad pr v) (v := .ref (ad 905)) (C := RX11) (T := TX11) (N := 12) hx hb ht itX11 hown hK hP 0 rfl rfl 8 (by decide) (ht _ tw_917) (fun _ h9 => h9) rfl dX11_forget_1 ?_
  refine cA_i (rn_Vk (n := 0) (As := []) (rest := []) hx hb hml hown ht hKK hFx hP hD hS hA (c_x_X3_clear l dC dI cI cB cZ cJ cR tb s.heap.size ad pr N L1 L2 v  (show 0 ≤ (v.1 0 344).toInt ∧ (v.1 0 344).toInt ≤ 64 from (om_0522002ca7 z344))) tw_920 tw_921 (by decide +kernel) rfl rfl ⟨Nat.le_of_ble_eq_true rfl, Nat.le_of_ble_eq_true rfl⟩ (ixC (cW ad pr N cI cR L1 L2 v).length) (ixC_map _ _ _) (ixC_nd _) 5 rfl rfl rfl rfl hl.1 rfl (Nat.le_of_ble_eq_true rfl) dX11_forget_4 ⟨Nat.le_of_ble_eq_true rfl, Nat.le_of_ble_eq_true rfl⟩) hP hD hS hA (fun r3 u2 H locs hw1 hP hD hS => ?_)
  obtain ⟨fr1, i3441, pr1, rs1⟩ := hw1
  refine W.widen (k := 0) (n := 0) (Nat.le_refl _) (Nat.le_refl _) ?_
  have hP := cP_ (pW_up fr1 (by decide)) hP
  have hD := cD_ (pW_up fr1 (by decide)) hD
  exact W.iret (v := r3) hx hb hr (fun t ht9 hW => ⟨⟨r3, u2, rfl, ⟨(FC.tr (FC.rf _) (FC.up fr1 (by decide) (by decide))), (show 0 ≤ (u2.1 0 344).toInt ∧ (u2.1 0 344).toInt ≤ 64 from (om_ae4126c012 i3441 pr1)), (show (u2.1 0 344).toInt = 0 ∧ r3.toInt = (v.1 0 344).toInt from (om_98d30b16fc i3441 pr1)), (RS0.tr RS0.rf rs1)⟩, by rw [ht9]; exact hP, hD⟩, hS.F ht9⟩) hS.2.2 dX11_forget_7
set_option maxHeartbeats 4000000 in
set_option maxRecDepth 100000 in
theorem c_x_X11_fault (l : Launch) (dC : Nat → ClassId) (dI : Nat → Nat → Nat) (cI cB cZ cJ cR : ClassId) (tb : Nat → Nat) (sz : Nat) (ad : Nat → Nat) (pr : Int32 → Nat) (N : Nat) (L1 L2 : List Nat) (Z : va_W) (v : MS) (pa : Int32)  : Met l yX11_fault (Cond.code yX11_fault cX11_fault 2 (some .int) :: tw_W) ({ frames := 0, cells := 0, slots := 0, locals := 0 }) (pc_ (dC, dI) (tyS cI cB cZ cJ cR) tb (pW ad pr N cI cR L1 L2 Z v) sz [.ref (ad 909), .int pa]) (qi_ (dC, dI) (pW ad pr N cI cR L1 L2 Z v) sz (fun (r : Int32) (u : MS) => v = u ∧ (Q_x_X11_fault L1 L2 v pa r)) (fun (u : MS) => (pW ad pr N cI cR L1 L2 Z u))) 0 0 (va_A (pW ad pr N cI cR L1 L2 Z v) sz) := by
  refine Met.ofW (cc := cX11_fault) (maxL := 2) (ret := (some .int)) (by decide) rfl ?_
  intro p e s m args below meth c s₁ B hml hv
  obtain ⟨rfl, hsz, hP, hKK, hD0, hFx⟩ := hv
  have hK := hKK.1
  have hx := B.exec
  have hb := B.bytes
  have hr := B.returns
  have ht : ∀ w ∈ tw_W, w.before _ s = true := fun w h => atoms_spec (ws := Cond.code yX11_fault cX11_fault 2 (some .int) :: tw_W) B.pre w (List.mem_cons_of_mem _ h)
  have hown : s.vm.findClass RX11 = some m.cls := findClass_of_methodNamed B.named
  have hlocks := B.notSynchronized
  subst hsz
  unfold qi_
  have hD := hD0.self (sz := s.heap.size)
  generalize hAe : va_A (pW ad pr N cI cR L1 L2 Z v) s.heap.size = A at hD hFx ⊢
  have hA : ∀ q : Nat, s.heap.size ≤ q → A q := fun q h => by rw [← hAe]; exact Or.inr h
  have hS : va_S A s.heap s.heap [] := va_S.rf
  have hl := lv_entry ([.ref (ad 909), .int pa]) (n := 2) (Nat.le_of_ble_eq_true rfl)
  rw [lg_entry_eq]
  generalize (lg_sl ([.ref (ad 909), .int pa]) ++ List.replicate (2 - (lg_sl ([.ref (ad 909), .int pa])).length) Slot.unset).toArray = ls at hl ⊢
  have hl : lv_has ls 2 [(0, .ref (ad 909)), (1, .int pa)] := hl
  refine lv_iload_n hx hb dX11_fault_0 rfl (lv_at hl 1 rfl) ?_
  by_cases h1 : pa = 0
  · refine lv_lookup (off := 27) (tgt := 28) hx hb dX11_fault_1 (by decide) (by rw [h1]; decide) (by decide) ?_
    refine lv_aload_n hx hb dX11_fault_28 rfl (lv_at hl 0 rfl) ?_
    refine va_get (D := (dC, dI)) (ci := 14) (fs := oF_X11 ad pr v) (v := .int (v.1 0 396)) (C := RX11) (T := TX11) (N := 12) hx hb ht itX11 hown hK hP 0 rfl rfl 6 (by decide) (ht _ tw_922) (fun _ h9 => h9) rfl dX11_fault_29 ?_
    exact W.iret (v := (v.1 0 396)) hx hb hr (fun t ht9 hW => ⟨⟨(v.1 0 396), v, rfl, ⟨rfl, (Or.inl ⟨h1, rfl⟩)⟩, by rw [ht9]; exact hP, hD⟩, hS.F ht9⟩) hS.2.2 dX11_fault_32
  ·
    by_cases h2 : pa = 1
    · refine lv_lookup (off := 32) (tgt := 33) hx hb dX11_fault_1 (by decide) (by rw [h2]; decide) (by decide) ?_
      refine lv_aload_n hx hb dX11_fault_33 rfl (lv_at hl 0 rfl) ?_
      refine va_get (D := (dC, dI)) (ci := 14) (fs := oF_X11 ad pr v) (v := .int (v.1 0 397)) (C := RX11) (T := TX11) (N := 12) hx hb ht itX11 hown hK hP 0 rfl rfl 7 (by decide) (ht _ tw_923) (fun _ h9 => h9) rfl dX11_fault_34 ?_
      exact W.iret (v := (v.1 0 397)) hx hb hr (fun t ht9 hW => ⟨⟨(v.1 0 397), v, rfl, ⟨rfl, (Or.inr (⟨h1, (Or.inl ⟨h2, rfl⟩)⟩))⟩, by rw [ht9]; exact hP, hD⟩, hS.F ht9⟩) hS.2.2 dX11_fault_37
    ·
      refine lv_lookup (off := 37) (tgt := 38) hx hb dX11_fault_1 (by decide) (by show Op.lookupswitch.offset [(0, 27), (1, 32)] 37 _ = 37; rw [lv_osw h1 (by decide), lv_osw h2 (by decide)]; rfl) (by decide) ?_
      refine lv_iconst (v := -1) hx hb dX11_fault_38 (by decide) ?_
      exact W.iret (v := (-1)) hx hb hr (fun t ht9 hW => ⟨⟨(-1), v, rfl, ⟨rfl, (Or.inr (⟨h1, (Or.inr (⟨h2, rfl⟩))⟩))⟩, by rw [ht9]; exact hP, hD⟩, hS.F ht9⟩) hS.2.2 dX11_fault_39
set_option maxHeartbeats 4000000 in
set_option maxRecDepth 100000 in
theorem c_x_X11_function (l : Launch) (dC : Nat → ClassId) (dI : Nat → Nat → Nat) (cI cB cZ cJ cR : ClassId) (tb : Nat → Nat) (sz : Nat) (ad : Nat → Nat) (pr : Int32 → Nat) (N : Nat) (L1 L2 : List Nat) (Z : va_W) (v : MS) (pa : Int32) (pb : Int32) (ps : Int32) (hL1 : L1.length = 40) (hL2 : L2.length = 60) (rp : RP v) (hps : pr ps = ad 908) (es392 : (v.1 0 392) = ps) : Met l yX11_function (Cond.code yX11_function cX11_function 3 (some .int) :: tw_W) ({ frames := 1, cells := 0, slots := 0, locals := 22 }) (pc_ (dC, dI) (tyS cI cB cZ cJ cR) tb (pW ad pr N cI cR L1 L2 Z v) sz [.ref (ad 909), .int pa, .int pb]) (qi_ (dC, dI) (pW ad pr N cI cR L1 L2 Z v) sz (fun (r : Int32) (u : MS) => v = u ∧ (Q_x_X11_function L1 L2 v pa pb r)) (fun (u : MS) => (pW ad pr N cI cR L1 L2 Z u))) 0 0 (va_A (pW ad pr N cI cR L1 L2 Z v) sz) := by
  refine Met.ofW (cc := cX11_function) (maxL := 3) (ret := (some .int)) (by decide) rfl ?_
  intro p e s m args below meth c s₁ B hml hv
  obtain ⟨rfl, hsz, hP, hKK, hD0, hFx⟩ := hv
  have hK := hKK.1
  have hx := B.exec
  have hb := B.bytes
  have hr := B.returns
  have ht : ∀ w ∈ tw_W, w.before _ s = true := fun w h => atoms_spec (ws := Cond.code yX11_function cX11_function 3 (some .int) :: tw_W) B.pre w (List.mem_cons_of_mem _ h)
  have hown : s.vm.findClass RX11 = some m.cls := findClass_of_methodNamed B.named
  have hlocks := B.notSynchronized
  subst hsz
  unfold qi_
  have hD := hD0.self (sz := s.heap.size)
  generalize hAe : va_A (pW ad pr N cI cR L1 L2 Z v) s.heap.size = A at hD hFx ⊢
  have hA : ∀ q : Nat, s.heap.size ≤ q → A q := fun q h => by rw [← hAe]; exact Or.inr h
  have hS : va_S A s.heap s.heap [] := va_S.rf
  have hl := lv_entry ([.ref (ad 909), .int pa, .int pb]) (n := 3) (Nat.le_of_ble_eq_true rfl)
  rw [lg_entry_eq]
  generalize (lg_sl ([.ref (ad 909), .int pa, .int pb]) ++ List.replicate (3 - (lg_sl ([.ref (ad 909), .int pa, .int pb])).length) Slot.unset).toArray = ls at hl ⊢
  have hl : lv_has ls 3 [(0, .ref (ad 909)), (1, .int pa), (2, .int pb)] := hl
  refine lv_iload_n hx hb dX11_function_0 rfl (lv_at hl 2 rfl) ?_
  refine lv_if_lt (tgt := 21) hx hb dX11_function_1 (by decide) (fun h1 => ?_) (fun h1 => ?_)
  · have z2 : pb.toInt < (0 : Int) := lt_z rfl (show (0 : Int32).toInt = (0 : Int) by decide) h1
    refine lv_iconst (v := -1) hx hb dX11_function_21 (by decide) ?_
    exact W.iret (v := (-1)) hx hb hr (fun t ht9 hW => ⟨⟨(-1), v, rfl, ⟨rfl, (Or.inl ⟨z2, rfl⟩)⟩, by rw [ht9]; exact hP, hD⟩, hS.F ht9⟩) hS.2.2 dX11_function_22
  · have z3 : (0 : Int) ≤ pb.toInt := nlt_z rfl (show (0 : Int32).toInt = (0 : Int) by decide) h1
    refine lv_iload_n hx hb dX11_function_4 rfl (lv_at hl 2 rfl) ?_
    refine lv_iconst (v := 3) hx hb dX11_function_5 (by decide) ?_
    refine lv_icmp_gt (tgt := 21) hx hb dX11_function_6 (by decide) (fun h4 => ?_) (fun h4 => ?_)
    · have z5 : (3 : Int) < pb.toInt := lt_z (show (3 : Int32).toInt = (3 : Int) by decide) rfl h4
      refine lv_iconst (v := -1) hx hb dX11_function_21 (by decide) ?_
      exact W.iret (v := (-1)) hx hb hr (fun t ht9 hW => ⟨⟨(-1), v, rfl, ⟨rfl, (Or.inr (⟨z3, (Or.inl ⟨z5, rfl⟩)⟩))⟩, by rw [ht9]; exact hP, hD⟩, hS.F ht9⟩) hS.2.2 dX11_function_22
    · have z6 : pb.toInt ≤ (3 : Int) := nlt_z (show (3 : Int32).toInt = (3 : Int) by decide) rfl h4
      refine lv_aload_n hx hb dX11_function_9 rfl (lv_at hl 0 rfl) ?_
      refine va_get (D := (dC, dI)) (ci := 14) (fs := oF_X11 ad pr v) (v := .ref (pr (v.1 0 392))) (C := RX11) (T := TX11) (N := 12) hx hb ht itX11 hown hK hP 0 rfl rfl 2 (by decide) (ht _ tw_924) (fun _ h9 => h9) rfl dX11_function_10 ?_
      refine lv_iload_n hx hb dX11_function_13 rfl (lv_at hl 1 rfl) ?_
      refine lv_iload_n hx hb dX11_function_14 rfl (lv_at hl 2 rfl) ?_
      refine W.eq (g2 := F0 m 15 ls [.int pb, .int pa, .ref (ad 908)]) (by rw [show pr (v.1 0 392) = (ad 908) from (by rw [show (v.1 0 392) = ps from es392]; exact hps)]) ?_
      refine cA_i (rn_Vk (n := 2) (As := [.int pa, .int pb]) (rest := []) hx hb hml hown ht hKK hFx hP hD hS hA (c_x_X7_functionFact l dC dI cI cB cZ cJ cR tb s.heap.size ad pr N L1 L2 v pa pb (show L1.length = 40 from hL1) (show L2.length = 60 from hL2) (show RP v from rp)) tw_398 tw_925 (by decide +kernel) rfl rfl ⟨Nat.le_of_ble_eq_true rfl, Nat.le_of_ble_eq_true rfl⟩ (ixC (cW ad pr N cI cR L1 L2 v).length) (ixC_map _ _ _) (ixC_nd _) 8 rfl rfl rfl rfl hl.1 rfl (Nat.le_of_ble_eq_true rfl) dX11_function_15 ⟨Nat.le_of_ble_eq_true rfl, Nat.le_of_ble_eq_true rfl⟩) hP hD hS hA (fun r9 u8 H locs hw7 hP hD hS => ?_)
      obtain ⟨rfl, ex7, c7, d7⟩ := hw7
      refine W.widen (k := 0) (n := 0) (Nat.le_refl _) (Nat.le_refl _) ?_
      have hP : va_P (dC, dI) vwCl (pW ad pr N cI cR L1 L2 Z v) H := hP
      have hD : va_D A (pW ad pr N cI cR L1 L2 Z v) := hD
      refine lv_goto (tgt := 22) hx hb dX11_function_18 (by decide) ?_
      exact W.iret (v := r9) hx hb hr (fun t ht9 hW => ⟨⟨r9, v, rfl, ⟨rfl, (Or.inr (⟨z3, (Or.inr (⟨z6, r9, ex7, ⟨c7, d7⟩, rfl⟩))⟩))⟩, by rw [ht9]; exact hP, hD⟩, hS.F ht9⟩) hS.2.2 dX11_function_22
set_option maxHeartbeats 4000000 in
set_option maxRecDepth 100000 in
theorem c_x_X11_global (l : Launch) (dC : Nat → ClassId) (dI : Nat → Nat → Nat) (cI cB cZ cJ cR : ClassId) (tb : Nat → Nat) (sz : Nat) (ad : Nat → Nat) (pr : Int32 → Nat) (N : Nat) (L1 L2 : List Nat) (Z : va_W) (v : MS) (pa : Int32) (pb : Int32) (ps : Int32) (hL1 : L1.length = 40) (hL2 : L2.length = 60) (rp : RP v) (hps : pr ps = ad 908) (es392 : (v.1 0 392) = ps) : Met l yX11_global (Cond.code yX11_global cX11_global 3 (some .int) :: tw_W) ({ frames := 1, cells := 0, slots := 0, locals := 22 }) (pc_ (dC, dI) (tyS cI cB cZ cJ cR) tb (pW ad pr N cI cR L1 L2 Z v) sz [.ref (ad 909), .int pa, .int pb]) (qi_ (dC, dI) (pW ad pr N cI cR L1 L2 Z v) sz (fun (r : Int32) (u : MS) => v = u ∧ (Q_x_X11_global L1 L2 v pa pb r)) (fun (u : MS) => (pW ad pr N cI cR L1 L2 Z u))) 0 0 (va_A (pW ad pr N cI cR L1 L2 Z v) sz) := by
  refine Met.ofW (cc := cX11_global) (maxL := 3) (ret := (some .int)) (by decide) rfl ?_
  intro p e s m args below meth c s₁ B hml hv
  obtain ⟨rfl, hsz, hP, hKK, hD0, hFx⟩ := hv
  have hK := hKK.1
  have hx := B.exec
  have hb := B.bytes
  have hr := B.returns
  have ht : ∀ w ∈ tw_W, w.before _ s = true := fun w h => atoms_spec (ws := Cond.code yX11_global cX11_global 3 (some .int) :: tw_W) B.pre w (List.mem_cons_of_mem _ h)
  have hown : s.vm.findClass RX11 = some m.cls := findClass_of_methodNamed B.named
  have hlocks := B.notSynchronized
  subst hsz
  unfold qi_
  have hD := hD0.self (sz := s.heap.size)
  generalize hAe : va_A (pW ad pr N cI cR L1 L2 Z v) s.heap.size = A at hD hFx ⊢
  have hA : ∀ q : Nat, s.heap.size ≤ q → A q := fun q h => by rw [← hAe]; exact Or.inr h
  have hS : va_S A s.heap s.heap [] := va_S.rf
  have hl := lv_entry ([.ref (ad 909), .int pa, .int pb]) (n := 3) (Nat.le_of_ble_eq_true rfl)
  rw [lg_entry_eq]
  generalize (lg_sl ([.ref (ad 909), .int pa, .int pb]) ++ List.replicate (3 - (lg_sl ([.ref (ad 909), .int pa, .int pb])).length) Slot.unset).toArray = ls at hl ⊢
  have hl : lv_has ls 3 [(0, .ref (ad 909)), (1, .int pa), (2, .int pb)] := hl
  refine lv_iload_n hx hb dX11_global_0 rfl (lv_at hl 2 rfl) ?_
  refine lv_if_lt (tgt := 21) hx hb dX11_global_1 (by decide) (fun h1 => ?_) (fun h1 => ?_)
  · have z2 : pb.toInt < (0 : Int) := lt_z rfl (show (0 : Int32).toInt = (0 : Int) by decide) h1
    refine lv_iconst (v := -1) hx hb dX11_global_21 (by decide) ?_
    exact W.iret (v := (-1)) hx hb hr (fun t ht9 hW => ⟨⟨(-1), v, rfl, ⟨rfl, (Or.inl ⟨z2, rfl⟩)⟩, by rw [ht9]; exact hP, hD⟩, hS.F ht9⟩) hS.2.2 dX11_global_22
  · have z3 : (0 : Int) ≤ pb.toInt := nlt_z rfl (show (0 : Int32).toInt = (0 : Int) by decide) h1
    refine lv_iload_n hx hb dX11_global_4 rfl (lv_at hl 2 rfl) ?_
    refine lv_iconst (v := 3) hx hb dX11_global_5 (by decide) ?_
    refine lv_icmp_gt (tgt := 21) hx hb dX11_global_6 (by decide) (fun h4 => ?_) (fun h4 => ?_)
    · have z5 : (3 : Int) < pb.toInt := lt_z (show (3 : Int32).toInt = (3 : Int) by decide) rfl h4
      refine lv_iconst (v := -1) hx hb dX11_global_21 (by decide) ?_
      exact W.iret (v := (-1)) hx hb hr (fun t ht9 hW => ⟨⟨(-1), v, rfl, ⟨rfl, (Or.inr (⟨z3, (Or.inl ⟨z5, rfl⟩)⟩))⟩, by rw [ht9]; exact hP, hD⟩, hS.F ht9⟩) hS.2.2 dX11_global_22
    · have z6 : pb.toInt ≤ (3 : Int) := nlt_z (show (3 : Int32).toInt = (3 : Int) by decide) rfl h4
      refine lv_aload_n hx hb dX11_global_9 rfl (lv_at hl 0 rfl) ?_
      refine va_get (D := (dC, dI)) (ci := 14) (fs := oF_X11 ad pr v) (v := .ref (pr (v.1 0 392))) (C := RX11) (T := TX11) (N := 12) hx hb ht itX11 hown hK hP 0 rfl rfl 2 (by decide) (ht _ tw_924) (fun _ h9 => h9) rfl dX11_global_10 ?_
      refine lv_iload_n hx hb dX11_global_13 rfl (lv_at hl 1 rfl) ?_
      refine lv_iload_n hx hb dX11_global_14 rfl (lv_at hl 2 rfl) ?_
      refine W.eq (g2 := F0 m 15 ls [.int pb, .int pa, .ref (ad 908)]) (by rw [show pr (v.1 0 392) = (ad 908) from (by rw [show (v.1 0 392) = ps from es392]; exact hps)]) ?_
      refine cA_i (rn_Vk (n := 2) (As := [.int pa, .int pb]) (rest := []) hx hb hml hown ht hKK hFx hP hD hS hA (c_x_X7_globalFact l dC dI cI cB cZ cJ cR tb s.heap.size ad pr N L1 L2 v pa pb (show L1.length = 40 from hL1) (show L2.length = 60 from hL2) (show RP v from rp)) tw_402 tw_926 (by decide +kernel) rfl rfl ⟨Nat.le_of_ble_eq_true rfl, Nat.le_of_ble_eq_true rfl⟩ (ixC (cW ad pr N cI cR L1 L2 v).length) (ixC_map _ _ _) (ixC_nd _) 8 rfl rfl rfl rfl hl.1 rfl (Nat.le_of_ble_eq_true rfl) dX11_global_15 ⟨Nat.le_of_ble_eq_true rfl, Nat.le_of_ble_eq_true rfl⟩) hP hD hS hA (fun r9 u8 H locs hw7 hP hD hS => ?_)
      obtain ⟨rfl, ex7, c7, d7⟩ := hw7
      refine W.widen (k := 0) (n := 0) (Nat.le_refl _) (Nat.le_refl _) ?_
      have hP : va_P (dC, dI) vwCl (pW ad pr N cI cR L1 L2 Z v) H := hP
      have hD : va_D A (pW ad pr N cI cR L1 L2 Z v) := hD
      refine lv_goto (tgt := 22) hx hb dX11_global_18 (by decide) ?_
      exact W.iret (v := r9) hx hb hr (fun t ht9 hW => ⟨⟨r9, v, rfl, ⟨rfl, (Or.inr (⟨z3, (Or.inr (⟨z6, r9, ex7, ⟨c7, d7⟩, rfl⟩))⟩))⟩, by rw [ht9]; exact hP, hD⟩, hS.F ht9⟩) hS.2.2 dX11_global_22
set_option maxHeartbeats 4000000 in
set_option maxRecDepth 100000 in
theorem c_x_X11_result (l : Launch) (dC : Nat → ClassId) (dI : Nat → Nat → Nat) (cI cB cZ cJ cR : ClassId) (tb : Nat → Nat) (sz : Nat) (ad : Nat → Nat) (pr : Int32 → Nat) (N : Nat) (L1 L2 : List Nat) (Z : va_W) (v : MS)   : Met l yX11_result (Cond.code yX11_result cX11_result 1 (some .int) :: tw_W) ({ frames := 1, cells := 0, slots := 0, locals := 21 }) (pc_ (dC, dI) (tyS cI cB cZ cJ cR) tb (pW ad pr N cI cR L1 L2 Z v) sz [.ref (ad 909)]) (qi_ (dC, dI) (pW ad pr N cI cR L1 L2 Z v) sz (fun (r : Int32) (u : MS) => v = u) (fun (u : MS) => (pW ad pr N cI cR L1 L2 Z u))) 0 0 (va_A (pW ad pr N cI cR L1 L2 Z v) sz) := by
  refine Met.ofW (cc := cX11_result) (maxL := 1) (ret := (some .int)) (by decide) rfl ?_
  intro p e s m args below meth c s₁ B hml hv
  obtain ⟨rfl, hsz, hP, hKK, hD0, hFx⟩ := hv
  have hK := hKK.1
  have hx := B.exec
  have hb := B.bytes
  have hr := B.returns
  have ht : ∀ w ∈ tw_W, w.before _ s = true := fun w h => atoms_spec (ws := Cond.code yX11_result cX11_result 1 (some .int) :: tw_W) B.pre w (List.mem_cons_of_mem _ h)
  have hown : s.vm.findClass RX11 = some m.cls := findClass_of_methodNamed B.named
  have hlocks := B.notSynchronized
  subst hsz
  unfold qi_
  have hD := hD0.self (sz := s.heap.size)
  generalize hAe : va_A (pW ad pr N cI cR L1 L2 Z v) s.heap.size = A at hD hFx ⊢
  have hA : ∀ q : Nat, s.heap.size ≤ q → A q := fun q h => by rw [← hAe]; exact Or.inr h
  have hS : va_S A s.heap s.heap [] := va_S.rf
  have hl := lv_entry ([.ref (ad 909)]) (n := 1) (Nat.le_of_ble_eq_true rfl)
  rw [lg_entry_eq]
  generalize (lg_sl ([.ref (ad 909)]) ++ List.replicate (1 - (lg_sl ([.ref (ad 909)])).length) Slot.unset).toArray = ls at hl ⊢
  have hl : lv_has ls 1 [(0, .ref (ad 909))] := hl
  refine lv_aload_n hx hb dX11_result_0 rfl (lv_at hl 0 rfl) ?_
  refine va_get (D := (dC, dI)) (ci := 14) (fs := oF_X11 ad pr v) (v := .ref (ad 906)) (C := RX11) (T := TX11) (N := 12) hx hb ht itX11 hown hK hP 0 rfl rfl 9 (by decide) (ht _ tw_927) (fun _ h9 => h9) rfl dX11_result_1 ?_
  refine va_getN (D := (dC, dI)) (ci := 9) (fs := oF_X6 ad pr v) (v := .int (v.1 0 350)) (C := RX6) (T := TX6) (N := 9) hx hb ht itX6 hown hK hP 7 rfl rfl 4 (by decide) (hKK.fl2 10 rfl) (fun _ h9 => h9) rfl dX11_result_4 ?_
  refine lv_iconst (v := 1) hx hb dX11_result_7 (by decide) ?_
  refine lv_icmp_ne (tgt := 23) hx hb dX11_result_8 (by decide) (fun h1 => ?_) (fun h1 => ?_)
  · have z2 : (v.1 0 350).toInt ≠ (1 : Int) := ne_z rfl (show (1 : Int32).toInt = (1 : Int) by decide) h1
    refine lv_iconst (v := 0) hx hb dX11_result_23 (by decide) ?_
    exact W.iret (v := 0) hx hb hr (fun t ht9 hW => ⟨⟨0, v, rfl, rfl, by rw [ht9]; exact hP, hD⟩, hS.F ht9⟩) hS.2.2 dX11_result_24
  · have z3 : (v.1 0 350).toInt = (1 : Int) := eq_z rfl (show (1 : Int32).toInt = (1 : Int) by decide) h1
    refine lv_aload_n hx hb dX11_result_11 rfl (lv_at hl 0 rfl) ?_
    refine va_get (D := (dC, dI)) (ci := 14) (fs := oF_X11 ad pr v) (v := .ref (ad 906)) (C := RX11) (T := TX11) (N := 12) hx hb ht itX11 hown hK hP 0 rfl rfl 9 (by decide) (ht _ tw_927) (fun _ h9 => h9) rfl dX11_result_12 ?_
    refine lv_bipush (v := 10) hx hb dX11_result_15 (by decide) ?_
    refine cA_i (rn_Vk (n := 1) (As := [.int 10]) (rest := []) hx hb hml hown ht hKK hFx hP hD hS hA (c_x_X6_valueOf l dC dI cI cB cZ cJ cR tb s.heap.size ad pr N L1 L2 v (10 : Int32) ) tw_798 tw_928 (by decide +kernel) rfl rfl ⟨Nat.le_of_ble_eq_true rfl, Nat.le_of_ble_eq_true rfl⟩ (ixC (cW ad pr N cI cR L1 L2 v).length) (ixC_map _ _ _) (ixC_nd _) 6 rfl rfl rfl rfl hl.1 rfl (Nat.le_of_ble_eq_true rfl) dX11_result_17 ⟨Nat.le_of_ble_eq_true rfl, Nat.le_of_ble_eq_true rfl⟩) hP hD hS hA (fun r6 u5 H locs hw4 hP hD hS => ?_)
    obtain rfl := hw4
    refine W.widen (k := 0) (n := 0) (Nat.le_refl _) (Nat.le_refl _) ?_
    have hP : va_P (dC, dI) vwCl (pW ad pr N cI cR L1 L2 Z v) H := hP
    have hD : va_D A (pW ad pr N cI cR L1 L2 Z v) := hD
    refine lv_goto (tgt := 24) hx hb dX11_result_20 (by decide) ?_
    exact W.iret (v := r6) hx hb hr (fun t ht9 hW => ⟨⟨r6, v, rfl, rfl, by rw [ht9]; exact hP, hD⟩, hS.F ht9⟩) hS.2.2 dX11_result_24
set_option maxHeartbeats 4000000 in
set_option maxRecDepth 100000 in
theorem c_x_X11_told (l : Launch) (dC : Nat → ClassId) (dI : Nat → Nat → Nat) (cI cB cZ cJ cR : ClassId) (tb : Nat → Nat) (sz : Nat) (ad : Nat → Nat) (pr : Int32 → Nat) (N : Nat) (L1 L2 : List Nat) (Z : va_W) (v : MS) (pa : Int32)  : Met l yX11_told (Cond.code yX11_told cX11_told 2 (some .int) :: tw_W) ({ frames := 1, cells := 0, slots := 0, locals := 21 }) (pc_ (dC, dI) (tyS cI cB cZ cJ cR) tb (pW ad pr N cI cR L1 L2 Z v) sz [.ref (ad 909), .int pa]) (qi_ (dC, dI) (pW ad pr N cI cR L1 L2 Z v) sz (fun (r : Int32) (u : MS) => v = u ∧ (Q_x_X11_told L1 L2 v pa r)) (fun (u : MS) => (pW ad pr N cI cR L1 L2 Z u))) 0 0 (va_A (pW ad pr N cI cR L1 L2 Z v) sz) := by
  refine Met.ofW (cc := cX11_told) (maxL := 2) (ret := (some .int)) (by decide) rfl ?_
  intro p e s m args below meth c s₁ B hml hv
  obtain ⟨rfl, hsz, hP, hKK, hD0, hFx⟩ := hv
  have hK := hKK.1
  have hx := B.exec
  have hb := B.bytes
  have hr := B.returns
  have ht : ∀ w ∈ tw_W, w.before _ s = true := fun w h => atoms_spec (ws := Cond.code yX11_told cX11_told 2 (some .int) :: tw_W) B.pre w (List.mem_cons_of_mem _ h)
  have hown : s.vm.findClass RX11 = some m.cls := findClass_of_methodNamed B.named
  have hlocks := B.notSynchronized
  subst hsz
  unfold qi_
  have hD := hD0.self (sz := s.heap.size)
  generalize hAe : va_A (pW ad pr N cI cR L1 L2 Z v) s.heap.size = A at hD hFx ⊢
  have hA : ∀ q : Nat, s.heap.size ≤ q → A q := fun q h => by rw [← hAe]; exact Or.inr h
  have hS : va_S A s.heap s.heap [] := va_S.rf
  have hl := lv_entry ([.ref (ad 909), .int pa]) (n := 2) (Nat.le_of_ble_eq_true rfl)
  rw [lg_entry_eq]
  generalize (lg_sl ([.ref (ad 909), .int pa]) ++ List.replicate (2 - (lg_sl ([.ref (ad 909), .int pa])).length) Slot.unset).toArray = ls at hl ⊢
  have hl : lv_has ls 2 [(0, .ref (ad 909)), (1, .int pa)] := hl
  refine lv_aload_n hx hb dX11_told_0 rfl (lv_at hl 0 rfl) ?_
  refine va_get (D := (dC, dI)) (ci := 14) (fs := oF_X11 ad pr v) (v := .ref (ad 907)) (C := RX11) (T := TX11) (N := 12) hx hb ht itX11 hown hK hP 0 rfl rfl 10 (by decide) (ht _ tw_929) (fun _ h9 => h9) rfl dX11_told_1 ?_
  refine lv_iload_n hx hb dX11_told_4 rfl (lv_at hl 1 rfl) ?_
  refine cA_i (rn_Vk (n := 1) (As := [.int pa]) (rest := []) hx hb hml hown ht hKK hFx hP hD hS hA (c_x_X10_fact l dC dI cI cB cZ cJ cR tb s.heap.size ad pr N L1 L2 v pa ) tw_930 tw_931 (by decide +kernel) rfl rfl ⟨Nat.le_of_ble_eq_true rfl, Nat.le_of_ble_eq_true rfl⟩ (ixC (cW ad pr N cI cR L1 L2 v).length) (ixC_map _ _ _) (ixC_nd _) 7 rfl rfl rfl rfl hl.1 rfl (Nat.le_of_ble_eq_true rfl) dX11_told_5 ⟨Nat.le_of_ble_eq_true rfl, Nat.le_of_ble_eq_true rfl⟩) hP hD hS hA (fun r3 u2 H locs hw1 hP hD hS => ?_)
  obtain ⟨rfl, ex1⟩ := hw1
  refine W.widen (k := 0) (n := 0) (Nat.le_refl _) (Nat.le_refl _) ?_
  have hP : va_P (dC, dI) vwCl (pW ad pr N cI cR L1 L2 Z v) H := hP
  have hD : va_D A (pW ad pr N cI cR L1 L2 Z v) := hD
  exact W.iret (v := r3) hx hb hr (fun t ht9 hW => ⟨⟨r3, v, rfl, ⟨rfl, ⟨r3, ex1, rfl⟩⟩, by rw [ht9]; exact hP, hD⟩, hS.F ht9⟩) hS.2.2 dX11_told_8
set_option maxHeartbeats 4000000 in
set_option maxRecDepth 100000 in
theorem c_x_X11_count (l : Launch) (dC : Nat → ClassId) (dI : Nat → Nat → Nat) (cI cB cZ cJ cR : ClassId) (tb : Nat → Nat) (sz : Nat) (ad : Nat → Nat) (pr : Int32 → Nat) (N : Nat) (L1 L2 : List Nat) (Z : va_W) (v : MS) (pa : Int32) (ps : Int32) (z344 : 0 ≤ (v.1 0 344).toInt ∧ (v.1 0 344).toInt ≤ 64) (z391 : 0 ≤ (v.1 0 391).toInt ∧ (v.1 0 391).toInt ≤ 4000) (zNN : (N : Int) ≤ 4096) (hps : pr ps = ad 908) (es392 : (v.1 0 392) = ps) : Met l yX11_count (Cond.code yX11_count cX11_count 2 (some .int) :: tw_W) ({ frames := 1, cells := 0, slots := 0, locals := 21 }) (pc_ (dC, dI) (tyS cI cB cZ cJ cR) tb (pW ad pr N cI cR L1 L2 Z v) sz [.ref (ad 909), .int pa]) (qi_ (dC, dI) (pW ad pr N cI cR L1 L2 Z v) sz (fun (r : Int32) (u : MS) => v = u) (fun (u : MS) => (pW ad pr N cI cR L1 L2 Z u))) 0 0 (va_A (pW ad pr N cI cR L1 L2 Z v) sz) := by
  refine Met.ofW (cc := cX11_count) (maxL := 2) (ret := (some .int)) (by decide) rfl ?_
  intro p e s m args below meth c s₁ B hml hv
  obtain ⟨rfl, hsz, hP, hKK, hD0, hFx⟩ := hv
  have hK := hKK.1
  have hx := B.exec
  have hb := B.bytes
  have hr := B.returns
  have ht : ∀ w ∈ tw_W, w.before _ s = true := fun w h => atoms_spec (ws := Cond.code yX11_count cX11_count 2 (some .int) :: tw_W) B.pre w (List.mem_cons_of_mem _ h)
  have hown : s.vm.findClass RX11 = some m.cls := findClass_of_methodNamed B.named
  have hlocks := B.notSynchronized
  subst hsz
  unfold qi_
  have hD := hD0.self (sz := s.heap.size)
  generalize hAe : va_A (pW ad pr N cI cR L1 L2 Z v) s.heap.size = A at hD hFx ⊢
  have hA : ∀ q : Nat, s.heap.size ≤ q → A q := fun q h => by rw [← hAe]; exact Or.inr h
  have hS : va_S A s.heap s.heap [] := va_S.rf
  have hl := lv_entry ([.ref (ad 909), .int pa]) (n := 2) (Nat.le_of_ble_eq_true rfl)
  rw [lg_entry_eq]
  generalize (lg_sl ([.ref (ad 909), .int pa]) ++ List.replicate (2 - (lg_sl ([.ref (ad 909), .int pa])).length) Slot.unset).toArray = ls at hl ⊢
  have hl : lv_has ls 2 [(0, .ref (ad 909)), (1, .int pa)] := hl
  refine lv_iload_n hx hb dX11_count_0 rfl (lv_at hl 1 rfl) ?_
  by_cases h1 : pa = 0
  · refine lv_tableIn (off := 59) (tgt := 60) hx hb dX11_count_1 (by rw [h1]; decide) (by rw [h1]; decide) (by rw [h1]; decide) (by decide) ?_
    refine lv_aload_n hx hb dX11_count_60 rfl (lv_at hl 0 rfl) ?_
    refine va_get (D := (dC, dI)) (ci := 14) (fs := oF_X11 ad pr v) (v := .int (v.1 0 391)) (C := RX11) (T := TX11) (N := 12) hx hb ht itX11 hown hK hP 0 rfl rfl 1 (by decide) (ht _ tw_913) (fun _ h9 => h9) rfl dX11_count_61 ?_
    exact W.iret (v := (v.1 0 391)) hx hb hr (fun t ht9 hW => ⟨⟨(v.1 0 391), v, rfl, rfl, by rw [ht9]; exact hP, hD⟩, hS.F ht9⟩) hS.2.2 dX11_count_64
  ·
    by_cases h2 : pa = 1
    · refine lv_tableIn (off := 64) (tgt := 65) hx hb dX11_count_1 (by rw [h2]; decide) (by rw [h2]; decide) (by rw [h2]; decide) (by decide) ?_
      refine lv_aload_n hx hb dX11_count_65 rfl (lv_at hl 0 rfl) ?_
      refine va_get (D := (dC, dI)) (ci := 14) (fs := oF_X11 ad pr v) (v := .ref (pr (v.1 0 392))) (C := RX11) (T := TX11) (N := 12) hx hb ht itX11 hown hK hP 0 rfl rfl 2 (by decide) (ht _ tw_924) (fun _ h9 => h9) rfl dX11_count_66 ?_
      refine W.eq (g2 := F0 m 69 ls [.ref (ad 908)]) (by rw [show pr (v.1 0 392) = (ad 908) from (by rw [show (v.1 0 392) = ps from es392]; exact hps)]) ?_
      refine va_get (D := (dC, dI)) (ci := 10) (fs := oF_X7 ad pr v) (v := .int (v.1 0 383)) (C := RX7) (T := TX7) (N := 13) hx hb ht itX7 hown hK hP 9 rfl rfl 11 (by decide) (ht _ tw_932) (fun _ h9 => h9) rfl dX11_count_69 ?_
      exact W.iret (v := (v.1 0 383)) hx hb hr (fun t ht9 hW => ⟨⟨(v.1 0 383), v, rfl, rfl, by rw [ht9]; exact hP, hD⟩, hS.F ht9⟩) hS.2.2 dX11_count_72
    ·
      by_cases h3 : pa = 2
      · refine lv_tableIn (off := 72) (tgt := 73) hx hb dX11_count_1 (by rw [h3]; decide) (by rw [h3]; decide) (by rw [h3]; decide) (by decide) ?_
        refine lv_aload_n hx hb dX11_count_73 rfl (lv_at hl 0 rfl) ?_
        refine va_get (D := (dC, dI)) (ci := 14) (fs := oF_X11 ad pr v) (v := .ref (pr (v.1 0 392))) (C := RX11) (T := TX11) (N := 12) hx hb ht itX11 hown hK hP 0 rfl rfl 2 (by decide) (ht _ tw_924) (fun _ h9 => h9) rfl dX11_count_74 ?_
        refine W.eq (g2 := F0 m 77 ls [.ref (ad 908)]) (by rw [show pr (v.1 0 392) = (ad 908) from (by rw [show (v.1 0 392) = ps from es392]; exact hps)]) ?_
        refine va_get (D := (dC, dI)) (ci := 10) (fs := oF_X7 ad pr v) (v := .int (v.1 0 375)) (C := RX7) (T := TX7) (N := 13) hx hb ht itX7 hown hK hP 9 rfl rfl 3 (by decide) (ht _ tw_933) (fun _ h9 => h9) rfl dX11_count_77 ?_
        exact W.iret (v := (v.1 0 375)) hx hb hr (fun t ht9 hW => ⟨⟨(v.1 0 375), v, rfl, rfl, by rw [ht9]; exact hP, hD⟩, hS.F ht9⟩) hS.2.2 dX11_count_80
      ·
        by_cases h4 : pa = 3
        · refine lv_tableIn (off := 80) (tgt := 81) hx hb dX11_count_1 (by rw [h4]; decide) (by rw [h4]; decide) (by rw [h4]; decide) (by decide) ?_
          refine lv_aload_n hx hb dX11_count_81 rfl (lv_at hl 0 rfl) ?_
          refine va_get (D := (dC, dI)) (ci := 14) (fs := oF_X11 ad pr v) (v := .ref (pr (v.1 0 392))) (C := RX11) (T := TX11) (N := 12) hx hb ht itX11 hown hK hP 0 rfl rfl 2 (by decide) (ht _ tw_924) (fun _ h9 => h9) rfl dX11_count_82 ?_
          refine W.eq (g2 := F0 m 85 ls [.ref (ad 908)]) (by rw [show pr (v.1 0 392) = (ad 908) from (by rw [show (v.1 0 392) = ps from es392]; exact hps)]) ?_
          refine va_get (D := (dC, dI)) (ci := 10) (fs := oF_X7 ad pr v) (v := .int (v.1 0 377)) (C := RX7) (T := TX7) (N := 13) hx hb ht itX7 hown hK hP 9 rfl rfl 5 (by decide) (ht _ tw_934) (fun _ h9 => h9) rfl dX11_count_85 ?_
          exact W.iret (v := (v.1 0 377)) hx hb hr (fun t ht9 hW => ⟨⟨(v.1 0 377), v, rfl, rfl, by rw [ht9]; exact hP, hD⟩, hS.F ht9⟩) hS.2.2 dX11_count_88
        ·
          by_cases h5 : pa = 4
          · refine lv_tableIn (off := 88) (tgt := 89) hx hb dX11_count_1 (by rw [h5]; decide) (by rw [h5]; decide) (by rw [h5]; decide) (by decide) ?_
            refine lv_aload_n hx hb dX11_count_89 rfl (lv_at hl 0 rfl) ?_
            refine va_get (D := (dC, dI)) (ci := 14) (fs := oF_X11 ad pr v) (v := .ref (pr (v.1 0 392))) (C := RX11) (T := TX11) (N := 12) hx hb ht itX11 hown hK hP 0 rfl rfl 2 (by decide) (ht _ tw_924) (fun _ h9 => h9) rfl dX11_count_90 ?_
            refine W.eq (g2 := F0 m 93 ls [.ref (ad 908)]) (by rw [show pr (v.1 0 392) = (ad 908) from (by rw [show (v.1 0 392) = ps from es392]; exact hps)]) ?_
            refine va_get (D := (dC, dI)) (ci := 10) (fs := oF_X7 ad pr v) (v := .int (v.1 0 384)) (C := RX7) (T := TX7) (N := 13) hx hb ht itX7 hown hK hP 9 rfl rfl 12 (by decide) (ht _ tw_935) (fun _ h9 => h9) rfl dX11_count_93 ?_
            exact W.iret (v := (v.1 0 384)) hx hb hr (fun t ht9 hW => ⟨⟨(v.1 0 384), v, rfl, rfl, by rw [ht9]; exact hP, hD⟩, hS.F ht9⟩) hS.2.2 dX11_count_96
          ·
            by_cases h6 : pa = 5
            · refine lv_tableIn (off := 96) (tgt := 97) hx hb dX11_count_1 (by rw [h6]; decide) (by rw [h6]; decide) (by rw [h6]; decide) (by decide) ?_
              refine lv_aload_n hx hb dX11_count_97 rfl (lv_at hl 0 rfl) ?_
              refine va_get (D := (dC, dI)) (ci := 14) (fs := oF_X11 ad pr v) (v := .ref (ad 906)) (C := RX11) (T := TX11) (N := 12) hx hb ht itX11 hown hK hP 0 rfl rfl 9 (by decide) (ht _ tw_927) (fun _ h9 => h9) rfl dX11_count_98 ?_
              refine va_getN (D := (dC, dI)) (ci := 9) (fs := oF_X6 ad pr v) (v := .int (v.1 0 350)) (C := RX6) (T := TX6) (N := 9) hx hb ht itX6 hown hK hP 7 rfl rfl 4 (by decide) (hKK.fl2 10 rfl) (fun _ h9 => h9) rfl dX11_count_101 ?_
              exact W.iret (v := (v.1 0 350)) hx hb hr (fun t ht9 hW => ⟨⟨(v.1 0 350), v, rfl, rfl, by rw [ht9]; exact hP, hD⟩, hS.F ht9⟩) hS.2.2 dX11_count_104
            ·
              by_cases h7 : pa = 6
              · refine lv_tableIn (off := 104) (tgt := 105) hx hb dX11_count_1 (by rw [h7]; decide) (by rw [h7]; decide) (by rw [h7]; decide) (by decide) ?_
                refine lv_aload_n hx hb dX11_count_105 rfl (lv_at hl 0 rfl) ?_
                refine va_get (D := (dC, dI)) (ci := 14) (fs := oF_X11 ad pr v) (v := .ref (ad 906)) (C := RX11) (T := TX11) (N := 12) hx hb ht itX11 hown hK hP 0 rfl rfl 9 (by decide) (ht _ tw_927) (fun _ h9 => h9) rfl dX11_count_106 ?_
                refine va_getN (D := (dC, dI)) (ci := 9) (fs := oF_X6 ad pr v) (v := .int (v.1 0 351)) (C := RX6) (T := TX6) (N := 9) hx hb ht itX6 hown hK hP 7 rfl rfl 5 (by decide) (hKK.fl2 11 rfl) (fun _ h9 => h9) rfl dX11_count_109 ?_
                exact W.iret (v := (v.1 0 351)) hx hb hr (fun t ht9 hW => ⟨⟨(v.1 0 351), v, rfl, rfl, by rw [ht9]; exact hP, hD⟩, hS.F ht9⟩) hS.2.2 dX11_count_112
              ·
                by_cases h8 : pa = 7
                · refine lv_tableIn (off := 112) (tgt := 113) hx hb dX11_count_1 (by rw [h8]; decide) (by rw [h8]; decide) (by rw [h8]; decide) (by decide) ?_
                  refine lv_aload_n hx hb dX11_count_113 rfl (lv_at hl 0 rfl) ?_
                  refine va_get (D := (dC, dI)) (ci := 14) (fs := oF_X11 ad pr v) (v := .ref (ad 906)) (C := RX11) (T := TX11) (N := 12) hx hb ht itX11 hown hK hP 0 rfl rfl 9 (by decide) (ht _ tw_927) (fun _ h9 => h9) rfl dX11_count_114 ?_
                  refine va_getN (D := (dC, dI)) (ci := 9) (fs := oF_X6 ad pr v) (v := .int (v.1 0 353)) (C := RX6) (T := TX6) (N := 9) hx hb ht itX6 hown hK hP 7 rfl rfl 7 (by decide) (hKK.fl2 13 rfl) (fun _ h9 => h9) rfl dX11_count_117 ?_
                  exact W.iret (v := (v.1 0 353)) hx hb hr (fun t ht9 hW => ⟨⟨(v.1 0 353), v, rfl, rfl, by rw [ht9]; exact hP, hD⟩, hS.F ht9⟩) hS.2.2 dX11_count_120
                ·
                  by_cases h9 : pa = 8
                  · refine lv_tableIn (off := 120) (tgt := 121) hx hb dX11_count_1 (by rw [h9]; decide) (by rw [h9]; decide) (by rw [h9]; decide) (by decide) ?_
                    refine lv_aload_n hx hb dX11_count_121 rfl (lv_at hl 0 rfl) ?_
                    refine va_get (D := (dC, dI)) (ci := 14) (fs := oF_X11 ad pr v) (v := .ref (ad 905)) (C := RX11) (T := TX11) (N := 12) hx hb ht itX11 hown hK hP 0 rfl rfl 8 (by decide) (ht _ tw_917) (fun _ h9 => h9) rfl dX11_count_122 ?_
                    refine va_getN (D := (dC, dI)) (ci := 7) (fs := oF_X3 ad pr v) (v := .int (v.1 0 344)) (C := RX3) (T := TX3) (N := 3) hx hb ht itX3 hown hK hP 6 rfl rfl 1 (by decide) (hKK.fl2 0 rfl) (fun _ h9 => h9) rfl dX11_count_125 ?_
                    exact W.iret (v := (v.1 0 344)) hx hb hr (fun t ht9 hW => ⟨⟨(v.1 0 344), v, rfl, rfl, by rw [ht9]; exact hP, hD⟩, hS.F ht9⟩) hS.2.2 dX11_count_128
                  ·
                    by_cases h10 : pa = 9
                    · refine lv_tableIn (off := 128) (tgt := 129) hx hb dX11_count_1 (by rw [h10]; decide) (by rw [h10]; decide) (by rw [h10]; decide) (by decide) ?_
                      refine lv_aload_n hx hb dX11_count_129 rfl (lv_at hl 0 rfl) ?_
                      refine va_get (D := (dC, dI)) (ci := 14) (fs := oF_X11 ad pr v) (v := .ref (ad 906)) (C := RX11) (T := TX11) (N := 12) hx hb ht itX11 hown hK hP 0 rfl rfl 9 (by decide) (ht _ tw_927) (fun _ h9 => h9) rfl dX11_count_130 ?_
                      refine cA_i (rn_Vk (n := 0) (As := []) (rest := []) hx hb hml hown ht hKK hFx hP hD hS hA (c_x_X6_size l dC dI cI cB cZ cJ cR tb s.heap.size ad pr N L1 L2 v  (show (N : Int) ≤ 4096 from (om_1c2c49c46c zNN))) tw_936 tw_937 (by decide +kernel) rfl rfl ⟨Nat.le_of_ble_eq_true rfl, Nat.le_of_ble_eq_true rfl⟩ (ixC (cW ad pr N cI cR L1 L2 v).length) (ixC_map _ _ _) (ixC_nd _) 6 rfl rfl rfl rfl hl.1 rfl (Nat.le_of_ble_eq_true rfl) dX11_count_133 ⟨Nat.le_of_ble_eq_true rfl, Nat.le_of_ble_eq_true rfl⟩) hP hD hS hA (fun r13 u12 H locs hw11 hP hD hS => ?_)
                      obtain rfl := hw11
                      refine W.widen (k := 0) (n := 0) (Nat.le_refl _) (Nat.le_refl _) ?_
                      have hP : va_P (dC, dI) vwCl (pW ad pr N cI cR L1 L2 Z v) H := hP
                      have hD : va_D A (pW ad pr N cI cR L1 L2 Z v) := hD
                      exact W.iret (v := r13) hx hb hr (fun t ht9 hW => ⟨⟨r13, v, rfl, rfl, by rw [ht9]; exact hP, hD⟩, hS.F ht9⟩) hS.2.2 dX11_count_136
                    ·
                      by_cases h14 : pa = 10
                      · refine lv_tableIn (off := 136) (tgt := 137) hx hb dX11_count_1 (by rw [h14]; decide) (by rw [h14]; decide) (by rw [h14]; decide) (by decide) ?_
                        refine lv_aload_n hx hb dX11_count_137 rfl (lv_at hl 0 rfl) ?_
                        refine va_get (D := (dC, dI)) (ci := 14) (fs := oF_X11 ad pr v) (v := .ref (ad 906)) (C := RX11) (T := TX11) (N := 12) hx hb ht itX11 hown hK hP 0 rfl rfl 9 (by decide) (ht _ tw_927) (fun _ h9 => h9) rfl dX11_count_138 ?_
                        refine va_getN (D := (dC, dI)) (ci := 9) (fs := oF_X6 ad pr v) (v := .int (v.1 0 350)) (C := RX6) (T := TX6) (N := 9) hx hb ht itX6 hown hK hP 7 rfl rfl 4 (by decide) (hKK.fl2 10 rfl) (fun _ h9 => h9) rfl dX11_count_141 ?_
                        refine lv_iconst (v := 1) hx hb dX11_count_144 (by decide) ?_
                        refine lv_icmp_ne (tgt := 160) hx hb dX11_count_145 (by decide) (fun h15 => ?_) (fun h15 => ?_)
                        · have z16 : (v.1 0 350).toInt ≠ (1 : Int) := ne_z rfl (show (1 : Int32).toInt = (1 : Int) by decide) h15
                          refine lv_iconst (v := 0) hx hb dX11_count_160 (by decide) ?_
                          exact W.iret (v := 0) hx hb hr (fun t ht9 hW => ⟨⟨0, v, rfl, rfl, by rw [ht9]; exact hP, hD⟩, hS.F ht9⟩) hS.2.2 dX11_count_161
                        · have z17 : (v.1 0 350).toInt = (1 : Int) := eq_z rfl (show (1 : Int32).toInt = (1 : Int) by decide) h15
                          refine lv_aload_n hx hb dX11_count_148 rfl (lv_at hl 0 rfl) ?_
                          refine va_get (D := (dC, dI)) (ci := 14) (fs := oF_X11 ad pr v) (v := .ref (ad 906)) (C := RX11) (T := TX11) (N := 12) hx hb ht itX11 hown hK hP 0 rfl rfl 9 (by decide) (ht _ tw_927) (fun _ h9 => h9) rfl dX11_count_149 ?_
                          refine lv_bipush (v := 17) hx hb dX11_count_152 (by decide) ?_
                          refine cA_i (rn_Vk (n := 1) (As := [.int 17]) (rest := []) hx hb hml hown ht hKK hFx hP hD hS hA (c_x_X6_valueOf l dC dI cI cB cZ cJ cR tb s.heap.size ad pr N L1 L2 v (17 : Int32) ) tw_798 tw_928 (by decide +kernel) rfl rfl ⟨Nat.le_of_ble_eq_true rfl, Nat.le_of_ble_eq_true rfl⟩ (ixC (cW ad pr N cI cR L1 L2 v).length) (ixC_map _ _ _) (ixC_nd _) 6 rfl rfl rfl rfl hl.1 rfl (Nat.le_of_ble_eq_true rfl) dX11_count_154 ⟨Nat.le_of_ble_eq_true rfl, Nat.le_of_ble_eq_true rfl⟩) hP hD hS hA (fun r20 u19 H locs hw18 hP hD hS => ?_)
                          obtain rfl := hw18
                          refine W.widen (k := 0) (n := 0) (Nat.le_refl _) (Nat.le_refl _) ?_
                          have hP : va_P (dC, dI) vwCl (pW ad pr N cI cR L1 L2 Z v) H := hP
                          have hD : va_D A (pW ad pr N cI cR L1 L2 Z v) := hD
                          refine lv_goto (tgt := 161) hx hb dX11_count_157 (by decide) ?_
                          exact W.iret (v := r20) hx hb hr (fun t ht9 hW => ⟨⟨r20, v, rfl, rfl, by rw [ht9]; exact hP, hD⟩, hS.F ht9⟩) hS.2.2 dX11_count_161
                      ·
                        refine lv_tableOut (tgt := 162) hx hb dX11_count_1 (by have := lv_neT h1 (a := 0) (by decide); have := lv_neT h2 (a := 1) (by decide); have := lv_neT h3 (a := 2) (by decide); have := lv_neT h4 (a := 3) (by decide); have := lv_neT h5 (a := 4) (by decide); have := lv_neT h6 (a := 5) (by decide); have := lv_neT h7 (a := 6) (by decide); have := lv_neT h8 (a := 7) (by decide); have := lv_neT h9 (a := 8) (by decide); have := lv_neT h10 (a := 9) (by decide); have := lv_neT h14 (a := 10) (by decide); omega) (by decide) ?_
                        refine lv_iconst (v := -1) hx hb dX11_count_162 (by decide) ?_
                        exact W.iret (v := (-1)) hx hb hr (fun t ht9 hW => ⟨⟨(-1), v, rfl, rfl, by rw [ht9]; exact hP, hD⟩, hS.F ht9⟩) hS.2.2 dX11_count_163
theorem om_df6ae57d4b {x0 : Int} (h0 : 0 ≤ x0) : 0 ≤ x0 ∧ (x0 = 0 ∨ x0 = x0) := by omega
theorem om_1479af3ad9 {x0 x1 : Int} (h0 : x0 = 0) : 0 ≤ x0 ∧ (x0 = 0 ∨ x0 = x1) := by omega
set_option maxHeartbeats 4000000 in
set_option maxRecDepth 100000 in
theorem c_x_X11_start (l : Launch) (dC : Nat → ClassId) (dI : Nat → Nat → Nat) (cI cB cZ cJ cR : ClassId) (tb : Nat → Nat) (sz : Nat) (ad : Nat → Nat) (pr : Int32 → Nat) (N : Nat) (L1 L2 : List Nat) (Z : va_W) (v : MS) (pa : Int32) (pb : Int32) (pc1 : Int32) (ps : Int32) (zNN : (N : Int) ≤ 4096) (hL1 : L1.length = 40) (hL2 : L2.length = 60) (rp : RP v) (hps : pr ps = ad 908) (es392 : (v.1 0 392) = ps) (zq : 0 ≤ (v.1 0 353).toInt) : Met l yX11_start (Cond.code yX11_start cX11_start 5 (some .boolean) :: tw_W) ({ frames := 2, cells := 0, slots := 0, locals := 48 }) (pc_ (dC, dI) (tyS cI cB cZ cJ cR) tb (pW ad pr N cI cR L1 L2 Z v) sz [.ref (ad 909), .int pa, .int pb, .int pc1]) (qi_ (dC, dI) (pW ad pr N cI cR L1 L2 Z v) sz (fun (r : Int32) (u : MS) => FC [345, 348, 350, 351, 353] [0, 346, 347] v u ∧ (Q_x_X11_start L1 L2 v pa pb pc1 r u) ∧ (0 ≤ (u.1 0 353).toInt ∧ ((u.1 0 353).toInt = 0 ∨ (u.1 0 353).toInt = (v.1 0 353).toInt)) ∧ (RS0 v u) ∧ (r = 0 ∨ r = 1)) (fun (u : MS) => (pW ad pr N cI cR L1 L2 Z u))) 0 0 (va_A (pW ad pr N cI cR L1 L2 Z v) sz) := by
  refine Met.ofW (cc := cX11_start) (maxL := 5) (ret := (some .boolean)) (by decide) rfl ?_
  intro p e s m args below meth c s₁ B hml hv
  obtain ⟨rfl, hsz, hP, hKK, hD0, hFx⟩ := hv
  have hK := hKK.1
  have hx := B.exec
  have hb := B.bytes
  have hr := B.returns
  have ht : ∀ w ∈ tw_W, w.before _ s = true := fun w h => atoms_spec (ws := Cond.code yX11_start cX11_start 5 (some .boolean) :: tw_W) B.pre w (List.mem_cons_of_mem _ h)
  have hown : s.vm.findClass RX11 = some m.cls := findClass_of_methodNamed B.named
  have hlocks := B.notSynchronized
  subst hsz
  unfold qi_
  have hD := hD0.self (sz := s.heap.size)
  generalize hAe : va_A (pW ad pr N cI cR L1 L2 Z v) s.heap.size = A at hD hFx ⊢
  have hA : ∀ q : Nat, s.heap.size ≤ q → A q := fun q h => by rw [← hAe]; exact Or.inr h
  have hS : va_S A s.heap s.heap [] := va_S.rf
  have hl := lv_entry ([.ref (ad 909), .int pa, .int pb, .int pc1]) (n := 5) (Nat.le_of_ble_eq_true rfl)
  rw [lg_entry_eq]
  generalize (lg_sl ([.ref (ad 909), .int pa, .int pb, .int pc1]) ++ List.replicate (5 - (lg_sl ([.ref (ad 909), .int pa, .int pb, .int pc1])).length) Slot.unset).toArray = ls at hl ⊢
  have hl : lv_has ls 5 [(0, .ref (ad 909)), (1, .int pa), (2, .int pb), (3, .int pc1)] := hl
  refine lv_aload_n hx hb dX11_start_0 rfl (lv_at hl 0 rfl) ?_
  refine va_get (D := (dC, dI)) (ci := 14) (fs := oF_X11 ad pr v) (v := .ref (pr (v.1 0 392))) (C := RX11) (T := TX11) (N := 12) hx hb ht itX11 hown hK hP 0 rfl rfl 2 (by decide) (ht _ tw_924) (fun _ h9 => h9) rfl dX11_start_1 ?_
  refine lv_iload_n hx hb dX11_start_4 rfl (lv_at hl 1 rfl) ?_
  refine lv_iconst (v := 0) hx hb dX11_start_5 (by decide) ?_
  refine W.eq (g2 := F0 m 6 ls [.int 0, .int pa, .ref (ad 908)]) (by rw [show pr (v.1 0 392) = (ad 908) from (by rw [show (v.1 0 392) = ps from es392]; exact hps)]) ?_
  refine cA_i (rn_Vk (n := 2) (As := [.int pa, .int 0]) (rest := []) hx hb hml hown ht hKK hFx hP hD hS hA (c_x_X7_functionFact l dC dI cI cB cZ cJ cR tb s.heap.size ad pr N L1 L2 v pa (0 : Int32) (show L1.length = 40 from hL1) (show L2.length = 60 from hL2) (show RP v from rp)) tw_398 tw_925 (by decide +kernel) rfl rfl ⟨Nat.le_of_ble_eq_true rfl, Nat.le_of_ble_eq_true rfl⟩ (ixC (cW ad pr N cI cR L1 L2 v).length) (ixC_map _ _ _) (ixC_nd _) 8 rfl rfl rfl rfl hl.1 rfl (Nat.le_of_ble_eq_true rfl) dX11_start_6 ⟨Nat.le_of_ble_eq_true rfl, Nat.le_of_ble_eq_true rfl⟩) hP hD hS hA (fun r3 u2 H locs hw1 hP hD hS => ?_)
  obtain ⟨rfl, ex1, c1, d1⟩ := hw1
  have c1 : ((0 : Int) ≠ 0 ∨ r3.toInt ≤ 1000) := c1
  refine W.widen (k := 0) (n := 0) (Nat.le_refl _) (Nat.le_refl _) ?_
  have hP : va_P (dC, dI) vwCl (pW ad pr N cI cR L1 L2 Z v) H := hP
  have hD : va_D A (pW ad pr N cI cR L1 L2 Z v) := hD
  refine lv_istore (lv' := [(4, .int r3), (0, .ref (ad 909)), (1, .int pa), (2, .int pb), (3, .int pc1)]) hx hb dX11_start_9 hl (by decide) rfl (fun ls hl => ?_)
  refine lv_iload hx hb dX11_start_11 (lv_at hl 0 rfl) ?_
  refine lv_iconst (v := -1) hx hb dX11_start_13 (by decide) ?_
  refine lv_icmp_eq (tgt := 23) hx hb dX11_start_14 (by decide) (fun h4 => ?_) (fun h4 => ?_)
  · have z5 : r3.toInt = (-1 : Int) := eq_z rfl (show ((-1) : Int32).toInt = (-1 : Int) by decide) h4
    refine lv_iconst (v := 0) hx hb dX11_start_23 (by decide) ?_
    exact W.zret (v := 0) hx hb hr rfl (fun t ht9 hW => ⟨⟨0, v, rfl, ⟨(FC.rf _), ⟨zq, r3, ex1, ⟨c1, d1⟩, (Or.inl ⟨z5, rfl, rfl⟩)⟩, (show 0 ≤ (v.1 0 353).toInt ∧ ((v.1 0 353).toInt = 0 ∨ (v.1 0 353).toInt = (v.1 0 353).toInt) from (om_df6ae57d4b zq)), RS0.rf, (Or.inl rfl)⟩, by rw [ht9]; exact hP, hD⟩, hS.F ht9⟩) hS.2.2 dX11_start_24
  · have z6 : r3.toInt ≠ (-1 : Int) := ne_z rfl (show ((-1) : Int32).toInt = (-1 : Int) by decide) h4
    refine lv_iload hx hb dX11_start_17 (lv_at hl 0 rfl) ?_
    refine lv_iconst (v := 2) hx hb dX11_start_19 (by decide) ?_
    refine lv_icmp_le (tgt := 25) hx hb dX11_start_20 (by decide) (fun h7 => ?_) (fun h7 => ?_)
    · have z8 : r3.toInt ≤ (2 : Int) := le_z rfl (show (2 : Int32).toInt = (2 : Int) by decide) h7
      refine lv_aload_n hx hb dX11_start_25 rfl (lv_at hl 1 rfl) ?_
      refine va_get (D := (dC, dI)) (ci := 14) (fs := oF_X11 ad pr v) (v := .ref (ad 906)) (C := RX11) (T := TX11) (N := 12) hx hb ht itX11 hown hK hP 0 rfl rfl 9 (by decide) (ht _ tw_927) (fun _ h9 => h9) rfl dX11_start_26 ?_
      refine lv_aload_n hx hb dX11_start_29 rfl (lv_at hl 1 rfl) ?_
      refine va_get (D := (dC, dI)) (ci := 14) (fs := oF_X11 ad pr v) (v := .ref (pr (v.1 0 392))) (C := RX11) (T := TX11) (N := 12) hx hb ht itX11 hown hK hP 0 rfl rfl 2 (by decide) (ht _ tw_924) (fun _ h9 => h9) rfl dX11_start_30 ?_
      refine lv_aload_n hx hb dX11_start_33 rfl (lv_at hl 1 rfl) ?_
      refine va_get (D := (dC, dI)) (ci := 14) (fs := oF_X11 ad pr v) (v := .ref (pr (v.1 0 392))) (C := RX11) (T := TX11) (N := 12) hx hb ht itX11 hown hK hP 0 rfl rfl 2 (by decide) (ht _ tw_924) (fun _ h9 => h9) rfl dX11_start_34 ?_
      refine lv_iload_n hx hb dX11_start_37 rfl (lv_at hl 2 rfl) ?_
      refine lv_iconst (v := 1) hx hb dX11_start_38 (by decide) ?_
      refine W.eq (g2 := F0 m 39 ls [.int 1, .int pa, .ref (ad 908), .ref (pr (v.1 0 392)), .ref (ad 906)]) (by rw [show pr (v.1 0 392) = (ad 908) from (by rw [show (v.1 0 392) = ps from es392]; exact hps)]) ?_
      refine cA_i (rn_Vk (n := 2) (As := [.int pa, .int 1]) (rest := [.ref (pr (v.1 0 392)), .ref (ad 906)]) hx hb hml hown ht hKK hFx hP hD hS hA (c_x_X7_functionFact l dC dI cI cB cZ cJ cR tb H.size ad pr N L1 L2 v pa (1 : Int32) (show L1.length = 40 from hL1) (show L2.length = 60 from hL2) (show RP v from rp)) tw_398 tw_925 (by decide +kernel) rfl rfl ⟨Nat.le_of_ble_eq_true rfl, Nat.le_of_ble_eq_true rfl⟩ (ixC (cW ad pr N cI cR L1 L2 v).length) (ixC_map _ _ _) (ixC_nd _) 8 rfl rfl rfl rfl hl.1 rfl (Nat.le_of_ble_eq_true rfl) dX11_start_39 ⟨Nat.le_of_ble_eq_true rfl, Nat.le_of_ble_eq_true rfl⟩) hP hD hS hA (fun r11 u10 H locs hw9 hP hD hS => ?_)
      obtain ⟨rfl, ex9, c9, d9⟩ := hw9
      have c9 : ((1 : Int) ≠ 0 ∨ r11.toInt ≤ 1000) := c9
      refine W.widen (k := 0) (n := 0) (Nat.le_refl _) (Nat.le_refl _) ?_
      have hP : va_P (dC, dI) vwCl (pW ad pr N cI cR L1 L2 Z v) H := hP
      have hD : va_D A (pW ad pr N cI cR L1 L2 Z v) := hD
      refine lv_iload_n hx hb dX11_start_42 rfl (lv_at hl 3 rfl) ?_
      refine lv_iload_n hx hb dX11_start_43 rfl (lv_at hl 4 rfl) ?_
      refine W.eq (g2 := F0 m 44 ls [.int pc1, .int pb, .int r11, .ref (pr ps), .ref (ad 906)]) (by rw [show (v.1 0 392) = ps from es392]) ?_
      refine cA_v (rn_Vk (n := 4) (As := [.ref (pr ps), .int r11, .int pb, .int pc1]) (rest := []) hx hb hml hown ht hKK hFx hP hD hS hA (c_x_X6_begin l dC dI cI cB cZ cJ cR tb H.size ad pr N L1 L2 v r11 pb pc1 ps (show (N : Int) ≤ 4096 from (om_1c2c49c46c zNN)) (show pr ps = ad 908 from hps)) tw_938 tw_939 (by decide +kernel) rfl rfl ⟨Nat.le_of_ble_eq_true rfl, Nat.le_of_ble_eq_true rfl⟩ (ixC (cW ad pr N cI cR L1 L2 v).length) (ixC_map _ _ _) (ixC_nd _) 6 rfl rfl rfl rfl hl.1 rfl (Nat.le_of_ble_eq_true rfl) dX11_start_44 ⟨Nat.le_of_ble_eq_true rfl, Nat.le_of_ble_eq_true rfl⟩) hP hD hS hA (fun u13 H locs hw12 hP hD hS => ?_)
      obtain ⟨fr12, pq12, rs12⟩ := hw12
      refine W.widen (k := 0) (n := 0) (Nat.le_refl _) (Nat.le_refl _) ?_
      have hP := cP_ (pW_up fr12 (by decide)) hP
      have hD := cD_ (pW_up fr12 (by decide)) hD
      refine lv_iconst (v := 1) hx hb dX11_start_47 (by decide) ?_
      exact W.zret (v := 1) hx hb hr rfl (fun t ht9 hW => ⟨⟨1, u13, rfl, ⟨(FC.tr (FC.rf _) (FC.up fr12 (by decide) (by decide))), ⟨zq, r3, ex1, ⟨c1, d1⟩, (Or.inr (⟨z6, (Or.inl ⟨z8, r11, ex9, ⟨c9, d9⟩, u13, fr12, rfl, rfl⟩)⟩))⟩, (show 0 ≤ (u13.1 0 353).toInt ∧ ((u13.1 0 353).toInt = 0 ∨ (u13.1 0 353).toInt = (v.1 0 353).toInt) from (om_1479af3ad9 pq12)), (RS0.tr RS0.rf rs12), (Or.inr rfl)⟩, by rw [ht9]; exact hP, hD⟩, hS.F ht9⟩) hS.2.2 dX11_start_48
    · have z15 : (2 : Int) < r3.toInt := nle_z rfl (show (2 : Int32).toInt = (2 : Int) by decide) h7
      refine lv_iconst (v := 0) hx hb dX11_start_23 (by decide) ?_
      exact W.zret (v := 0) hx hb hr rfl (fun t ht9 hW => ⟨⟨0, v, rfl, ⟨(FC.rf _), ⟨zq, r3, ex1, ⟨c1, d1⟩, (Or.inr (⟨z6, (Or.inr (⟨z15, rfl, rfl⟩))⟩))⟩, (show 0 ≤ (v.1 0 353).toInt ∧ ((v.1 0 353).toInt = 0 ∨ (v.1 0 353).toInt = (v.1 0 353).toInt) from (om_df6ae57d4b zq)), RS0.rf, (Or.inl rfl)⟩, by rw [ht9]; exact hP, hD⟩, hS.F ht9⟩) hS.2.2 dX11_start_24
set_option maxHeartbeats 4000000 in
set_option maxRecDepth 100000 in
theorem c_x_X11_step (l : Launch) (dC : Nat → ClassId) (dI : Nat → Nat → Nat) (cI cB cZ cJ cR : ClassId) (tb : Nat → Nat) (sz : Nat) (ad : Nat → Nat) (pr : Int32 → Nat) (N : Nat) (L1 L2 : List Nat) (Z : va_W) (v : MS)  (z344 : 0 ≤ (v.1 0 344).toInt ∧ (v.1 0 344).toInt ≤ 64) (zNN : (N : Int) ≤ 4096) (zq : 0 ≤ (v.1 0 353).toInt ∧ (v.1 0 353).toInt + 1 ≤ 200000000) : Met l yX11_step (Cond.code yX11_step cX11_step 1 (some .int) :: tw_W) ({ frames := 6, cells := 0, slots := 0, locals := 133 }) (pc_ (dC, dI) (tyS cI cB cZ cJ cR) tb (pW ad pr N cI cR L1 L2 Z v) sz [.ref (ad 909)]) (qi_ (dC, dI) (pW ad pr N cI cR L1 L2 Z v) sz (fun (r : Int32) (u : MS) => FC [345, 348, 349, 350, 351, 353] [0, 346, 347, 352] v u ∧ ((v.1 0 353).toInt ≤ (u.1 0 353).toInt ∧ (u.1 0 353).toInt ≤ (v.1 0 353).toInt + 1) ∧ (RS0 v u)) (fun (u : MS) => (pW ad pr N cI cR L1 L2 Z u))) 0 0 (va_A (pW ad pr N cI cR L1 L2 Z v) sz) := by
  refine Met.ofW (cc := cX11_step) (maxL := 1) (ret := (some .int)) (by decide) rfl ?_
  intro p e s m args below meth c s₁ B hml hv
  obtain ⟨rfl, hsz, hP, hKK, hD0, hFx⟩ := hv
  have hK := hKK.1
  have hx := B.exec
  have hb := B.bytes
  have hr := B.returns
  have ht : ∀ w ∈ tw_W, w.before _ s = true := fun w h => atoms_spec (ws := Cond.code yX11_step cX11_step 1 (some .int) :: tw_W) B.pre w (List.mem_cons_of_mem _ h)
  have hown : s.vm.findClass RX11 = some m.cls := findClass_of_methodNamed B.named
  have hlocks := B.notSynchronized
  subst hsz
  unfold qi_
  have hD := hD0.self (sz := s.heap.size)
  generalize hAe : va_A (pW ad pr N cI cR L1 L2 Z v) s.heap.size = A at hD hFx ⊢
  have hA : ∀ q : Nat, s.heap.size ≤ q → A q := fun q h => by rw [← hAe]; exact Or.inr h
  have hS : va_S A s.heap s.heap [] := va_S.rf
  have hl := lv_entry ([.ref (ad 909)]) (n := 1) (Nat.le_of_ble_eq_true rfl)
  rw [lg_entry_eq]
  generalize (lg_sl ([.ref (ad 909)]) ++ List.replicate (1 - (lg_sl ([.ref (ad 909)])).length) Slot.unset).toArray = ls at hl ⊢
  have hl : lv_has ls 1 [(0, .ref (ad 909))] := hl
  refine lv_aload_n hx hb dX11_step_0 rfl (lv_at hl 0 rfl) ?_
  refine va_get (D := (dC, dI)) (ci := 14) (fs := oF_X11 ad pr v) (v := .ref (ad 906)) (C := RX11) (T := TX11) (N := 12) hx hb ht itX11 hown hK hP 0 rfl rfl 9 (by decide) (ht _ tw_927) (fun _ h9 => h9) rfl dX11_step_1 ?_
  refine cA_v (rn_Vk (n := 0) (As := []) (rest := []) hx hb hml hown ht hKK hFx hP hD hS hA (c_x_X6_tick l dC dI cI cB cZ cJ cR tb s.heap.size ad pr N L1 L2 v  (show 0 ≤ (v.1 0 344).toInt ∧ (v.1 0 344).toInt ≤ 64 from (om_0522002ca7 z344)) (show (N : Int) ≤ 4096 from (om_1c2c49c46c zNN)) (show 0 ≤ (v.1 0 353).toInt ∧ (v.1 0 353).toInt + 1 ≤ 200000000 from (om_6decde4407 zq))) tw_838 tw_940 (by decide +kernel) rfl rfl ⟨Nat.le_of_ble_eq_true rfl, Nat.le_of_ble_eq_true rfl⟩ (ixC (cW ad pr N cI cR L1 L2 v).length) (ixC_map _ _ _) (ixC_nd _) 6 rfl rfl rfl rfl hl.1 rfl (Nat.le_of_ble_eq_true rfl) dX11_step_4 ⟨Nat.le_of_ble_eq_true rfl, Nat.le_of_ble_eq_true rfl⟩) hP hD hS hA (fun u2 H locs hw1 hP hD hS => ?_)
  obtain ⟨fr1, pq1, rs1⟩ := hw1
  refine W.widen (k := 0) (n := 0) (Nat.le_refl _) (Nat.le_refl _) ?_
  have hP := cP_ (pW_up fr1 (by decide)) hP
  have hD := cD_ (pW_up fr1 (by decide)) hD
  refine lv_aload_n hx hb dX11_step_7 rfl (lv_at hl 0 rfl) ?_
  refine va_get (D := (dC, dI)) (ci := 14) (fs := oF_X11 ad pr u2) (v := .ref (ad 906)) (C := RX11) (T := TX11) (N := 12) hx hb ht itX11 hown hK hP 0 rfl rfl 9 (by decide) (ht _ tw_927) (fun _ h9 => h9) rfl dX11_step_8 ?_
  refine va_getN (D := (dC, dI)) (ci := 9) (fs := oF_X6 ad pr u2) (v := .int (u2.1 0 350)) (C := RX6) (T := TX6) (N := 9) hx hb ht itX6 hown hK hP 7 rfl rfl 4 (by decide) (hKK.fl2 10 rfl) (fun _ h9 => h9) rfl dX11_step_11 ?_
  exact W.iret (v := (u2.1 0 350)) hx hb hr (fun t ht9 hW => ⟨⟨(u2.1 0 350), u2, rfl, ⟨(FC.tr (FC.rf _) (FC.up fr1 (by decide) (by decide))), (show (v.1 0 353).toInt ≤ (u2.1 0 353).toInt ∧ (u2.1 0 353).toInt ≤ (v.1 0 353).toInt + 1 from (om_e79f107f26 pq1)), (RS0.tr RS0.rf rs1)⟩, by rw [ht9]; exact hP, hD⟩, hS.F ht9⟩) hS.2.2 dX11_step_14
theorem om_f24b48c3f1 {x0 : Int} (h0 : x0 < (0 : Int)) : x0 < 0 := by omega
set_option maxHeartbeats 4000000 in
set_option maxRecDepth 100000 in
theorem c_x_X11_code (l : Launch) (dC : Nat → ClassId) (dI : Nat → Nat → Nat) (cI cB cZ cJ cR : ClassId) (tb : Nat → Nat) (sz : Nat) (ad : Nat → Nat) (pr : Int32 → Nat) (N : Nat) (L1 L2 : List Nat) (Z : va_W) (v : MS) (pa : Int32) (ps : Int32) (zNN : (N : Int) ≤ 4096) (hps : pr ps = ad 908) (es392 : (v.1 0 392) = ps) (hst : l.stackTraces = false) : vx_Met l yX11_code (Cond.code yX11_code cX11_code 2 (some .int) :: tw_W) ({ frames := 6, cells := 1, slots := 6, locals := 82 }) (pc_ (dC, dI) (tyS cI cB cZ cJ cR) tb (pW ad pr N cI cR L1 L2 Z v) sz [.ref (ad 909), .int pa]) (qi_ (dC, dI) (pW ad pr N cI cR L1 L2 Z v) sz (fun (r : Int32) (u : MS) => v = u ∧ (Q_x_X11_code L1 L2 N v pa r)) (fun (u : MS) => (pW ad pr N cI cR L1 L2 Z u))) (qxp (dC, dI) (pW ad pr N cI cR L1 L2 Z v) sz (fun E => (E = "java/lang/IndexOutOfBoundsException" ∧ (pa.toInt < 0)))) 1 6 (va_A (pW ad pr N cI cR L1 L2 Z v) sz) := by
  refine vx_ofW (cc := cX11_code) (maxL := 2) (ret := (some .int)) (by decide) rfl ?_
  intro p e s m args below meth c s₁ B hml hnt hv
  obtain ⟨rfl, hsz, hP, hKK, hD0, hFx⟩ := hv
  have hK := hKK.1
  have hx := B.exec
  have hb := B.bytes
  have hr := B.returns
  have ht : ∀ w ∈ tw_W, w.before _ s = true := fun w h => atoms_spec (ws := Cond.code yX11_code cX11_code 2 (some .int) :: tw_W) B.pre w (List.mem_cons_of_mem _ h)
  have hown : s.vm.findClass RX11 = some m.cls := findClass_of_methodNamed B.named
  have hlocks := B.notSynchronized
  subst hsz
  unfold qi_ qxp
  have hD := hD0.self (sz := s.heap.size)
  generalize hAe : va_A (pW ad pr N cI cR L1 L2 Z v) s.heap.size = A at hD hFx ⊢
  have hA : ∀ q : Nat, s.heap.size ≤ q → A q := fun q h => by rw [← hAe]; exact Or.inr h
  have hS : va_S A s.heap s.heap [] := va_S.rf
  have hl := lv_entry ([.ref (ad 909), .int pa]) (n := 2) (Nat.le_of_ble_eq_true rfl)
  rw [lg_entry_eq]
  generalize (lg_sl ([.ref (ad 909), .int pa]) ++ List.replicate (2 - (lg_sl ([.ref (ad 909), .int pa])).length) Slot.unset).toArray = ls at hl ⊢
  have hl : lv_has ls 2 [(0, .ref (ad 909)), (1, .int pa)] := hl
  refine lv_iload_n hx hb dX11_code_0 rfl (lv_at hl 1 rfl) ?_
  refine lv_if_ge (tgt := 14) hx hb dX11_code_1 (by decide) (fun h1 => ?_) (fun h1 => ?_)
  · have z2 : (0 : Int) ≤ pa.toInt := le_z (show (0 : Int32).toInt = (0 : Int) by decide) rfl h1
    refine lv_aload_n hx hb dX11_code_14 rfl (lv_at hl 0 rfl) ?_
    refine va_get (D := (dC, dI)) (ci := 14) (fs := oF_X11 ad pr v) (v := .ref (pr (v.1 0 392))) (C := RX11) (T := TX11) (N := 12) hx hb ht itX11 hown hK hP 0 rfl rfl 2 (by decide) (ht _ tw_924) (fun _ h9 => h9) rfl dX11_code_15 ?_
    refine lv_iload_n hx hb dX11_code_18 rfl (lv_at hl 1 rfl) ?_
    refine W.eq (g2 := F0 m 19 ls [.int pa, .ref (ad 908)]) (by rw [show pr (v.1 0 392) = (ad 908) from (by rw [show (v.1 0 392) = ps from es392]; exact hps)]) ?_
    refine cA_i (rn_Vk (n := 1) (As := [.int pa]) (rest := []) hx hb hml hown ht hKK hFx hP hD hS hA (c_x_X7_wordAt l dC dI cI cB cZ cJ cR tb s.heap.size ad pr N L1 L2 v pa (show (N : Int) ≤ 4096 from (om_1c2c49c46c zNN))) tw_836 tw_941 (by decide +kernel) rfl rfl ⟨Nat.le_of_ble_eq_true rfl, Nat.le_of_ble_eq_true rfl⟩ (ixC (cW ad pr N cI cR L1 L2 v).length) (ixC_map _ _ _) (ixC_nd _) 8 rfl rfl rfl rfl hl.1 rfl (Nat.le_of_ble_eq_true rfl) dX11_code_19 ⟨Nat.le_of_ble_eq_true rfl, Nat.le_of_ble_eq_true rfl⟩) hP hD hS hA (fun r5 u4 H locs hw3 hP hD hS => ?_)
    obtain ⟨rfl, ex3⟩ := hw3
    refine W.widen (k := 0) (n := 0) (Nat.le_refl _) (Nat.le_refl _) ?_
    have hP : va_P (dC, dI) vwCl (pW ad pr N cI cR L1 L2 Z v) H := hP
    have hD : va_D A (pW ad pr N cI cR L1 L2 Z v) := hD
    refine vx_ret ?_
    refine W.widen (k := 1) (n := 6) (Nat.le_of_ble_eq_true rfl) (Nat.le_of_ble_eq_true rfl) ?_
    exact W.iret (v := r5) hx hb hr (fun t ht9 hW => ⟨⟨r5, v, rfl, ⟨rfl, ⟨z2, r5, ex3, rfl⟩⟩, by rw [ht9]; exact hP, hD⟩, hS.F ht9⟩) hS.2.2 dX11_code_22
  · have z6 : pa.toInt < (0 : Int) := nle_z (show (0 : Int32).toInt = (0 : Int) by decide) rfl h1
    refine vx_throwS (names := ["java/lang/RuntimeException", "java/lang/Exception"]) (A := A) hx hb hst hown (by decide +kernel) (by decide +kernel) (ht _ tw_942) (ht _ tw_943) (st_ hKK 13 (own := RX11) (idx := 121) (tx := "a word below 0") (n := 13) rfl) (vx_hat (fun w h => ht w (xat_0 w h)) xat_0_n (vx_c (va_Nw.use rfl (hKK.2.2.2.2.2.1 _ (List.mem_of_getElem? (i := 0) rfl))) (vx_c (dcl_0 ht) (vx_c (dcl_1 ht) (vx_c (dcl_2 ht) vx_n))))) xat_0_o hFx.2.2.2.2.1 hFx.2.2.2.2.2.1 hS (by rw [hml]; exact hl.1) dX11_code_4 dX11_code_7 dX11_code_8 dX11_code_10 dX11_code_13 (fun x h9 => (hnt x h9).elim) (Nat.le_of_ble_eq_true rfl) (Nat.le_of_ble_eq_true rfl) (Nat.le_of_ble_eq_true rfl) (Nat.le_of_ble_eq_true rfl) hlocks (fun t9 hv9 hz9 hk9 => ⟨(), trivial, ⟨⟨rfl, (om_f24b48c3f1 z6)⟩, hP.kept (fun k q hk => hk9 _ ((hP k q hk).lt)), hD⟩, ⟨Nat.le_trans hS.1 hz9, fun q h1 h2 => (hk9 q (Nat.lt_of_lt_of_le h1 hS.1)).trans (hS.2.1 q h1 h2)⟩⟩) hS.2.2 (Nat.le_of_ble_eq_true rfl) (Nat.le_of_ble_eq_true rfl)
theorem om_d8cbe7618a {x0 : Int} (h0 : 0 ≤ x0 ∧ x0 + 50000 ≤ 200000000) : 0 ≤ x0 ∧ x0 + 50000 ≤ 200000000 := by omega
theorem om_e44f25446b {x0 : Int} (h0 : x0 ≤ (50000 : Int)) : x0 ≤ 50000 := by omega
theorem om_51857eed6e {x0 x1 : Int} (h0 : x0 ≤ x1 ∧ x1 ≤ x0 + 50000) : x0 ≤ x1 ∧ x1 ≤ x0 + 50000 := by omega
set_option maxHeartbeats 4000000 in
set_option maxRecDepth 100000 in
theorem c_x_X11_run (l : Launch) (dC : Nat → ClassId) (dI : Nat → Nat → Nat) (cI cB cZ cJ cR : ClassId) (tb : Nat → Nat) (sz : Nat) (ad : Nat → Nat) (pr : Int32 → Nat) (N : Nat) (L1 L2 : List Nat) (Z : va_W) (v : MS) (pa : Int32) (z344 : 0 ≤ (v.1 0 344).toInt ∧ (v.1 0 344).toInt ≤ 64) (zNN : (N : Int) ≤ 4096) (zq : 0 ≤ (v.1 0 353).toInt ∧ (v.1 0 353).toInt + 50000 ≤ 200000000) (hst : l.stackTraces = false) : vx_Met l yX11_run (Cond.code yX11_run cX11_run 2 (some .int) :: tw_W) ({ frames := 7, cells := 1, slots := 6, locals := 156 }) (pc_ (dC, dI) (tyS cI cB cZ cJ cR) tb (pW ad pr N cI cR L1 L2 Z v) sz [.ref (ad 909), .int pa]) (qi_ (dC, dI) (pW ad pr N cI cR L1 L2 Z v) sz (fun (r : Int32) (u : MS) => FC [345, 348, 349, 350, 351, 353] [0, 346, 347, 352] v u ∧ ((v.1 0 353).toInt ≤ (u.1 0 353).toInt ∧ (u.1 0 353).toInt ≤ (v.1 0 353).toInt + 50000) ∧ (RS0 v u)) (fun (u : MS) => (pW ad pr N cI cR L1 L2 Z u))) (qxp (dC, dI) (pW ad pr N cI cR L1 L2 Z v) sz (fun E => (E = "java/lang/IllegalArgumentException"))) 1 6 (va_A (pW ad pr N cI cR L1 L2 Z v) sz) := by
  refine vx_ofW (cc := cX11_run) (maxL := 2) (ret := (some .int)) (by decide) rfl ?_
  intro p e s m args below meth c s₁ B hml hnt hv
  obtain ⟨rfl, hsz, hP, hKK, hD0, hFx⟩ := hv
  have hK := hKK.1
  have hx := B.exec
  have hb := B.bytes
  have hr := B.returns
  have ht : ∀ w ∈ tw_W, w.before _ s = true := fun w h => atoms_spec (ws := Cond.code yX11_run cX11_run 2 (some .int) :: tw_W) B.pre w (List.mem_cons_of_mem _ h)
  have hown : s.vm.findClass RX11 = some m.cls := findClass_of_methodNamed B.named
  have hlocks := B.notSynchronized
  subst hsz
  unfold qi_ qxp
  have hD := hD0.self (sz := s.heap.size)
  generalize hAe : va_A (pW ad pr N cI cR L1 L2 Z v) s.heap.size = A at hD hFx ⊢
  have hA : ∀ q : Nat, s.heap.size ≤ q → A q := fun q h => by rw [← hAe]; exact Or.inr h
  have hS : va_S A s.heap s.heap [] := va_S.rf
  have hl := lv_entry ([.ref (ad 909), .int pa]) (n := 2) (Nat.le_of_ble_eq_true rfl)
  rw [lg_entry_eq]
  generalize (lg_sl ([.ref (ad 909), .int pa]) ++ List.replicate (2 - (lg_sl ([.ref (ad 909), .int pa])).length) Slot.unset).toArray = ls at hl ⊢
  have hl : lv_has ls 2 [(0, .ref (ad 909)), (1, .int pa)] := hl
  refine lv_iload_n hx hb dX11_run_0 rfl (lv_at hl 1 rfl) ?_
  refine lv_if_lt (tgt := 10) hx hb dX11_run_1 (by decide) (fun h1 => ?_) (fun h1 => ?_)
  · have z2 : pa.toInt < (0 : Int) := lt_z rfl (show (0 : Int32).toInt = (0 : Int) by decide) h1
    refine vx_throwS (names := ["java/lang/RuntimeException", "java/lang/Exception"]) (A := A) hx hb hst hown (by decide +kernel) (by decide +kernel) (ht _ tw_944) (ht _ tw_945) (st_ hKK 15 (own := RX11) (idx := 170) (tx := "not 0 to 50,000 steps") (n := 15) rfl) (vx_hat (fun w h => ht w (xat_1 w h)) xat_1_n (vx_c (va_Nw.use rfl (hKK.2.2.2.2.2.1 _ (List.mem_of_getElem? (i := 1) rfl))) (vx_c (dcl_0 ht) (vx_c (dcl_1 ht) (vx_c (dcl_2 ht) vx_n))))) xat_1_o hFx.2.2.2.2.1 hFx.2.2.2.2.2.1 hS (by rw [hml]; exact hl.1) dX11_run_10 dX11_run_13 dX11_run_14 dX11_run_16 dX11_run_19 (fun x h9 => (hnt x h9).elim) (Nat.le_of_ble_eq_true rfl) (Nat.le_of_ble_eq_true rfl) (Nat.le_of_ble_eq_true rfl) (Nat.le_of_ble_eq_true rfl) hlocks (fun t9 hv9 hz9 hk9 => ⟨(), trivial, ⟨rfl, hP.kept (fun k q hk => hk9 _ ((hP k q hk).lt)), hD⟩, ⟨Nat.le_trans hS.1 hz9, fun q h1 h2 => (hk9 q (Nat.lt_of_lt_of_le h1 hS.1)).trans (hS.2.1 q h1 h2)⟩⟩) hS.2.2 (Nat.le_of_ble_eq_true rfl) (Nat.le_of_ble_eq_true rfl)
  · have z3 : (0 : Int) ≤ pa.toInt := nlt_z rfl (show (0 : Int32).toInt = (0 : Int) by decide) h1
    refine lv_iload_n hx hb dX11_run_4 rfl (lv_at hl 1 rfl) ?_
    refine lv_ldc (v := 50000) hx hb hown (ht _ tw_946) dX11_run_5 ?_
    refine lv_icmp_le (tgt := 20) hx hb dX11_run_7 (by decide) (fun h4 => ?_) (fun h4 => ?_)
    · have z5 : pa.toInt ≤ (50000 : Int) := le_z rfl (show (50000 : Int32).toInt = (50000 : Int) by decide) h4
      refine lv_aload_n hx hb dX11_run_20 rfl (lv_at hl 0 rfl) ?_
      refine va_get (D := (dC, dI)) (ci := 14) (fs := oF_X11 ad pr v) (v := .ref (ad 906)) (C := RX11) (T := TX11) (N := 12) hx hb ht itX11 hown hK hP 0 rfl rfl 9 (by decide) (ht _ tw_927) (fun _ h9 => h9) rfl dX11_run_21 ?_
      refine lv_iload_n hx hb dX11_run_24 rfl (lv_at hl 1 rfl) ?_
      refine cA_i (rn_Vk (n := 1) (As := [.int pa]) (rest := []) hx hb hml hown ht hKK hFx hP hD hS hA (c_x_X6_ticks l dC dI cI cB cZ cJ cR tb s.heap.size ad pr N L1 L2 v pa (show 0 ≤ (v.1 0 344).toInt ∧ (v.1 0 344).toInt ≤ 64 from (om_0522002ca7 z344)) (show (N : Int) ≤ 4096 from (om_1c2c49c46c zNN)) (show 0 ≤ (v.1 0 353).toInt ∧ (v.1 0 353).toInt + 50000 ≤ 200000000 from (om_d8cbe7618a zq)) (show pa.toInt ≤ 50000 from (om_e44f25446b z5))) tw_947 tw_948 (by decide +kernel) rfl rfl ⟨Nat.le_of_ble_eq_true rfl, Nat.le_of_ble_eq_true rfl⟩ (ixC (cW ad pr N cI cR L1 L2 v).length) (ixC_map _ _ _) (ixC_nd _) 6 rfl rfl rfl rfl hl.1 rfl (Nat.le_of_ble_eq_true rfl) dX11_run_25 ⟨Nat.le_of_ble_eq_true rfl, Nat.le_of_ble_eq_true rfl⟩) hP hD hS hA (fun r8 u7 H locs hw6 hP hD hS => ?_)
      obtain ⟨fr6, pq6, rs6⟩ := hw6
      refine W.widen (k := 0) (n := 0) (Nat.le_refl _) (Nat.le_refl _) ?_
      have hP := cP_ (pW_up fr6 (by decide)) hP
      have hD := cD_ (pW_up fr6 (by decide)) hD
      refine vx_ret ?_
      refine W.widen (k := 1) (n := 6) (Nat.le_of_ble_eq_true rfl) (Nat.le_of_ble_eq_true rfl) ?_
      exact W.iret (v := r8) hx hb hr (fun t ht9 hW => ⟨⟨r8, u7, rfl, ⟨(FC.tr (FC.rf _) (FC.up fr6 (by decide) (by decide))), (show (v.1 0 353).toInt ≤ (u7.1 0 353).toInt ∧ (u7.1 0 353).toInt ≤ (v.1 0 353).toInt + 50000 from (om_51857eed6e pq6)), (RS0.tr RS0.rf rs6)⟩, by rw [ht9]; exact hP, hD⟩, hS.F ht9⟩) hS.2.2 dX11_run_28
    · have z9 : (50000 : Int) < pa.toInt := nle_z rfl (show (50000 : Int32).toInt = (50000 : Int) by decide) h4
      refine vx_throwS (names := ["java/lang/RuntimeException", "java/lang/Exception"]) (A := A) hx hb hst hown (by decide +kernel) (by decide +kernel) (ht _ tw_944) (ht _ tw_945) (st_ hKK 15 (own := RX11) (idx := 170) (tx := "not 0 to 50,000 steps") (n := 15) rfl) (vx_hat (fun w h => ht w (xat_1 w h)) xat_1_n (vx_c (va_Nw.use rfl (hKK.2.2.2.2.2.1 _ (List.mem_of_getElem? (i := 1) rfl))) (vx_c (dcl_0 ht) (vx_c (dcl_1 ht) (vx_c (dcl_2 ht) vx_n))))) xat_1_o hFx.2.2.2.2.1 hFx.2.2.2.2.2.1 hS (by rw [hml]; exact hl.1) dX11_run_10 dX11_run_13 dX11_run_14 dX11_run_16 dX11_run_19 (fun x h9 => (hnt x h9).elim) (Nat.le_of_ble_eq_true rfl) (Nat.le_of_ble_eq_true rfl) (Nat.le_of_ble_eq_true rfl) (Nat.le_of_ble_eq_true rfl) hlocks (fun t9 hv9 hz9 hk9 => ⟨(), trivial, ⟨rfl, hP.kept (fun k q hk => hk9 _ ((hP k q hk).lt)), hD⟩, ⟨Nat.le_trans hS.1 hz9, fun q h1 h2 => (hk9 q (Nat.lt_of_lt_of_le h1 hS.1)).trans (hS.2.1 q h1 h2)⟩⟩) hS.2.2 (Nat.le_of_ble_eq_true rfl) (Nat.le_of_ble_eq_true rfl)
set_option maxHeartbeats 4000000 in
set_option maxRecDepth 100000 in
theorem c_x_X11_register (l : Launch) (dC : Nat → ClassId) (dI : Nat → Nat → Nat) (cI cB cZ cJ cR : ClassId) (tb : Nat → Nat) (sz : Nat) (ad : Nat → Nat) (pr : Int32 → Nat) (N : Nat) (L1 L2 : List Nat) (Z : va_W) (v : MS) (pa : Int32) (hst : l.stackTraces = false) : vx_Met l yX11_register (Cond.code yX11_register cX11_register 2 (some .int) :: tw_W) ({ frames := 6, cells := 1, slots := 6, locals := 82 }) (pc_ (dC, dI) (tyS cI cB cZ cJ cR) tb (pW ad pr N cI cR L1 L2 Z v) sz [.ref (ad 909), .int pa]) (qi_ (dC, dI) (pW ad pr N cI cR L1 L2 Z v) sz (fun (r : Int32) (u : MS) => v = u) (fun (u : MS) => (pW ad pr N cI cR L1 L2 Z u))) (qxp (dC, dI) (pW ad pr N cI cR L1 L2 Z v) sz (fun E => (E = "java/lang/IndexOutOfBoundsException"))) 1 6 (va_A (pW ad pr N cI cR L1 L2 Z v) sz) := by
  refine vx_ofW (cc := cX11_register) (maxL := 2) (ret := (some .int)) (by decide) rfl ?_
  intro p e s m args below meth c s₁ B hml hnt hv
  obtain ⟨rfl, hsz, hP, hKK, hD0, hFx⟩ := hv
  have hK := hKK.1
  have hx := B.exec
  have hb := B.bytes
  have hr := B.returns
  have ht : ∀ w ∈ tw_W, w.before _ s = true := fun w h => atoms_spec (ws := Cond.code yX11_register cX11_register 2 (some .int) :: tw_W) B.pre w (List.mem_cons_of_mem _ h)
  have hown : s.vm.findClass RX11 = some m.cls := findClass_of_methodNamed B.named
  have hlocks := B.notSynchronized
  subst hsz
  unfold qi_ qxp
  have hD := hD0.self (sz := s.heap.size)
  generalize hAe : va_A (pW ad pr N cI cR L1 L2 Z v) s.heap.size = A at hD hFx ⊢
  have hA : ∀ q : Nat, s.heap.size ≤ q → A q := fun q h => by rw [← hAe]; exact Or.inr h
  have hS : va_S A s.heap s.heap [] := va_S.rf
  have hl := lv_entry ([.ref (ad 909), .int pa]) (n := 2) (Nat.le_of_ble_eq_true rfl)
  rw [lg_entry_eq]
  generalize (lg_sl ([.ref (ad 909), .int pa]) ++ List.replicate (2 - (lg_sl ([.ref (ad 909), .int pa])).length) Slot.unset).toArray = ls at hl ⊢
  have hl : lv_has ls 2 [(0, .ref (ad 909)), (1, .int pa)] := hl
  refine lv_iload_n hx hb dX11_register_0 rfl (lv_at hl 1 rfl) ?_
  refine lv_if_lt (tgt := 10) hx hb dX11_register_1 (by decide) (fun h1 => ?_) (fun h1 => ?_)
  · have z2 : pa.toInt < (0 : Int) := lt_z rfl (show (0 : Int32).toInt = (0 : Int) by decide) h1
    refine vx_throwS (names := ["java/lang/RuntimeException", "java/lang/Exception"]) (A := A) hx hb hst hown (by decide +kernel) (by decide +kernel) (ht _ tw_942) (ht _ tw_943) (st_ hKK 16 (own := RX11) (idx := 178) (tx := "no such register") (n := 16) rfl) (vx_hat (fun w h => ht w (xat_0 w h)) xat_0_n (vx_c (va_Nw.use rfl (hKK.2.2.2.2.2.1 _ (List.mem_of_getElem? (i := 0) rfl))) (vx_c (dcl_0 ht) (vx_c (dcl_1 ht) (vx_c (dcl_2 ht) vx_n))))) xat_0_o hFx.2.2.2.2.1 hFx.2.2.2.2.2.1 hS (by rw [hml]; exact hl.1) dX11_register_10 dX11_register_13 dX11_register_14 dX11_register_16 dX11_register_19 (fun x h9 => (hnt x h9).elim) (Nat.le_of_ble_eq_true rfl) (Nat.le_of_ble_eq_true rfl) (Nat.le_of_ble_eq_true rfl) (Nat.le_of_ble_eq_true rfl) hlocks (fun t9 hv9 hz9 hk9 => ⟨(), trivial, ⟨rfl, hP.kept (fun k q hk => hk9 _ ((hP k q hk).lt)), hD⟩, ⟨Nat.le_trans hS.1 hz9, fun q h1 h2 => (hk9 q (Nat.lt_of_lt_of_le h1 hS.1)).trans (hS.2.1 q h1 h2)⟩⟩) hS.2.2 (Nat.le_of_ble_eq_true rfl) (Nat.le_of_ble_eq_true rfl)
  · have z3 : (0 : Int) ≤ pa.toInt := nlt_z rfl (show (0 : Int32).toInt = (0 : Int) by decide) h1
    refine lv_iload_n hx hb dX11_register_4 rfl (lv_at hl 1 rfl) ?_
    refine lv_bipush (v := 32) hx hb dX11_register_5 (by decide) ?_
    refine lv_icmp_le (tgt := 20) hx hb dX11_register_7 (by decide) (fun h4 => ?_) (fun h4 => ?_)
    · have z5 : pa.toInt ≤ (32 : Int) := le_z rfl (show (32 : Int32).toInt = (32 : Int) by decide) h4
      refine lv_iload_n hx hb dX11_register_20 rfl (lv_at hl 1 rfl) ?_
      refine lv_bipush (v := 32) hx hb dX11_register_21 (by decide) ?_
      refine lv_icmp_ne (tgt := 36) hx hb dX11_register_23 (by decide) (fun h6 => ?_) (fun h6 => ?_)
      · have z7 : pa.toInt ≠ (32 : Int) := ne_z rfl (show (32 : Int32).toInt = (32 : Int) by decide) h6
        refine lv_aload_n hx hb dX11_register_36 rfl (lv_at hl 0 rfl) ?_
        refine va_get (D := (dC, dI)) (ci := 14) (fs := oF_X11 ad pr v) (v := .ref (ad 906)) (C := RX11) (T := TX11) (N := 12) hx hb ht itX11 hown hK hP 0 rfl rfl 9 (by decide) (ht _ tw_927) (fun _ h9 => h9) rfl dX11_register_37 ?_
        refine lv_iload_n hx hb dX11_register_40 rfl (lv_at hl 1 rfl) ?_
        refine cA_i (rn_Vk (n := 1) (As := [.int pa]) (rest := []) hx hb hml hown ht hKK hFx hP hD hS hA (c_x_X6_valueOf l dC dI cI cB cZ cJ cR tb s.heap.size ad pr N L1 L2 v pa ) tw_798 tw_928 (by decide +kernel) rfl rfl ⟨Nat.le_of_ble_eq_true rfl, Nat.le_of_ble_eq_true rfl⟩ (ixC (cW ad pr N cI cR L1 L2 v).length) (ixC_map _ _ _) (ixC_nd _) 6 rfl rfl rfl rfl hl.1 rfl (Nat.le_of_ble_eq_true rfl) dX11_register_41 ⟨Nat.le_of_ble_eq_true rfl, Nat.le_of_ble_eq_true rfl⟩) hP hD hS hA (fun r11 u10 H locs hw8 hP hD hS => ?_)
        obtain rfl := hw8
        refine W.widen (k := 0) (n := 0) (Nat.le_refl _) (Nat.le_refl _) ?_
        have hP : va_P (dC, dI) vwCl (pW ad pr N cI cR L1 L2 Z v) H := hP
        have hD : va_D A (pW ad pr N cI cR L1 L2 Z v) := hD
        refine vx_ret ?_
        refine W.widen (k := 1) (n := 6) (Nat.le_of_ble_eq_true rfl) (Nat.le_of_ble_eq_true rfl) ?_
        exact W.iret (v := r11) hx hb hr (fun t ht9 hW => ⟨⟨r11, v, rfl, rfl, by rw [ht9]; exact hP, hD⟩, hS.F ht9⟩) hS.2.2 dX11_register_44
      · have z12 : pa.toInt = (32 : Int) := eq_z rfl (show (32 : Int32).toInt = (32 : Int) by decide) h6
        refine lv_aload_n hx hb dX11_register_26 rfl (lv_at hl 0 rfl) ?_
        refine va_get (D := (dC, dI)) (ci := 14) (fs := oF_X11 ad pr v) (v := .ref (ad 906)) (C := RX11) (T := TX11) (N := 12) hx hb ht itX11 hown hK hP 0 rfl rfl 9 (by decide) (ht _ tw_927) (fun _ h9 => h9) rfl dX11_register_27 ?_
        refine va_getN (D := (dC, dI)) (ci := 9) (fs := oF_X6 ad pr v) (v := .int (v.1 0 348)) (C := RX6) (T := TX6) (N := 9) hx hb ht itX6 hown hK hP 7 rfl rfl 2 (by decide) (hKK.fl2 9 rfl) (fun _ h9 => h9) rfl dX11_register_30 ?_
        refine lv_goto (tgt := 44) hx hb dX11_register_33 (by decide) ?_
        refine vx_ret ?_
        refine W.widen (k := 1) (n := 6) (Nat.le_of_ble_eq_true rfl) (Nat.le_of_ble_eq_true rfl) ?_
        exact W.iret (v := (v.1 0 348)) hx hb hr (fun t ht9 hW => ⟨⟨(v.1 0 348), v, rfl, rfl, by rw [ht9]; exact hP, hD⟩, hS.F ht9⟩) hS.2.2 dX11_register_44
    · have z13 : (32 : Int) < pa.toInt := nle_z rfl (show (32 : Int32).toInt = (32 : Int) by decide) h4
      refine vx_throwS (names := ["java/lang/RuntimeException", "java/lang/Exception"]) (A := A) hx hb hst hown (by decide +kernel) (by decide +kernel) (ht _ tw_942) (ht _ tw_943) (st_ hKK 16 (own := RX11) (idx := 178) (tx := "no such register") (n := 16) rfl) (vx_hat (fun w h => ht w (xat_0 w h)) xat_0_n (vx_c (va_Nw.use rfl (hKK.2.2.2.2.2.1 _ (List.mem_of_getElem? (i := 0) rfl))) (vx_c (dcl_0 ht) (vx_c (dcl_1 ht) (vx_c (dcl_2 ht) vx_n))))) xat_0_o hFx.2.2.2.2.1 hFx.2.2.2.2.2.1 hS (by rw [hml]; exact hl.1) dX11_register_10 dX11_register_13 dX11_register_14 dX11_register_16 dX11_register_19 (fun x h9 => (hnt x h9).elim) (Nat.le_of_ble_eq_true rfl) (Nat.le_of_ble_eq_true rfl) (Nat.le_of_ble_eq_true rfl) (Nat.le_of_ble_eq_true rfl) hlocks (fun t9 hv9 hz9 hk9 => ⟨(), trivial, ⟨rfl, hP.kept (fun k q hk => hk9 _ ((hP k q hk).lt)), hD⟩, ⟨Nat.le_trans hS.1 hz9, fun q h1 h2 => (hk9 q (Nat.lt_of_lt_of_le h1 hS.1)).trans (hS.2.1 q h1 h2)⟩⟩) hS.2.2 (Nat.le_of_ble_eq_true rfl) (Nat.le_of_ble_eq_true rfl)
theorem om_2a662856d5 {x0 : Int} (h0 : x0 < (0 : Int)) : x0 < 0 ∨ 32 < x0 := by omega
theorem om_5ed6af66a9 {x0 : Int} (h0 : (0 : Int) ≤ x0) (h1 : x0 ≤ (32 : Int)) : 0 ≤ x0 ∧ x0 ≤ 32 := by omega
theorem om_3e1c0a476d {x0 : Int} (h0 : (32 : Int) < x0) : x0 < 0 ∨ 32 < x0 := by omega
set_option maxHeartbeats 4000000 in
set_option maxRecDepth 100000 in
theorem c_x_X11_set (l : Launch) (dC : Nat → ClassId) (dI : Nat → Nat → Nat) (cI cB cZ cJ cR : ClassId) (tb : Nat → Nat) (sz : Nat) (ad : Nat → Nat) (pr : Int32 → Nat) (N : Nat) (L1 L2 : List Nat) (Z : va_W) (v : MS) (pa : Int32) (pb : Int32) (hst : l.stackTraces = false) : vx_Met l yX11_set (Cond.code yX11_set cX11_set 3 none :: tw_W) ({ frames := 6, cells := 1, slots := 6, locals := 82 }) (pc_ (dC, dI) (tyS cI cB cZ cJ cR) tb (pW ad pr N cI cR L1 L2 Z v) sz [.ref (ad 909), .int pa, .int pb]) (qv_ (dC, dI) (pW ad pr N cI cR L1 L2 Z v) sz (fun (u : MS) => FC [348, 350] [0, 347] v u ∧ (0 ≤ pa.toInt ∧ pa.toInt ≤ 32) ∧ (RS0 v u)) (fun (u : MS) => (pW ad pr N cI cR L1 L2 Z u))) (qxp (dC, dI) (pW ad pr N cI cR L1 L2 Z v) sz (fun E => (E = "java/lang/IndexOutOfBoundsException" ∧ (pa.toInt < 0 ∨ 32 < pa.toInt)))) 1 6 (va_A (pW ad pr N cI cR L1 L2 Z v) sz) := by
  refine vx_ofW (cc := cX11_set) (maxL := 3) (ret := none) (by decide) rfl ?_
  intro p e s m args below meth c s₁ B hml hnt hv
  obtain ⟨rfl, hsz, hP, hKK, hD0, hFx⟩ := hv
  have hK := hKK.1
  have hx := B.exec
  have hb := B.bytes
  have hr := B.returns
  have ht : ∀ w ∈ tw_W, w.before _ s = true := fun w h => atoms_spec (ws := Cond.code yX11_set cX11_set 3 none :: tw_W) B.pre w (List.mem_cons_of_mem _ h)
  have hown : s.vm.findClass RX11 = some m.cls := findClass_of_methodNamed B.named
  have hlocks := B.notSynchronized
  subst hsz
  unfold qv_ qxp
  have hD := hD0.self (sz := s.heap.size)
  generalize hAe : va_A (pW ad pr N cI cR L1 L2 Z v) s.heap.size = A at hD hFx ⊢
  have hA : ∀ q : Nat, s.heap.size ≤ q → A q := fun q h => by rw [← hAe]; exact Or.inr h
  have hS : va_S A s.heap s.heap [] := va_S.rf
  have hl := lv_entry ([.ref (ad 909), .int pa, .int pb]) (n := 3) (Nat.le_of_ble_eq_true rfl)
  rw [lg_entry_eq]
  generalize (lg_sl ([.ref (ad 909), .int pa, .int pb]) ++ List.replicate (3 - (lg_sl ([.ref (ad 909), .int pa, .int pb])).length) Slot.unset).toArray = ls at hl ⊢
  have hl : lv_has ls 3 [(0, .ref (ad 909)), (1, .int pa), (2, .int pb)] := hl
  refine lv_iload_n hx hb dX11_set_0 rfl (lv_at hl 1 rfl) ?_
  refine lv_if_lt (tgt := 10) hx hb dX11_set_1 (by decide) (fun h1 => ?_) (fun h1 => ?_)
  · have z2 : pa.toInt < (0 : Int) := lt_z rfl (show (0 : Int32).toInt = (0 : Int) by decide) h1
    refine vx_throwS (names := ["java/lang/RuntimeException", "java/lang/Exception"]) (A := A) hx hb hst hown (by decide +kernel) (by decide +kernel) (ht _ tw_942) (ht _ tw_943) (st_ hKK 16 (own := RX11) (idx := 178) (tx := "no such register") (n := 16) rfl) (vx_hat (fun w h => ht w (xat_0 w h)) xat_0_n (vx_c (va_Nw.use rfl (hKK.2.2.2.2.2.1 _ (List.mem_of_getElem? (i := 0) rfl))) (vx_c (dcl_0 ht) (vx_c (dcl_1 ht) (vx_c (dcl_2 ht) vx_n))))) xat_0_o hFx.2.2.2.2.1 hFx.2.2.2.2.2.1 hS (by rw [hml]; exact hl.1) dX11_set_10 dX11_set_13 dX11_set_14 dX11_set_16 dX11_set_19 (fun x h9 => (hnt x h9).elim) (Nat.le_of_ble_eq_true rfl) (Nat.le_of_ble_eq_true rfl) (Nat.le_of_ble_eq_true rfl) (Nat.le_of_ble_eq_true rfl) hlocks (fun t9 hv9 hz9 hk9 => ⟨(), trivial, ⟨⟨rfl, (om_2a662856d5 z2)⟩, hP.kept (fun k q hk => hk9 _ ((hP k q hk).lt)), hD⟩, ⟨Nat.le_trans hS.1 hz9, fun q h1 h2 => (hk9 q (Nat.lt_of_lt_of_le h1 hS.1)).trans (hS.2.1 q h1 h2)⟩⟩) hS.2.2 (Nat.le_of_ble_eq_true rfl) (Nat.le_of_ble_eq_true rfl)
  · have z3 : (0 : Int) ≤ pa.toInt := nlt_z rfl (show (0 : Int32).toInt = (0 : Int) by decide) h1
    refine lv_iload_n hx hb dX11_set_4 rfl (lv_at hl 1 rfl) ?_
    refine lv_bipush (v := 32) hx hb dX11_set_5 (by decide) ?_
    refine lv_icmp_le (tgt := 20) hx hb dX11_set_7 (by decide) (fun h4 => ?_) (fun h4 => ?_)
    · have z5 : pa.toInt ≤ (32 : Int) := le_z rfl (show (32 : Int32).toInt = (32 : Int) by decide) h4
      refine lv_aload_n hx hb dX11_set_20 rfl (lv_at hl 0 rfl) ?_
      refine va_get (D := (dC, dI)) (ci := 14) (fs := oF_X11 ad pr v) (v := .ref (ad 906)) (C := RX11) (T := TX11) (N := 12) hx hb ht itX11 hown hK hP 0 rfl rfl 9 (by decide) (ht _ tw_927) (fun _ h9 => h9) rfl dX11_set_21 ?_
      refine lv_iload_n hx hb dX11_set_24 rfl (lv_at hl 1 rfl) ?_
      refine lv_iload_n hx hb dX11_set_25 rfl (lv_at hl 2 rfl) ?_
      refine cA_v (rn_Vk (n := 2) (As := [.int pa, .int pb]) (rest := []) hx hb hml hown ht hKK hFx hP hD hS hA (c_x_X6_change l dC dI cI cB cZ cJ cR tb s.heap.size ad pr N L1 L2 v pa pb ) tw_949 tw_950 (by decide +kernel) rfl rfl ⟨Nat.le_of_ble_eq_true rfl, Nat.le_of_ble_eq_true rfl⟩ (ixC (cW ad pr N cI cR L1 L2 v).length) (ixC_map _ _ _) (ixC_nd _) 6 rfl rfl rfl rfl hl.1 rfl (Nat.le_of_ble_eq_true rfl) dX11_set_26 ⟨Nat.le_of_ble_eq_true rfl, Nat.le_of_ble_eq_true rfl⟩) hP hD hS hA (fun u7 H locs hw6 hP hD hS => ?_)
      obtain ⟨fr6, rs6⟩ := hw6
      refine W.widen (k := 0) (n := 0) (Nat.le_refl _) (Nat.le_refl _) ?_
      have hP := cP_ (pW_up fr6 (by decide)) hP
      have hD := cD_ (pW_up fr6 (by decide)) hD
      refine vx_ret ?_
      refine W.widen (k := 1) (n := 6) (Nat.le_of_ble_eq_true rfl) (Nat.le_of_ble_eq_true rfl) ?_
      exact W.vret hx hb hr (fun t ht9 hW => ⟨⟨u7, rfl, ⟨(FC.tr (FC.rf _) (FC.up fr6 (by decide) (by decide))), (show 0 ≤ pa.toInt ∧ pa.toInt ≤ 32 from (om_5ed6af66a9 z3 z5)), (RS0.tr RS0.rf rs6)⟩, by rw [ht9]; exact hP, hD⟩, hS.F ht9⟩) hS.2.2 dX11_set_29
    · have z9 : (32 : Int) < pa.toInt := nle_z rfl (show (32 : Int32).toInt = (32 : Int) by decide) h4
      refine vx_throwS (names := ["java/lang/RuntimeException", "java/lang/Exception"]) (A := A) hx hb hst hown (by decide +kernel) (by decide +kernel) (ht _ tw_942) (ht _ tw_943) (st_ hKK 16 (own := RX11) (idx := 178) (tx := "no such register") (n := 16) rfl) (vx_hat (fun w h => ht w (xat_0 w h)) xat_0_n (vx_c (va_Nw.use rfl (hKK.2.2.2.2.2.1 _ (List.mem_of_getElem? (i := 0) rfl))) (vx_c (dcl_0 ht) (vx_c (dcl_1 ht) (vx_c (dcl_2 ht) vx_n))))) xat_0_o hFx.2.2.2.2.1 hFx.2.2.2.2.2.1 hS (by rw [hml]; exact hl.1) dX11_set_10 dX11_set_13 dX11_set_14 dX11_set_16 dX11_set_19 (fun x h9 => (hnt x h9).elim) (Nat.le_of_ble_eq_true rfl) (Nat.le_of_ble_eq_true rfl) (Nat.le_of_ble_eq_true rfl) (Nat.le_of_ble_eq_true rfl) hlocks (fun t9 hv9 hz9 hk9 => ⟨(), trivial, ⟨⟨rfl, (om_3e1c0a476d z9)⟩, hP.kept (fun k q hk => hk9 _ ((hP k q hk).lt)), hD⟩, ⟨Nat.le_trans hS.1 hz9, fun q h1 h2 => (hk9 q (Nat.lt_of_lt_of_le h1 hS.1)).trans (hS.2.1 q h1 h2)⟩⟩) hS.2.2 (Nat.le_of_ble_eq_true rfl) (Nat.le_of_ble_eq_true rfl)
theorem om_297279cdd9 {x0 x1 x2 : Int} {n3 : Nat} (h0 : x0 = (0 : Int)) (h1 : (0 ≤ x1 ∧ x1 ≤ 1)) (h2 : ((x1 = 1 ∧ (x0 = 0 ∧ x2 < (n3 : Int))) ∨ (x1 = 0 ∧ (x0 ≠ 0 ∨ (n3 : Int) ≤ x2)))) (h3 : x1 ≠ (0 : Int)) : (x0 = 0 ∧ x2 < (n3 : Int)) := by omega
theorem om_b2baeb7b7e {x0 x1 x2 : Int} {n3 : Nat} (h0 : x0 = (0 : Int)) (h1 : ((x1 = 1 ∧ (x0 = 0 ∧ x2 < (n3 : Int))) ∨ (x1 = 0 ∧ (x0 ≠ 0 ∨ (n3 : Int) ≤ x2)))) (h2 : x1 = (0 : Int)) : x0 = 0 ∧ (n3 : Int) ≤ x2 := by omega
set_option maxHeartbeats 4000000 in
set_option maxRecDepth 100000 in
theorem c_x_X11_checkAddress (l : Launch) (dC : Nat → ClassId) (dI : Nat → Nat → Nat) (cI cB cZ cJ cR : ClassId) (tb : Nat → Nat) (sz : Nat) (ad : Nat → Nat) (pr : Int32 → Nat) (N : Nat) (L1 L2 : List Nat) (Z : va_W) (v : MS) (pa : Int32) (zNN : (N : Int) ≤ 4096) (hst : l.stackTraces = false) : vx_Met l yX11_checkAddress (Cond.code yX11_checkAddress cX11_checkAddress 2 none :: tw_W) ({ frames := 6, cells := 1, slots := 6, locals := 82 }) (pc_ (dC, dI) (tyS cI cB cZ cJ cR) tb (pW ad pr N cI cR L1 L2 Z v) sz [.ref (ad 909), .int pa]) (qv_ (dC, dI) (pW ad pr N cI cR L1 L2 Z v) sz (fun (u : MS) => v = u ∧ ((pa &&& (3 : Int32)).toInt = 0 ∧ ((pa.toUInt32 >>> ((2 : Int32).toUInt32 &&& Int32.toUInt32 31)).toInt32).toInt < (N : Int))) (fun (u : MS) => (pW ad pr N cI cR L1 L2 Z u))) (qxp (dC, dI) (pW ad pr N cI cR L1 L2 Z v) sz (fun E => (E = "java/lang/IllegalArgumentException" ∧ ((pa &&& (3 : Int32)).toInt ≠ 0)) ∨ (E = "java/lang/IndexOutOfBoundsException" ∧ ((pa &&& (3 : Int32)).toInt = 0 ∧ (N : Int) ≤ ((pa.toUInt32 >>> ((2 : Int32).toUInt32 &&& Int32.toUInt32 31)).toInt32).toInt)))) 1 6 (va_A (pW ad pr N cI cR L1 L2 Z v) sz) := by
  refine vx_ofW (cc := cX11_checkAddress) (maxL := 2) (ret := none) (by decide) rfl ?_
  intro p e s m args below meth c s₁ B hml hnt hv
  obtain ⟨rfl, hsz, hP, hKK, hD0, hFx⟩ := hv
  have hK := hKK.1
  have hx := B.exec
  have hb := B.bytes
  have hr := B.returns
  have ht : ∀ w ∈ tw_W, w.before _ s = true := fun w h => atoms_spec (ws := Cond.code yX11_checkAddress cX11_checkAddress 2 none :: tw_W) B.pre w (List.mem_cons_of_mem _ h)
  have hown : s.vm.findClass RX11 = some m.cls := findClass_of_methodNamed B.named
  have hlocks := B.notSynchronized
  subst hsz
  unfold qv_ qxp
  have hD := hD0.self (sz := s.heap.size)
  generalize hAe : va_A (pW ad pr N cI cR L1 L2 Z v) s.heap.size = A at hD hFx ⊢
  have hA : ∀ q : Nat, s.heap.size ≤ q → A q := fun q h => by rw [← hAe]; exact Or.inr h
  have hS : va_S A s.heap s.heap [] := va_S.rf
  have hl := lv_entry ([.ref (ad 909), .int pa]) (n := 2) (Nat.le_of_ble_eq_true rfl)
  rw [lg_entry_eq]
  generalize (lg_sl ([.ref (ad 909), .int pa]) ++ List.replicate (2 - (lg_sl ([.ref (ad 909), .int pa])).length) Slot.unset).toArray = ls at hl ⊢
  have hl : lv_has ls 2 [(0, .ref (ad 909)), (1, .int pa)] := hl
  refine lv_iload_n hx hb dX11_checkAddress_0 rfl (lv_at hl 1 rfl) ?_
  refine lv_iconst (v := 3) hx hb dX11_checkAddress_1 (by decide) ?_
  refine lv_iand hx hb dX11_checkAddress_2 ?_
  refine lv_if_eq (tgt := 16) hx hb dX11_checkAddress_3 (by decide) (fun h1 => ?_) (fun h1 => ?_)
  · have z2 : (pa &&& (3 : Int32)).toInt = (0 : Int) := eq_z rfl (show (0 : Int32).toInt = (0 : Int) by decide) h1
    refine lv_aload_n hx hb dX11_checkAddress_16 rfl (lv_at hl 0 rfl) ?_
    refine va_get (D := (dC, dI)) (ci := 14) (fs := oF_X11 ad pr v) (v := .ref (ad 906)) (C := RX11) (T := TX11) (N := 12) hx hb ht itX11 hown hK hP 0 rfl rfl 9 (by decide) (ht _ tw_927) (fun _ h9 => h9) rfl dX11_checkAddress_17 ?_
    refine lv_iload_n hx hb dX11_checkAddress_20 rfl (lv_at hl 1 rfl) ?_
    refine cA_i (rn_Vk (n := 1) (As := [.int pa]) (rest := []) hx hb hml hown ht hKK hFx hP hD hS hA (c_x_X6_hasWord l dC dI cI cB cZ cJ cR tb s.heap.size ad pr N L1 L2 v pa (show (N : Int) ≤ 4096 from (om_1c2c49c46c zNN))) tw_784 tw_951 (by decide +kernel) rfl rfl ⟨Nat.le_of_ble_eq_true rfl, Nat.le_of_ble_eq_true rfl⟩ (ixC (cW ad pr N cI cR L1 L2 v).length) (ixC_map _ _ _) (ixC_nd _) 6 rfl rfl rfl rfl hl.1 rfl (Nat.le_of_ble_eq_true rfl) dX11_checkAddress_21 ⟨Nat.le_of_ble_eq_true rfl, Nat.le_of_ble_eq_true rfl⟩) hP hD hS hA (fun r5 u4 H locs hw3 hP hD hS => ?_)
    obtain ⟨rfl, b3, e3, c3⟩ := hw3
    refine W.widen (k := 0) (n := 0) (Nat.le_refl _) (Nat.le_refl _) ?_
    have hP : va_P (dC, dI) vwCl (pW ad pr N cI cR L1 L2 Z v) H := hP
    have hD : va_D A (pW ad pr N cI cR L1 L2 Z v) := hD
    refine lv_if_ne (tgt := 37) hx hb dX11_checkAddress_24 (by decide) (fun h6 => ?_) (fun h6 => ?_)
    · have z7 : r5.toInt ≠ (0 : Int) := ne_z rfl (show (0 : Int32).toInt = (0 : Int) by decide) h6
      refine vx_ret ?_
      refine W.widen (k := 1) (n := 6) (Nat.le_of_ble_eq_true rfl) (Nat.le_of_ble_eq_true rfl) ?_
      exact W.vret hx hb hr (fun t ht9 hW => ⟨⟨v, rfl, ⟨rfl, (om_297279cdd9 z2 e3 c3 z7)⟩, by rw [ht9]; exact hP, hD⟩, hS.F ht9⟩) hS.2.2 dX11_checkAddress_37
    · have z8 : r5.toInt = (0 : Int) := eq_z rfl (show (0 : Int32).toInt = (0 : Int) by decide) h6
      refine vx_throwS (names := ["java/lang/RuntimeException", "java/lang/Exception"]) (A := A) hx hb hst hown (by decide +kernel) (by decide +kernel) (ht _ tw_942) (ht _ tw_943) (st_ hKK 18 (own := RX11) (idx := 200) (tx := "not in the memory") (n := 18) rfl) (vx_hat (fun w h => ht w (xat_0 w h)) xat_0_n (vx_c (va_Nw.use rfl (hKK.2.2.2.2.2.1 _ (List.mem_of_getElem? (i := 0) rfl))) (vx_c (dcl_0 ht) (vx_c (dcl_1 ht) (vx_c (dcl_2 ht) vx_n))))) xat_0_o hFx.2.2.2.2.1 hFx.2.2.2.2.2.1 hS (by rw [hml]; exact hl.1) dX11_checkAddress_27 dX11_checkAddress_30 dX11_checkAddress_31 dX11_checkAddress_33 dX11_checkAddress_36 (fun x h9 => (hnt x h9).elim) (Nat.le_of_ble_eq_true rfl) (Nat.le_of_ble_eq_true rfl) (Nat.le_of_ble_eq_true rfl) (Nat.le_of_ble_eq_true rfl) hlocks (fun t9 hv9 hz9 hk9 => ⟨(), trivial, ⟨(Or.inr ⟨rfl, (om_b2baeb7b7e z2 c3 z8)⟩), hP.kept (fun k q hk => hk9 _ ((hP k q hk).lt)), hD⟩, ⟨Nat.le_trans hS.1 hz9, fun q h1 h2 => (hk9 q (Nat.lt_of_lt_of_le h1 hS.1)).trans (hS.2.1 q h1 h2)⟩⟩) hS.2.2 (Nat.le_of_ble_eq_true rfl) (Nat.le_of_ble_eq_true rfl)
  · have z9 : (pa &&& (3 : Int32)).toInt ≠ (0 : Int) := ne_z rfl (show (0 : Int32).toInt = (0 : Int) by decide) h1
    refine vx_throwS (names := ["java/lang/RuntimeException", "java/lang/Exception"]) (A := A) hx hb hst hown (by decide +kernel) (by decide +kernel) (ht _ tw_944) (ht _ tw_945) (st_ hKK 17 (own := RX11) (idx := 194) (tx := "no multiple of 4") (n := 17) rfl) (vx_hat (fun w h => ht w (xat_1 w h)) xat_1_n (vx_c (va_Nw.use rfl (hKK.2.2.2.2.2.1 _ (List.mem_of_getElem? (i := 1) rfl))) (vx_c (dcl_0 ht) (vx_c (dcl_1 ht) (vx_c (dcl_2 ht) vx_n))))) xat_1_o hFx.2.2.2.2.1 hFx.2.2.2.2.2.1 hS (by rw [hml]; exact hl.1) dX11_checkAddress_6 dX11_checkAddress_9 dX11_checkAddress_10 dX11_checkAddress_12 dX11_checkAddress_15 (fun x h9 => (hnt x h9).elim) (Nat.le_of_ble_eq_true rfl) (Nat.le_of_ble_eq_true rfl) (Nat.le_of_ble_eq_true rfl) (Nat.le_of_ble_eq_true rfl) hlocks (fun t9 hv9 hz9 hk9 => ⟨(), trivial, ⟨(Or.inl ⟨rfl, (om_cb2fc824e3 z9)⟩), hP.kept (fun k q hk => hk9 _ ((hP k q hk).lt)), hD⟩, ⟨Nat.le_trans hS.1 hz9, fun q h1 h2 => (hk9 q (Nat.lt_of_lt_of_le h1 hS.1)).trans (hS.2.1 q h1 h2)⟩⟩) hS.2.2 (Nat.le_of_ble_eq_true rfl) (Nat.le_of_ble_eq_true rfl)
set_option maxHeartbeats 4000000 in
set_option maxRecDepth 100000 in
theorem c_x_X11_word (l : Launch) (dC : Nat → ClassId) (dI : Nat → Nat → Nat) (cI cB cZ cJ cR : ClassId) (tb : Nat → Nat) (sz : Nat) (ad : Nat → Nat) (pr : Int32 → Nat) (N : Nat) (L1 L2 : List Nat) (Z : va_W) (v : MS) (pa : Int32) (zNN : (N : Int) ≤ 4096) (hst : l.stackTraces = false) : vx_Met l yX11_word (Cond.code yX11_word cX11_word 2 (some .int) :: tw_W) ({ frames := 7, cells := 1, slots := 6, locals := 103 }) (pc_ (dC, dI) (tyS cI cB cZ cJ cR) tb (pW ad pr N cI cR L1 L2 Z v) sz [.ref (ad 909), .int pa]) (qi_ (dC, dI) (pW ad pr N cI cR L1 L2 Z v) sz (fun (r : Int32) (u : MS) => v = u) (fun (u : MS) => (pW ad pr N cI cR L1 L2 Z u))) (qxp (dC, dI) (pW ad pr N cI cR L1 L2 Z v) sz (fun E => (E = "java/lang/IllegalArgumentException" ∧ ((pa &&& (3 : Int32)).toInt ≠ 0)) ∨ (E = "java/lang/IndexOutOfBoundsException" ∧ ((pa &&& (3 : Int32)).toInt = 0 ∧ (N : Int) ≤ ((pa.toUInt32 >>> ((2 : Int32).toUInt32 &&& Int32.toUInt32 31)).toInt32).toInt)))) 1 6 (va_A (pW ad pr N cI cR L1 L2 Z v) sz) := by
  refine vx_ofW (cc := cX11_word) (maxL := 2) (ret := (some .int)) (by decide) rfl ?_
  intro p e s m args below meth c s₁ B hml hnt hv
  obtain ⟨rfl, hsz, hP, hKK, hD0, hFx⟩ := hv
  have hK := hKK.1
  have hx := B.exec
  have hb := B.bytes
  have hr := B.returns
  have ht : ∀ w ∈ tw_W, w.before _ s = true := fun w h => atoms_spec (ws := Cond.code yX11_word cX11_word 2 (some .int) :: tw_W) B.pre w (List.mem_cons_of_mem _ h)
  have hown : s.vm.findClass RX11 = some m.cls := findClass_of_methodNamed B.named
  have hlocks := B.notSynchronized
  subst hsz
  unfold qi_ qxp
  have hD := hD0.self (sz := s.heap.size)
  generalize hAe : va_A (pW ad pr N cI cR L1 L2 Z v) s.heap.size = A at hD hFx ⊢
  have hA : ∀ q : Nat, s.heap.size ≤ q → A q := fun q h => by rw [← hAe]; exact Or.inr h
  have hS : va_S A s.heap s.heap [] := va_S.rf
  have hl := lv_entry ([.ref (ad 909), .int pa]) (n := 2) (Nat.le_of_ble_eq_true rfl)
  rw [lg_entry_eq]
  generalize (lg_sl ([.ref (ad 909), .int pa]) ++ List.replicate (2 - (lg_sl ([.ref (ad 909), .int pa])).length) Slot.unset).toArray = ls at hl ⊢
  have hl : lv_has ls 2 [(0, .ref (ad 909)), (1, .int pa)] := hl
  refine lv_aload_n hx hb dX11_word_0 rfl (lv_at hl 0 rfl) ?_
  refine lv_iload_n hx hb dX11_word_1 rfl (lv_at hl 1 rfl) ?_
  refine cpx_v (rx_Vk (n := 1) (As := [.int pa]) (rest := []) hx hb hml hown ht hKK hFx hP hD hS hA (c_x_X11_checkAddress l dC dI cI cB cZ cJ cR tb s.heap.size ad pr N L1 L2 Z v pa (show (N : Int) ≤ 4096 from (om_1c2c49c46c zNN)) (show l.stackTraces = false from hst)) tw_952 tw_953 (by decide +kernel) rfl rfl ⟨Nat.le_of_ble_eq_true rfl, Nat.le_of_ble_eq_true rfl⟩ (List.range (pW ad pr N cI cR L1 L2 Z v).length) (rg_map _) (nd_range _) 0 rfl rfl rfl rfl hl.1 rfl (Nat.le_of_ble_eq_true rfl) dX11_word_2 ⟨Nat.le_of_ble_eq_true rfl, Nat.le_of_ble_eq_true rfl⟩) hP hD hS hA (fun E9 ce9 q9 H locs hx9 hP hD hS hc9 hv9 hf9 => ?_) (fun u2 H locs hw1 hP hD hS => ?_)
  · exact vx_out (fun x h9 => (hnt x h9).elim) hlocks hc9 hv9 hf9 (fun t9 ht9 hv8 => ⟨(), trivial, ⟨hx9, by rw [ht9]; exact hP, hD⟩, hS.F ht9⟩) hS.2.2 (Nat.le_refl _) (Nat.le_refl _)
  refine W.widen (k := 1) (n := 6) (Nat.le_refl _) (Nat.le_refl _) ?_
  obtain ⟨rfl, c1⟩ := hw1
  refine lv_aload_n hx hb dX11_word_5 rfl (lv_at hl 0 rfl) ?_
  refine va_get (D := (dC, dI)) (ci := 14) (fs := oF_X11 ad pr v) (v := .ref (ad 906)) (C := RX11) (T := TX11) (N := 12) hx hb ht itX11 hown hK hP 0 rfl rfl 9 (by decide) (ht _ tw_927) (fun _ h9 => h9) rfl dX11_word_6 ?_
  refine lv_iload_n hx hb dX11_word_9 rfl (lv_at hl 1 rfl) ?_
  refine cA_i (rn_Vk (n := 1) (As := [.int pa]) (rest := []) hx hb hml hown ht hKK hFx hP hD hS hA (c_x_X6_wordAt l dC dI cI cB cZ cJ cR tb H.size ad pr N L1 L2 v pa (show (N : Int) ≤ 4096 from (om_1c2c49c46c zNN))) tw_793 tw_954 (by decide +kernel) rfl rfl ⟨Nat.le_of_ble_eq_true rfl, Nat.le_of_ble_eq_true rfl⟩ (ixC (cW ad pr N cI cR L1 L2 v).length) (ixC_map _ _ _) (ixC_nd _) 6 rfl rfl rfl rfl hl.1 rfl (Nat.le_of_ble_eq_true rfl) dX11_word_10 ⟨Nat.le_of_ble_eq_true rfl, Nat.le_of_ble_eq_true rfl⟩) hP hD hS hA (fun r6 u5 H locs hw4 hP hD hS => ?_)
  obtain rfl := hw4
  refine W.widen (k := 1) (n := 6) (Nat.le_refl _) (Nat.le_refl _) ?_
  have hP : va_P (dC, dI) vwCl (pW ad pr N cI cR L1 L2 Z v) H := hP
  have hD : va_D A (pW ad pr N cI cR L1 L2 Z v) := hD
  refine vx_ret ?_
  refine W.widen (k := 1) (n := 6) (Nat.le_of_ble_eq_true rfl) (Nat.le_of_ble_eq_true rfl) ?_
  exact W.iret (v := r6) hx hb hr (fun t ht9 hW => ⟨⟨r6, v, rfl, rfl, by rw [ht9]; exact hP, hD⟩, hS.F ht9⟩) hS.2.2 dX11_word_13
theorem om_deb512ee25 {x0 x1 : Int} {n2 : Nat} (h0 : (x0 = 0 ∧ x1 < (n2 : Int))) : x0 = 0 ∧ x1 < (n2 : Int) := by omega
set_option maxHeartbeats 4000000 in
set_option maxRecDepth 100000 in
theorem c_x_X11_poke (l : Launch) (dC : Nat → ClassId) (dI : Nat → Nat → Nat) (cI cB cZ cJ cR : ClassId) (tb : Nat → Nat) (sz : Nat) (ad : Nat → Nat) (pr : Int32 → Nat) (N : Nat) (L1 L2 : List Nat) (Z : va_W) (v : MS) (pa : Int32) (pb : Int32) (zNN : (N : Int) ≤ 4096) (hst : l.stackTraces = false) : vx_Met l yX11_poke (Cond.code yX11_poke cX11_poke 3 none :: tw_W) ({ frames := 7, cells := 1, slots := 6, locals := 103 }) (pc_ (dC, dI) (tyS cI cB cZ cJ cR) tb (pW ad pr N cI cR L1 L2 Z v) sz [.ref (ad 909), .int pa, .int pb]) (qv_ (dC, dI) (pW ad pr N cI cR L1 L2 Z v) sz (fun (u : MS) => FC [] [346] v u ∧ ((pa &&& (3 : Int32)).toInt = 0 ∧ ((pa.toUInt32 >>> ((2 : Int32).toUInt32 &&& Int32.toUInt32 31)).toInt32).toInt < (N : Int)) ∧ (RS0 v u)) (fun (u : MS) => (pW ad pr N cI cR L1 L2 Z u))) (qxp (dC, dI) (pW ad pr N cI cR L1 L2 Z v) sz (fun E => (E = "java/lang/IllegalArgumentException" ∧ ((pa &&& (3 : Int32)).toInt ≠ 0)) ∨ (E = "java/lang/IndexOutOfBoundsException" ∧ ((pa &&& (3 : Int32)).toInt = 0 ∧ (N : Int) ≤ ((pa.toUInt32 >>> ((2 : Int32).toUInt32 &&& Int32.toUInt32 31)).toInt32).toInt)))) 1 6 (va_A (pW ad pr N cI cR L1 L2 Z v) sz) := by
  refine vx_ofW (cc := cX11_poke) (maxL := 3) (ret := none) (by decide) rfl ?_
  intro p e s m args below meth c s₁ B hml hnt hv
  obtain ⟨rfl, hsz, hP, hKK, hD0, hFx⟩ := hv
  have hK := hKK.1
  have hx := B.exec
  have hb := B.bytes
  have hr := B.returns
  have ht : ∀ w ∈ tw_W, w.before _ s = true := fun w h => atoms_spec (ws := Cond.code yX11_poke cX11_poke 3 none :: tw_W) B.pre w (List.mem_cons_of_mem _ h)
  have hown : s.vm.findClass RX11 = some m.cls := findClass_of_methodNamed B.named
  have hlocks := B.notSynchronized
  subst hsz
  unfold qv_ qxp
  have hD := hD0.self (sz := s.heap.size)
  generalize hAe : va_A (pW ad pr N cI cR L1 L2 Z v) s.heap.size = A at hD hFx ⊢
  have hA : ∀ q : Nat, s.heap.size ≤ q → A q := fun q h => by rw [← hAe]; exact Or.inr h
  have hS : va_S A s.heap s.heap [] := va_S.rf
  have hl := lv_entry ([.ref (ad 909), .int pa, .int pb]) (n := 3) (Nat.le_of_ble_eq_true rfl)
  rw [lg_entry_eq]
  generalize (lg_sl ([.ref (ad 909), .int pa, .int pb]) ++ List.replicate (3 - (lg_sl ([.ref (ad 909), .int pa, .int pb])).length) Slot.unset).toArray = ls at hl ⊢
  have hl : lv_has ls 3 [(0, .ref (ad 909)), (1, .int pa), (2, .int pb)] := hl
  refine lv_aload_n hx hb dX11_poke_0 rfl (lv_at hl 0 rfl) ?_
  refine lv_iload_n hx hb dX11_poke_1 rfl (lv_at hl 1 rfl) ?_
  refine cpx_v (rx_Vk (n := 1) (As := [.int pa]) (rest := []) hx hb hml hown ht hKK hFx hP hD hS hA (c_x_X11_checkAddress l dC dI cI cB cZ cJ cR tb s.heap.size ad pr N L1 L2 Z v pa (show (N : Int) ≤ 4096 from (om_1c2c49c46c zNN)) (show l.stackTraces = false from hst)) tw_952 tw_953 (by decide +kernel) rfl rfl ⟨Nat.le_of_ble_eq_true rfl, Nat.le_of_ble_eq_true rfl⟩ (List.range (pW ad pr N cI cR L1 L2 Z v).length) (rg_map _) (nd_range _) 0 rfl rfl rfl rfl hl.1 rfl (Nat.le_of_ble_eq_true rfl) dX11_poke_2 ⟨Nat.le_of_ble_eq_true rfl, Nat.le_of_ble_eq_true rfl⟩) hP hD hS hA (fun E9 ce9 q9 H locs hx9 hP hD hS hc9 hv9 hf9 => ?_) (fun u2 H locs hw1 hP hD hS => ?_)
  · exact vx_out (fun x h9 => (hnt x h9).elim) hlocks hc9 hv9 hf9 (fun t9 ht9 hv8 => ⟨(), trivial, ⟨hx9, by rw [ht9]; exact hP, hD⟩, hS.F ht9⟩) hS.2.2 (Nat.le_refl _) (Nat.le_refl _)
  refine W.widen (k := 1) (n := 6) (Nat.le_refl _) (Nat.le_refl _) ?_
  obtain ⟨rfl, c1⟩ := hw1
  refine lv_aload_n hx hb dX11_poke_5 rfl (lv_at hl 0 rfl) ?_
  refine va_get (D := (dC, dI)) (ci := 14) (fs := oF_X11 ad pr v) (v := .ref (ad 906)) (C := RX11) (T := TX11) (N := 12) hx hb ht itX11 hown hK hP 0 rfl rfl 9 (by decide) (ht _ tw_927) (fun _ h9 => h9) rfl dX11_poke_6 ?_
  refine lv_iload_n hx hb dX11_poke_9 rfl (lv_at hl 1 rfl) ?_
  refine lv_iload_n hx hb dX11_poke_10 rfl (lv_at hl 2 rfl) ?_
  refine cA_v (rn_Vk (n := 2) (As := [.int pa, .int pb]) (rest := []) hx hb hml hown ht hKK hFx hP hD hS hA (c_x_X6_layWord l dC dI cI cB cZ cJ cR tb H.size ad pr N L1 L2 v pa pb (show (N : Int) ≤ 4096 from (om_1c2c49c46c zNN))) tw_796 tw_955 (by decide +kernel) rfl rfl ⟨Nat.le_of_ble_eq_true rfl, Nat.le_of_ble_eq_true rfl⟩ (ixC (cW ad pr N cI cR L1 L2 v).length) (ixC_map _ _ _) (ixC_nd _) 6 rfl rfl rfl rfl hl.1 rfl (Nat.le_of_ble_eq_true rfl) dX11_poke_11 ⟨Nat.le_of_ble_eq_true rfl, Nat.le_of_ble_eq_true rfl⟩) hP hD hS hA (fun u5 H locs hw4 hP hD hS => ?_)
  obtain ⟨fr4, rs4⟩ := hw4
  refine W.widen (k := 1) (n := 6) (Nat.le_refl _) (Nat.le_refl _) ?_
  have hP := cP_ (pW_up fr4 (by decide)) hP
  have hD := cD_ (pW_up fr4 (by decide)) hD
  refine vx_ret ?_
  refine W.widen (k := 1) (n := 6) (Nat.le_of_ble_eq_true rfl) (Nat.le_of_ble_eq_true rfl) ?_
  exact W.vret hx hb hr (fun t ht9 hW => ⟨⟨u5, rfl, ⟨(FC.tr (FC.rf _) (FC.up fr4 (by decide) (by decide))), (show (pa &&& (3 : Int32)).toInt = 0 ∧ ((pa.toUInt32 >>> ((2 : Int32).toUInt32 &&& Int32.toUInt32 31)).toInt32).toInt < (N : Int) from (om_deb512ee25 c1)), (RS0.tr RS0.rf rs4)⟩, by rw [ht9]; exact hP, hD⟩, hS.F ht9⟩) hS.2.2 dX11_poke_14
set_option maxHeartbeats 4000000 in
set_option maxRecDepth 100000 in
theorem c_x_X11_put (l : Launch) (dC : Nat → ClassId) (dI : Nat → Nat → Nat) (cI cB cZ cJ cR : ClassId) (tb : Nat → Nat) (sz : Nat) (ad : Nat → Nat) (pr : Int32 → Nat) (N : Nat) (L1 L2 : List Nat) (Z : va_W) (v : MS) (pa : Int32) (hst : l.stackTraces = false) : vx_Met l yX11_put (Cond.code yX11_put cX11_put 2 (some .int) :: tw_W) ({ frames := 6, cells := 1, slots := 6, locals := 82 }) (pc_ (dC, dI) (tyS cI cB cZ cJ cR) tb (pW ad pr N cI cR L1 L2 Z v) sz [.ref (ad 909), .int pa]) (qi_ (dC, dI) (pW ad pr N cI cR L1 L2 Z v) sz (fun (r : Int32) (u : MS) => v = u) (fun (u : MS) => (pW ad pr N cI cR L1 L2 Z u))) (qxp (dC, dI) (pW ad pr N cI cR L1 L2 Z v) sz (fun E => (E = "java/util/NoSuchElementException"))) 1 6 (va_A (pW ad pr N cI cR L1 L2 Z v) sz) := by
  refine vx_ofW (cc := cX11_put) (maxL := 2) (ret := (some .int)) (by decide) rfl ?_
  intro p e s m args below meth c s₁ B hml hnt hv
  obtain ⟨rfl, hsz, hP, hKK, hD0, hFx⟩ := hv
  have hK := hKK.1
  have hx := B.exec
  have hb := B.bytes
  have hr := B.returns
  have ht : ∀ w ∈ tw_W, w.before _ s = true := fun w h => atoms_spec (ws := Cond.code yX11_put cX11_put 2 (some .int) :: tw_W) B.pre w (List.mem_cons_of_mem _ h)
  have hown : s.vm.findClass RX11 = some m.cls := findClass_of_methodNamed B.named
  have hlocks := B.notSynchronized
  subst hsz
  unfold qi_ qxp
  have hD := hD0.self (sz := s.heap.size)
  generalize hAe : va_A (pW ad pr N cI cR L1 L2 Z v) s.heap.size = A at hD hFx ⊢
  have hA : ∀ q : Nat, s.heap.size ≤ q → A q := fun q h => by rw [← hAe]; exact Or.inr h
  have hS : va_S A s.heap s.heap [] := va_S.rf
  have hl := lv_entry ([.ref (ad 909), .int pa]) (n := 2) (Nat.le_of_ble_eq_true rfl)
  rw [lg_entry_eq]
  generalize (lg_sl ([.ref (ad 909), .int pa]) ++ List.replicate (2 - (lg_sl ([.ref (ad 909), .int pa])).length) Slot.unset).toArray = ls at hl ⊢
  have hl : lv_has ls 2 [(0, .ref (ad 909)), (1, .int pa)] := hl
  refine lv_iload_n hx hb dX11_put_0 rfl (lv_at hl 1 rfl) ?_
  refine lv_if_lt (tgt := 22) hx hb dX11_put_1 (by decide) (fun h1 => ?_) (fun h1 => ?_)
  · have z2 : pa.toInt < (0 : Int) := lt_z rfl (show (0 : Int32).toInt = (0 : Int) by decide) h1
    refine nx_throwS (Y := "java/lang/RuntimeException") (r := ["java/lang/Exception"]) (A := A) hx hb hst nx_0 nx_1 nx_2 nx_5 hown (by decide +kernel) (by decide +kernel) (ht _ tw_956) (ht _ tw_957) (st_ hKK 19 (own := RX11) (idx := 207) (tx := "no such number, or not kept") (n := 19) rfl) (vx_hat (fun w h => ht w (xat_2 w h)) xat_2_n (vx_c (va_Nw.use rfl (hKK.2.2.2.2.2.1 _ (List.mem_of_getElem? (i := 2) rfl))) (vx_c (dcl_0 ht) (vx_c (dcl_1 ht) (vx_c (dcl_2 ht) vx_n))))) xat_2_o hFx.2.2.2.2.1 hFx.2.2.2.2.2.1 hS (by rw [hml]; exact hl.1) dX11_put_22 dX11_put_25 dX11_put_26 dX11_put_28 dX11_put_31 (fun x h9 => (hnt x h9).elim) (Nat.le_of_ble_eq_true rfl) (Nat.le_of_ble_eq_true rfl) (Nat.le_of_ble_eq_true rfl) (Nat.le_of_ble_eq_true rfl) hlocks (fun t9 hv9 hz9 hk9 => ⟨(), trivial, ⟨rfl, hP.kept (fun k q hk => hk9 _ ((hP k q hk).lt)), hD⟩, ⟨Nat.le_trans hS.1 hz9, fun q h1 h2 => (hk9 q (Nat.lt_of_lt_of_le h1 hS.1)).trans (hS.2.1 q h1 h2)⟩⟩) hS.2.2 (Nat.le_of_ble_eq_true rfl) (Nat.le_of_ble_eq_true rfl)
  · have z3 : (0 : Int) ≤ pa.toInt := nlt_z rfl (show (0 : Int32).toInt = (0 : Int) by decide) h1
    refine lv_iload_n hx hb dX11_put_4 rfl (lv_at hl 1 rfl) ?_
    refine lv_aload_n hx hb dX11_put_5 rfl (lv_at hl 0 rfl) ?_
    refine va_get (D := (dC, dI)) (ci := 14) (fs := oF_X11 ad pr v) (v := .ref (ad 906)) (C := RX11) (T := TX11) (N := 12) hx hb ht itX11 hown hK hP 0 rfl rfl 9 (by decide) (ht _ tw_927) (fun _ h9 => h9) rfl dX11_put_6 ?_
    refine va_getN (D := (dC, dI)) (ci := 9) (fs := oF_X6 ad pr v) (v := .int (v.1 0 353)) (C := RX6) (T := TX6) (N := 9) hx hb ht itX6 hown hK hP 7 rfl rfl 7 (by decide) (hKK.fl2 13 rfl) (fun _ h9 => h9) rfl dX11_put_9 ?_
    refine lv_icmp_ge (tgt := 22) hx hb dX11_put_12 (by decide) (fun h4 => ?_) (fun h4 => ?_)
    · have z5 : (v.1 0 353).toInt ≤ pa.toInt := le_z rfl rfl h4
      refine nx_throwS (Y := "java/lang/RuntimeException") (r := ["java/lang/Exception"]) (A := A) hx hb hst nx_0 nx_1 nx_2 nx_5 hown (by decide +kernel) (by decide +kernel) (ht _ tw_956) (ht _ tw_957) (st_ hKK 19 (own := RX11) (idx := 207) (tx := "no such number, or not kept") (n := 19) rfl) (vx_hat (fun w h => ht w (xat_2 w h)) xat_2_n (vx_c (va_Nw.use rfl (hKK.2.2.2.2.2.1 _ (List.mem_of_getElem? (i := 2) rfl))) (vx_c (dcl_0 ht) (vx_c (dcl_1 ht) (vx_c (dcl_2 ht) vx_n))))) xat_2_o hFx.2.2.2.2.1 hFx.2.2.2.2.2.1 hS (by rw [hml]; exact hl.1) dX11_put_22 dX11_put_25 dX11_put_26 dX11_put_28 dX11_put_31 (fun x h9 => (hnt x h9).elim) (Nat.le_of_ble_eq_true rfl) (Nat.le_of_ble_eq_true rfl) (Nat.le_of_ble_eq_true rfl) (Nat.le_of_ble_eq_true rfl) hlocks (fun t9 hv9 hz9 hk9 => ⟨(), trivial, ⟨rfl, hP.kept (fun k q hk => hk9 _ ((hP k q hk).lt)), hD⟩, ⟨Nat.le_trans hS.1 hz9, fun q h1 h2 => (hk9 q (Nat.lt_of_lt_of_le h1 hS.1)).trans (hS.2.1 q h1 h2)⟩⟩) hS.2.2 (Nat.le_of_ble_eq_true rfl) (Nat.le_of_ble_eq_true rfl)
    · have z6 : pa.toInt < (v.1 0 353).toInt := nle_z rfl rfl h4
      refine lv_iload_n hx hb dX11_put_15 rfl (lv_at hl 1 rfl) ?_
      refine lv_sipush (v := 200) hx hb dX11_put_16 (by decide) ?_
      refine lv_icmp_lt (tgt := 32) hx hb dX11_put_19 (by decide) (fun h7 => ?_) (fun h7 => ?_)
      · have z8 : pa.toInt < (200 : Int) := lt_z rfl (show (200 : Int32).toInt = (200 : Int) by decide) h7
        refine lv_aload_n hx hb dX11_put_32 rfl (lv_at hl 0 rfl) ?_
        refine va_get (D := (dC, dI)) (ci := 14) (fs := oF_X11 ad pr v) (v := .ref (ad 906)) (C := RX11) (T := TX11) (N := 12) hx hb ht itX11 hown hK hP 0 rfl rfl 9 (by decide) (ht _ tw_927) (fun _ h9 => h9) rfl dX11_put_33 ?_
        refine va_getN (D := (dC, dI)) (ci := 9) (fs := oF_X6 ad pr v) (v := .ref (ad 352)) (C := RX6) (T := TX6) (N := 9) hx hb ht itX6 hown hK hP 7 rfl rfl 6 (by decide) (hKK.fl2 12 rfl) (fun _ h9 => h9) rfl dX11_put_36 ?_
        refine lv_iload_n hx hb dX11_put_39 rfl (lv_at hl 1 rfl) ?_
        refine va_iald (D := (dC, dI)) (f := (v.1 352)) hx hb hK hP 25 0 rfl rfl (in_y (a := pa.toInt) (b := 200) rfl (om_51058f7f87 z3) (om_2a12793f64 z8) rfl) dX11_put_40 ?_
        refine vx_ret ?_
        refine W.widen (k := 1) (n := 6) (Nat.le_of_ble_eq_true rfl) (Nat.le_of_ble_eq_true rfl) ?_
        exact W.iret (v := ((v.1 352) pa.toNatClampNeg)) hx hb hr (fun t ht9 hW => ⟨⟨((v.1 352) pa.toNatClampNeg), v, rfl, rfl, by rw [ht9]; exact hP, hD⟩, hS.F ht9⟩) hS.2.2 dX11_put_41
      · have z9 : (200 : Int) ≤ pa.toInt := nlt_z rfl (show (200 : Int32).toInt = (200 : Int) by decide) h7
        refine nx_throwS (Y := "java/lang/RuntimeException") (r := ["java/lang/Exception"]) (A := A) hx hb hst nx_0 nx_1 nx_2 nx_5 hown (by decide +kernel) (by decide +kernel) (ht _ tw_956) (ht _ tw_957) (st_ hKK 19 (own := RX11) (idx := 207) (tx := "no such number, or not kept") (n := 19) rfl) (vx_hat (fun w h => ht w (xat_2 w h)) xat_2_n (vx_c (va_Nw.use rfl (hKK.2.2.2.2.2.1 _ (List.mem_of_getElem? (i := 2) rfl))) (vx_c (dcl_0 ht) (vx_c (dcl_1 ht) (vx_c (dcl_2 ht) vx_n))))) xat_2_o hFx.2.2.2.2.1 hFx.2.2.2.2.2.1 hS (by rw [hml]; exact hl.1) dX11_put_22 dX11_put_25 dX11_put_26 dX11_put_28 dX11_put_31 (fun x h9 => (hnt x h9).elim) (Nat.le_of_ble_eq_true rfl) (Nat.le_of_ble_eq_true rfl) (Nat.le_of_ble_eq_true rfl) (Nat.le_of_ble_eq_true rfl) hlocks (fun t9 hv9 hz9 hk9 => ⟨(), trivial, ⟨rfl, hP.kept (fun k q hk => hk9 _ ((hP k q hk).lt)), hD⟩, ⟨Nat.le_trans hS.1 hz9, fun q h1 h2 => (hk9 q (Nat.lt_of_lt_of_le h1 hS.1)).trans (hS.2.1 q h1 h2)⟩⟩) hS.2.2 (Nat.le_of_ble_eq_true rfl) (Nat.le_of_ble_eq_true rfl)
theorem om_6f6d11972f {x0 x1 x2 : Int} (h0 : x0 = (0 : Int)) : x0 = 0 ∨ x1 < 0 ∨ x2 ≤ x1 ∨ 200 ≤ x1 := by omega
theorem om_02334db195 {x0 x1 x2 : Int} (h0 : x0 < (0 : Int)) : x1 = 0 ∨ x0 < 0 ∨ x2 ≤ x0 ∨ 200 ≤ x0 := by omega
theorem om_a27b2a65a6 {x0 x1 x2 : Int} (h0 : x0 ≤ x1) : x2 = 0 ∨ x1 < 0 ∨ x0 ≤ x1 ∨ 200 ≤ x1 := by omega
theorem om_530bf12dad {x0 x1 x2 : Int} (h0 : (200 : Int) ≤ x0) : x1 = 0 ∨ x0 < 0 ∨ x2 ≤ x0 ∨ 200 ≤ x0 := by omega
set_option maxHeartbeats 4000000 in
set_option maxRecDepth 100000 in
theorem c_x_X11_worked (l : Launch) (dC : Nat → ClassId) (dI : Nat → Nat → Nat) (cI cB cZ cJ cR : ClassId) (tb : Nat → Nat) (sz : Nat) (ad : Nat → Nat) (pr : Int32 → Nat) (N : Nat) (L1 L2 : List Nat) (Z : va_W) (v : MS) (pa : Int32) (hst : l.stackTraces = false) : vx_Met l yX11_worked (Cond.code yX11_worked cX11_worked 2 (some .int) :: tw_W) ({ frames := 6, cells := 1, slots := 6, locals := 82 }) (pc_ (dC, dI) (tyS cI cB cZ cJ cR) tb (pW ad pr N cI cR L1 L2 Z v) sz [.ref (ad 909), .int pa]) (qi_ (dC, dI) (pW ad pr N cI cR L1 L2 Z v) sz (fun (r : Int32) (u : MS) => v = u ∧ (Q_x_X11_worked L1 L2 v pa r)) (fun (u : MS) => (pW ad pr N cI cR L1 L2 Z u))) (qxp (dC, dI) (pW ad pr N cI cR L1 L2 Z v) sz (fun E => (E = "java/util/NoSuchElementException" ∧ ((v.1 0 361).toInt = 0 ∨ pa.toInt < 0 ∨ (v.1 0 370).toInt ≤ pa.toInt ∨ 200 ≤ pa.toInt)))) 1 6 (va_A (pW ad pr N cI cR L1 L2 Z v) sz) := by
  refine vx_ofW (cc := cX11_worked) (maxL := 2) (ret := (some .int)) (by decide) rfl ?_
  intro p e s m args below meth c s₁ B hml hnt hv
  obtain ⟨rfl, hsz, hP, hKK, hD0, hFx⟩ := hv
  have hK := hKK.1
  have hx := B.exec
  have hb := B.bytes
  have hr := B.returns
  have ht : ∀ w ∈ tw_W, w.before _ s = true := fun w h => atoms_spec (ws := Cond.code yX11_worked cX11_worked 2 (some .int) :: tw_W) B.pre w (List.mem_cons_of_mem _ h)
  have hown : s.vm.findClass RX11 = some m.cls := findClass_of_methodNamed B.named
  have hlocks := B.notSynchronized
  subst hsz
  unfold qi_ qxp
  have hD := hD0.self (sz := s.heap.size)
  generalize hAe : va_A (pW ad pr N cI cR L1 L2 Z v) s.heap.size = A at hD hFx ⊢
  have hA : ∀ q : Nat, s.heap.size ≤ q → A q := fun q h => by rw [← hAe]; exact Or.inr h
  have hS : va_S A s.heap s.heap [] := va_S.rf
  have hl := lv_entry ([.ref (ad 909), .int pa]) (n := 2) (Nat.le_of_ble_eq_true rfl)
  rw [lg_entry_eq]
  generalize (lg_sl ([.ref (ad 909), .int pa]) ++ List.replicate (2 - (lg_sl ([.ref (ad 909), .int pa])).length) Slot.unset).toArray = ls at hl ⊢
  have hl : lv_has ls 2 [(0, .ref (ad 909)), (1, .int pa)] := hl
  refine lv_aload_n hx hb dX11_worked_0 rfl (lv_at hl 0 rfl) ?_
  refine va_get (D := (dC, dI)) (ci := 14) (fs := oF_X11 ad pr v) (v := .ref (ad 907)) (C := RX11) (T := TX11) (N := 12) hx hb ht itX11 hown hK hP 0 rfl rfl 10 (by decide) (ht _ tw_929) (fun _ h9 => h9) rfl dX11_worked_1 ?_
  refine va_getN (D := (dC, dI)) (ci := 13) (fs := oF_X10 ad pr v) (v := .int (v.1 0 361)) (C := RX10) (T := TX10) (N := 17) hx hb ht itX10 hown hK hP 8 rfl rfl 6 (by decide) (hKK.fl2 15 rfl) (fun _ h9 => h9) rfl dX11_worked_4 ?_
  refine lv_if_eq (tgt := 32) hx hb dX11_worked_7 (by decide) (fun h1 => ?_) (fun h1 => ?_)
  · have z2 : (v.1 0 361).toInt = (0 : Int) := eq_z rfl (show (0 : Int32).toInt = (0 : Int) by decide) h1
    refine nx_throwS (Y := "java/lang/RuntimeException") (r := ["java/lang/Exception"]) (A := A) hx hb hst nx_0 nx_1 nx_2 nx_5 hown (by decide +kernel) (by decide +kernel) (ht _ tw_956) (ht _ tw_957) (st_ hKK 19 (own := RX11) (idx := 207) (tx := "no such number, or not kept") (n := 19) rfl) (vx_hat (fun w h => ht w (xat_2 w h)) xat_2_n (vx_c (va_Nw.use rfl (hKK.2.2.2.2.2.1 _ (List.mem_of_getElem? (i := 2) rfl))) (vx_c (dcl_0 ht) (vx_c (dcl_1 ht) (vx_c (dcl_2 ht) vx_n))))) xat_2_o hFx.2.2.2.2.1 hFx.2.2.2.2.2.1 hS (by rw [hml]; exact hl.1) dX11_worked_32 dX11_worked_35 dX11_worked_36 dX11_worked_38 dX11_worked_41 (fun x h9 => (hnt x h9).elim) (Nat.le_of_ble_eq_true rfl) (Nat.le_of_ble_eq_true rfl) (Nat.le_of_ble_eq_true rfl) (Nat.le_of_ble_eq_true rfl) hlocks (fun t9 hv9 hz9 hk9 => ⟨(), trivial, ⟨⟨rfl, (om_6f6d11972f z2)⟩, hP.kept (fun k q hk => hk9 _ ((hP k q hk).lt)), hD⟩, ⟨Nat.le_trans hS.1 hz9, fun q h1 h2 => (hk9 q (Nat.lt_of_lt_of_le h1 hS.1)).trans (hS.2.1 q h1 h2)⟩⟩) hS.2.2 (Nat.le_of_ble_eq_true rfl) (Nat.le_of_ble_eq_true rfl)
  · have z3 : (v.1 0 361).toInt ≠ (0 : Int) := ne_z rfl (show (0 : Int32).toInt = (0 : Int) by decide) h1
    refine lv_iload_n hx hb dX11_worked_10 rfl (lv_at hl 1 rfl) ?_
    refine lv_if_lt (tgt := 32) hx hb dX11_worked_11 (by decide) (fun h4 => ?_) (fun h4 => ?_)
    · have z5 : pa.toInt < (0 : Int) := lt_z rfl (show (0 : Int32).toInt = (0 : Int) by decide) h4
      refine nx_throwS (Y := "java/lang/RuntimeException") (r := ["java/lang/Exception"]) (A := A) hx hb hst nx_0 nx_1 nx_2 nx_5 hown (by decide +kernel) (by decide +kernel) (ht _ tw_956) (ht _ tw_957) (st_ hKK 19 (own := RX11) (idx := 207) (tx := "no such number, or not kept") (n := 19) rfl) (vx_hat (fun w h => ht w (xat_2 w h)) xat_2_n (vx_c (va_Nw.use rfl (hKK.2.2.2.2.2.1 _ (List.mem_of_getElem? (i := 2) rfl))) (vx_c (dcl_0 ht) (vx_c (dcl_1 ht) (vx_c (dcl_2 ht) vx_n))))) xat_2_o hFx.2.2.2.2.1 hFx.2.2.2.2.2.1 hS (by rw [hml]; exact hl.1) dX11_worked_32 dX11_worked_35 dX11_worked_36 dX11_worked_38 dX11_worked_41 (fun x h9 => (hnt x h9).elim) (Nat.le_of_ble_eq_true rfl) (Nat.le_of_ble_eq_true rfl) (Nat.le_of_ble_eq_true rfl) (Nat.le_of_ble_eq_true rfl) hlocks (fun t9 hv9 hz9 hk9 => ⟨(), trivial, ⟨⟨rfl, (om_02334db195 z5)⟩, hP.kept (fun k q hk => hk9 _ ((hP k q hk).lt)), hD⟩, ⟨Nat.le_trans hS.1 hz9, fun q h1 h2 => (hk9 q (Nat.lt_of_lt_of_le h1 hS.1)).trans (hS.2.1 q h1 h2)⟩⟩) hS.2.2 (Nat.le_of_ble_eq_true rfl) (Nat.le_of_ble_eq_true rfl)
    · have z6 : (0 : Int) ≤ pa.toInt := nlt_z rfl (show (0 : Int32).toInt = (0 : Int) by decide) h4
      refine lv_iload_n hx hb dX11_worked_14 rfl (lv_at hl 1 rfl) ?_
      refine lv_aload_n hx hb dX11_worked_15 rfl (lv_at hl 0 rfl) ?_
      refine va_get (D := (dC, dI)) (ci := 14) (fs := oF_X11 ad pr v) (v := .ref (ad 907)) (C := RX11) (T := TX11) (N := 12) hx hb ht itX11 hown hK hP 0 rfl rfl 10 (by decide) (ht _ tw_929) (fun _ h9 => h9) rfl dX11_worked_16 ?_
      refine va_getN (D := (dC, dI)) (ci := 13) (fs := oF_X10 ad pr v) (v := .int (v.1 0 370)) (C := RX10) (T := TX10) (N := 17) hx hb ht itX10 hown hK hP 8 rfl rfl 15 (by decide) (hKK.fl2 16 rfl) (fun _ h9 => h9) rfl dX11_worked_19 ?_
      refine lv_icmp_ge (tgt := 32) hx hb dX11_worked_22 (by decide) (fun h7 => ?_) (fun h7 => ?_)
      · have z8 : (v.1 0 370).toInt ≤ pa.toInt := le_z rfl rfl h7
        refine nx_throwS (Y := "java/lang/RuntimeException") (r := ["java/lang/Exception"]) (A := A) hx hb hst nx_0 nx_1 nx_2 nx_5 hown (by decide +kernel) (by decide +kernel) (ht _ tw_956) (ht _ tw_957) (st_ hKK 19 (own := RX11) (idx := 207) (tx := "no such number, or not kept") (n := 19) rfl) (vx_hat (fun w h => ht w (xat_2 w h)) xat_2_n (vx_c (va_Nw.use rfl (hKK.2.2.2.2.2.1 _ (List.mem_of_getElem? (i := 2) rfl))) (vx_c (dcl_0 ht) (vx_c (dcl_1 ht) (vx_c (dcl_2 ht) vx_n))))) xat_2_o hFx.2.2.2.2.1 hFx.2.2.2.2.2.1 hS (by rw [hml]; exact hl.1) dX11_worked_32 dX11_worked_35 dX11_worked_36 dX11_worked_38 dX11_worked_41 (fun x h9 => (hnt x h9).elim) (Nat.le_of_ble_eq_true rfl) (Nat.le_of_ble_eq_true rfl) (Nat.le_of_ble_eq_true rfl) (Nat.le_of_ble_eq_true rfl) hlocks (fun t9 hv9 hz9 hk9 => ⟨(), trivial, ⟨⟨rfl, (om_a27b2a65a6 z8)⟩, hP.kept (fun k q hk => hk9 _ ((hP k q hk).lt)), hD⟩, ⟨Nat.le_trans hS.1 hz9, fun q h1 h2 => (hk9 q (Nat.lt_of_lt_of_le h1 hS.1)).trans (hS.2.1 q h1 h2)⟩⟩) hS.2.2 (Nat.le_of_ble_eq_true rfl) (Nat.le_of_ble_eq_true rfl)
      · have z9 : pa.toInt < (v.1 0 370).toInt := nle_z rfl rfl h7
        refine lv_iload_n hx hb dX11_worked_25 rfl (lv_at hl 1 rfl) ?_
        refine lv_sipush (v := 200) hx hb dX11_worked_26 (by decide) ?_
        refine lv_icmp_lt (tgt := 42) hx hb dX11_worked_29 (by decide) (fun h10 => ?_) (fun h10 => ?_)
        · have z11 : pa.toInt < (200 : Int) := lt_z rfl (show (200 : Int32).toInt = (200 : Int) by decide) h10
          refine lv_aload_n hx hb dX11_worked_42 rfl (lv_at hl 0 rfl) ?_
          refine va_get (D := (dC, dI)) (ci := 14) (fs := oF_X11 ad pr v) (v := .ref (ad 907)) (C := RX11) (T := TX11) (N := 12) hx hb ht itX11 hown hK hP 0 rfl rfl 10 (by decide) (ht _ tw_929) (fun _ h9 => h9) rfl dX11_worked_43 ?_
          refine va_getN (D := (dC, dI)) (ci := 13) (fs := oF_X10 ad pr v) (v := .ref (ad 360)) (C := RX10) (T := TX10) (N := 17) hx hb ht itX10 hown hK hP 8 rfl rfl 5 (by decide) (hKK.fl2 14 rfl) (fun _ h9 => h9) rfl dX11_worked_46 ?_
          refine lv_iload_n hx hb dX11_worked_49 rfl (lv_at hl 1 rfl) ?_
          refine va_iald (D := (dC, dI)) (f := (v.1 360)) hx hb hK hP 28 0 rfl rfl (in_y (a := pa.toInt) (b := 200) rfl (om_51058f7f87 z6) (om_2a12793f64 z11) rfl) dX11_worked_50 ?_
          refine vx_ret ?_
          refine W.widen (k := 1) (n := 6) (Nat.le_of_ble_eq_true rfl) (Nat.le_of_ble_eq_true rfl) ?_
          exact W.iret (v := ((v.1 360) pa.toNatClampNeg)) hx hb hr (fun t ht9 hW => ⟨⟨((v.1 360) pa.toNatClampNeg), v, rfl, ⟨rfl, ⟨z3, z6, z9, z11, rfl⟩⟩, by rw [ht9]; exact hP, hD⟩, hS.F ht9⟩) hS.2.2 dX11_worked_51
        · have z12 : (200 : Int) ≤ pa.toInt := nlt_z rfl (show (200 : Int32).toInt = (200 : Int) by decide) h10
          refine nx_throwS (Y := "java/lang/RuntimeException") (r := ["java/lang/Exception"]) (A := A) hx hb hst nx_0 nx_1 nx_2 nx_5 hown (by decide +kernel) (by decide +kernel) (ht _ tw_956) (ht _ tw_957) (st_ hKK 19 (own := RX11) (idx := 207) (tx := "no such number, or not kept") (n := 19) rfl) (vx_hat (fun w h => ht w (xat_2 w h)) xat_2_n (vx_c (va_Nw.use rfl (hKK.2.2.2.2.2.1 _ (List.mem_of_getElem? (i := 2) rfl))) (vx_c (dcl_0 ht) (vx_c (dcl_1 ht) (vx_c (dcl_2 ht) vx_n))))) xat_2_o hFx.2.2.2.2.1 hFx.2.2.2.2.2.1 hS (by rw [hml]; exact hl.1) dX11_worked_32 dX11_worked_35 dX11_worked_36 dX11_worked_38 dX11_worked_41 (fun x h9 => (hnt x h9).elim) (Nat.le_of_ble_eq_true rfl) (Nat.le_of_ble_eq_true rfl) (Nat.le_of_ble_eq_true rfl) (Nat.le_of_ble_eq_true rfl) hlocks (fun t9 hv9 hz9 hk9 => ⟨(), trivial, ⟨⟨rfl, (om_530bf12dad z12)⟩, hP.kept (fun k q hk => hk9 _ ((hP k q hk).lt)), hD⟩, ⟨Nat.le_trans hS.1 hz9, fun q h1 h2 => (hk9 q (Nat.lt_of_lt_of_le h1 hS.1)).trans (hS.2.1 q h1 h2)⟩⟩) hS.2.2 (Nat.le_of_ble_eq_true rfl) (Nat.le_of_ble_eq_true rfl)
theorem om_949413473f {x0 x1 : Int} (h0 : x0 = (0 : Int)) : x0 = 0 ∨ x1 < 0 := by omega
theorem om_4f46e15702 {x0 x1 : Int} (h0 : x0 < (0 : Int)) : x1 = 0 ∨ x0 < 0 := by omega
set_option maxHeartbeats 4000000 in
set_option maxRecDepth 100000 in
theorem c_x_X11_left (l : Launch) (dC : Nat → ClassId) (dI : Nat → Nat → Nat) (cI cB cZ cJ cR : ClassId) (tb : Nat → Nat) (sz : Nat) (ad : Nat → Nat) (pr : Int32 → Nat) (N : Nat) (L1 L2 : List Nat) (Z : va_W) (v : MS) (pa : Int32) (pb : Int32) (ps : Int32) (zNN : (N : Int) ≤ 4096) (hL1 : L1.length = 40) (hL2 : L2.length = 60) (rp : RP v) (hps : pr ps = ad 908) (es392 : (v.1 0 392) = ps) (hst : l.stackTraces = false) : vx_Met l yX11_left (Cond.code yX11_left cX11_left 3 (some .int) :: tw_W) ({ frames := 6, cells := 1, slots := 6, locals := 82 }) (pc_ (dC, dI) (tyS cI cB cZ cJ cR) tb (pW ad pr N cI cR L1 L2 Z v) sz [.ref (ad 909), .int pa, .int pb]) (qi_ (dC, dI) (pW ad pr N cI cR L1 L2 Z v) sz (fun (r : Int32) (u : MS) => v = u ∧ (Q_x_X11_left L1 L2 N v pa pb r)) (fun (u : MS) => (pW ad pr N cI cR L1 L2 Z u))) (qxp (dC, dI) (pW ad pr N cI cR L1 L2 Z v) sz (fun E => (E = "java/util/NoSuchElementException" ∧ ((v.1 0 361).toInt = 0 ∨ pb.toInt < 0 ∨ ∃ r9 : Int32, Q_x_X7_globalFact L1 L2 v pa (0 : Int32) r9 ∧ r9.toInt ≤ pb.toInt)))) 1 6 (va_A (pW ad pr N cI cR L1 L2 Z v) sz) := by
  refine vx_ofW (cc := cX11_left) (maxL := 3) (ret := (some .int)) (by decide) rfl ?_
  intro p e s m args below meth c s₁ B hml hnt hv
  obtain ⟨rfl, hsz, hP, hKK, hD0, hFx⟩ := hv
  have hK := hKK.1
  have hx := B.exec
  have hb := B.bytes
  have hr := B.returns
  have ht : ∀ w ∈ tw_W, w.before _ s = true := fun w h => atoms_spec (ws := Cond.code yX11_left cX11_left 3 (some .int) :: tw_W) B.pre w (List.mem_cons_of_mem _ h)
  have hown : s.vm.findClass RX11 = some m.cls := findClass_of_methodNamed B.named
  have hlocks := B.notSynchronized
  subst hsz
  unfold qi_ qxp
  have hD := hD0.self (sz := s.heap.size)
  generalize hAe : va_A (pW ad pr N cI cR L1 L2 Z v) s.heap.size = A at hD hFx ⊢
  have hA : ∀ q : Nat, s.heap.size ≤ q → A q := fun q h => by rw [← hAe]; exact Or.inr h
  have hS : va_S A s.heap s.heap [] := va_S.rf
  have hl := lv_entry ([.ref (ad 909), .int pa, .int pb]) (n := 3) (Nat.le_of_ble_eq_true rfl)
  rw [lg_entry_eq]
  generalize (lg_sl ([.ref (ad 909), .int pa, .int pb]) ++ List.replicate (3 - (lg_sl ([.ref (ad 909), .int pa, .int pb])).length) Slot.unset).toArray = ls at hl ⊢
  have hl : lv_has ls 3 [(0, .ref (ad 909)), (1, .int pa), (2, .int pb)] := hl
  refine lv_aload_n hx hb dX11_left_0 rfl (lv_at hl 0 rfl) ?_
  refine va_get (D := (dC, dI)) (ci := 14) (fs := oF_X11 ad pr v) (v := .ref (ad 907)) (C := RX11) (T := TX11) (N := 12) hx hb ht itX11 hown hK hP 0 rfl rfl 10 (by decide) (ht _ tw_929) (fun _ h9 => h9) rfl dX11_left_1 ?_
  refine va_getN (D := (dC, dI)) (ci := 13) (fs := oF_X10 ad pr v) (v := .int (v.1 0 361)) (C := RX10) (T := TX10) (N := 17) hx hb ht itX10 hown hK hP 8 rfl rfl 6 (by decide) (hKK.fl2 15 rfl) (fun _ h9 => h9) rfl dX11_left_4 ?_
  refine lv_if_eq (tgt := 27) hx hb dX11_left_7 (by decide) (fun h1 => ?_) (fun h1 => ?_)
  · have z2 : (v.1 0 361).toInt = (0 : Int) := eq_z rfl (show (0 : Int32).toInt = (0 : Int) by decide) h1
    refine nx_throwS (Y := "java/lang/RuntimeException") (r := ["java/lang/Exception"]) (A := A) hx hb hst nx_0 nx_1 nx_2 nx_5 hown (by decide +kernel) (by decide +kernel) (ht _ tw_956) (ht _ tw_957) (st_ hKK 22 (own := RX11) (idx := 238) (tx := "no work, no such global or no such number") (n := 22) rfl) (vx_hat (fun w h => ht w (xat_2 w h)) xat_2_n (vx_c (va_Nw.use rfl (hKK.2.2.2.2.2.1 _ (List.mem_of_getElem? (i := 2) rfl))) (vx_c (dcl_0 ht) (vx_c (dcl_1 ht) (vx_c (dcl_2 ht) vx_n))))) xat_2_o hFx.2.2.2.2.1 hFx.2.2.2.2.2.1 hS (by rw [hml]; exact hl.1) dX11_left_27 dX11_left_30 dX11_left_31 dX11_left_33 dX11_left_36 (fun x h9 => (hnt x h9).elim) (Nat.le_of_ble_eq_true rfl) (Nat.le_of_ble_eq_true rfl) (Nat.le_of_ble_eq_true rfl) (Nat.le_of_ble_eq_true rfl) hlocks (fun t9 hv9 hz9 hk9 => ⟨(), trivial, ⟨⟨rfl, (Or.elim (om_949413473f z2) Or.inl (fun z9 => Or.inr (Or.inl z9)))⟩, hP.kept (fun k q hk => hk9 _ ((hP k q hk).lt)), hD⟩, ⟨Nat.le_trans hS.1 hz9, fun q h1 h2 => (hk9 q (Nat.lt_of_lt_of_le h1 hS.1)).trans (hS.2.1 q h1 h2)⟩⟩) hS.2.2 (Nat.le_of_ble_eq_true rfl) (Nat.le_of_ble_eq_true rfl)
  · have z3 : (v.1 0 361).toInt ≠ (0 : Int) := ne_z rfl (show (0 : Int32).toInt = (0 : Int) by decide) h1
    refine lv_iload_n hx hb dX11_left_10 rfl (lv_at hl 2 rfl) ?_
    refine lv_if_lt (tgt := 27) hx hb dX11_left_11 (by decide) (fun h4 => ?_) (fun h4 => ?_)
    · have z5 : pb.toInt < (0 : Int) := lt_z rfl (show (0 : Int32).toInt = (0 : Int) by decide) h4
      refine nx_throwS (Y := "java/lang/RuntimeException") (r := ["java/lang/Exception"]) (A := A) hx hb hst nx_0 nx_1 nx_2 nx_5 hown (by decide +kernel) (by decide +kernel) (ht _ tw_956) (ht _ tw_957) (st_ hKK 22 (own := RX11) (idx := 238) (tx := "no work, no such global or no such number") (n := 22) rfl) (vx_hat (fun w h => ht w (xat_2 w h)) xat_2_n (vx_c (va_Nw.use rfl (hKK.2.2.2.2.2.1 _ (List.mem_of_getElem? (i := 2) rfl))) (vx_c (dcl_0 ht) (vx_c (dcl_1 ht) (vx_c (dcl_2 ht) vx_n))))) xat_2_o hFx.2.2.2.2.1 hFx.2.2.2.2.2.1 hS (by rw [hml]; exact hl.1) dX11_left_27 dX11_left_30 dX11_left_31 dX11_left_33 dX11_left_36 (fun x h9 => (hnt x h9).elim) (Nat.le_of_ble_eq_true rfl) (Nat.le_of_ble_eq_true rfl) (Nat.le_of_ble_eq_true rfl) (Nat.le_of_ble_eq_true rfl) hlocks (fun t9 hv9 hz9 hk9 => ⟨(), trivial, ⟨⟨rfl, (Or.elim (om_4f46e15702 z5) Or.inl (fun z9 => Or.inr (Or.inl z9)))⟩, hP.kept (fun k q hk => hk9 _ ((hP k q hk).lt)), hD⟩, ⟨Nat.le_trans hS.1 hz9, fun q h1 h2 => (hk9 q (Nat.lt_of_lt_of_le h1 hS.1)).trans (hS.2.1 q h1 h2)⟩⟩) hS.2.2 (Nat.le_of_ble_eq_true rfl) (Nat.le_of_ble_eq_true rfl)
    · have z6 : (0 : Int) ≤ pb.toInt := nlt_z rfl (show (0 : Int32).toInt = (0 : Int) by decide) h4
      refine lv_iload_n hx hb dX11_left_14 rfl (lv_at hl 2 rfl) ?_
      refine lv_aload_n hx hb dX11_left_15 rfl (lv_at hl 0 rfl) ?_
      refine va_get (D := (dC, dI)) (ci := 14) (fs := oF_X11 ad pr v) (v := .ref (pr (v.1 0 392))) (C := RX11) (T := TX11) (N := 12) hx hb ht itX11 hown hK hP 0 rfl rfl 2 (by decide) (ht _ tw_924) (fun _ h9 => h9) rfl dX11_left_16 ?_
      refine lv_iload_n hx hb dX11_left_19 rfl (lv_at hl 1 rfl) ?_
      refine lv_iconst (v := 0) hx hb dX11_left_20 (by decide) ?_
      refine W.eq (g2 := F0 m 21 ls [.int 0, .int pa, .ref (ad 908), .int pb]) (by rw [show pr (v.1 0 392) = (ad 908) from (by rw [show (v.1 0 392) = ps from es392]; exact hps)]) ?_
      refine cA_i (rn_Vk (n := 2) (As := [.int pa, .int 0]) (rest := [.int pb]) hx hb hml hown ht hKK hFx hP hD hS hA (c_x_X7_globalFact l dC dI cI cB cZ cJ cR tb s.heap.size ad pr N L1 L2 v pa (0 : Int32) (show L1.length = 40 from hL1) (show L2.length = 60 from hL2) (show RP v from rp)) tw_402 tw_926 (by decide +kernel) rfl rfl ⟨Nat.le_of_ble_eq_true rfl, Nat.le_of_ble_eq_true rfl⟩ (ixC (cW ad pr N cI cR L1 L2 v).length) (ixC_map _ _ _) (ixC_nd _) 8 rfl rfl rfl rfl hl.1 rfl (Nat.le_of_ble_eq_true rfl) dX11_left_21 ⟨Nat.le_of_ble_eq_true rfl, Nat.le_of_ble_eq_true rfl⟩) hP hD hS hA (fun r9 u8 H locs hw7 hP hD hS => ?_)
      obtain ⟨rfl, ex7, c7, d7⟩ := hw7
      have c7 : ((0 : Int) ≠ 0 ∨ r9.toInt ≤ 1000) := c7
      refine W.widen (k := 0) (n := 0) (Nat.le_refl _) (Nat.le_refl _) ?_
      have hP : va_P (dC, dI) vwCl (pW ad pr N cI cR L1 L2 Z v) H := hP
      have hD : va_D A (pW ad pr N cI cR L1 L2 Z v) := hD
      refine lv_icmp_lt (tgt := 37) hx hb dX11_left_24 (by decide) (fun h10 => ?_) (fun h10 => ?_)
      · have z11 : pb.toInt < r9.toInt := lt_z rfl rfl h10
        refine lv_aload_n hx hb dX11_left_37 rfl (lv_at hl 0 rfl) ?_
        refine va_get (D := (dC, dI)) (ci := 14) (fs := oF_X11 ad pr v) (v := .ref (ad 907)) (C := RX11) (T := TX11) (N := 12) hx hb ht itX11 hown hK hP 0 rfl rfl 10 (by decide) (ht _ tw_929) (fun _ h9 => h9) rfl dX11_left_38 ?_
        refine lv_aload_n hx hb dX11_left_41 rfl (lv_at hl 0 rfl) ?_
        refine va_get (D := (dC, dI)) (ci := 14) (fs := oF_X11 ad pr v) (v := .ref (pr (v.1 0 392))) (C := RX11) (T := TX11) (N := 12) hx hb ht itX11 hown hK hP 0 rfl rfl 2 (by decide) (ht _ tw_924) (fun _ h9 => h9) rfl dX11_left_42 ?_
        refine lv_iload_n hx hb dX11_left_45 rfl (lv_at hl 1 rfl) ?_
        refine W.eq (g2 := F0 m 46 ls [.int pa, .ref (ad 908), .ref (ad 907)]) (by rw [show pr (v.1 0 392) = (ad 908) from (by rw [show (v.1 0 392) = ps from es392]; exact hps)]) ?_
        refine cA_i (rn_Vk (n := 1) (As := [.int pa]) (rest := [.ref (ad 907)]) hx hb hml hown ht hKK hFx hP hD hS hA (c_x_X7_firstCell l dC dI cI cB cZ cJ cR tb H.size ad pr N L1 L2 v pa (show L1.length = 40 from hL1) (show L2.length = 60 from hL2) (show RP v from rp)) tw_872 tw_958 (by decide +kernel) rfl rfl ⟨Nat.le_of_ble_eq_true rfl, Nat.le_of_ble_eq_true rfl⟩ (ixC (cW ad pr N cI cR L1 L2 v).length) (ixC_map _ _ _) (ixC_nd _) 8 rfl rfl rfl rfl hl.1 rfl (Nat.le_of_ble_eq_true rfl) dX11_left_46 ⟨Nat.le_of_ble_eq_true rfl, Nat.le_of_ble_eq_true rfl⟩) hP hD hS hA (fun r14 u13 H locs hw12 hP hD hS => ?_)
        obtain ⟨rfl, ex12⟩ := hw12
        refine W.widen (k := 0) (n := 0) (Nat.le_refl _) (Nat.le_refl _) ?_
        have hP : va_P (dC, dI) vwCl (pW ad pr N cI cR L1 L2 Z v) H := hP
        have hD : va_D A (pW ad pr N cI cR L1 L2 Z v) := hD
        refine lv_iload_n hx hb dX11_left_49 rfl (lv_at hl 2 rfl) ?_
        refine lv_iadd hx hb dX11_left_50 ?_
        refine cA_i (rn_Vk (n := 1) (As := [.int (r14 + pb)]) (rest := []) hx hb hml hown ht hKK hFx hP hD hS hA (c_x_X10_cellAt l dC dI cI cB cZ cJ cR tb H.size ad pr N L1 L2 v (r14 + pb) (show (N : Int) ≤ 4096 from (om_1c2c49c46c zNN))) tw_878 tw_959 (by decide +kernel) rfl rfl ⟨Nat.le_of_ble_eq_true rfl, Nat.le_of_ble_eq_true rfl⟩ (ixC (cW ad pr N cI cR L1 L2 v).length) (ixC_map _ _ _) (ixC_nd _) 7 rfl rfl rfl rfl hl.1 rfl (Nat.le_of_ble_eq_true rfl) dX11_left_51 ⟨Nat.le_of_ble_eq_true rfl, Nat.le_of_ble_eq_true rfl⟩) hP hD hS hA (fun r17 u16 H locs hw15 hP hD hS => ?_)
        obtain ⟨rfl, ex15⟩ := hw15
        refine W.widen (k := 0) (n := 0) (Nat.le_refl _) (Nat.le_refl _) ?_
        have hP : va_P (dC, dI) vwCl (pW ad pr N cI cR L1 L2 Z v) H := hP
        have hD : va_D A (pW ad pr N cI cR L1 L2 Z v) := hD
        refine vx_ret ?_
        refine W.widen (k := 1) (n := 6) (Nat.le_of_ble_eq_true rfl) (Nat.le_of_ble_eq_true rfl) ?_
        exact W.iret (v := r17) hx hb hr (fun t ht9 hW => ⟨⟨r17, v, rfl, ⟨rfl, ⟨z3, z6, r9, ex7, ⟨c7, d7⟩, z11, r14, ex12, r17, ex15, rfl⟩⟩, by rw [ht9]; exact hP, hD⟩, hS.F ht9⟩) hS.2.2 dX11_left_54
      · have z18 : r9.toInt ≤ pb.toInt := nlt_z rfl rfl h10
        refine nx_throwS (Y := "java/lang/RuntimeException") (r := ["java/lang/Exception"]) (A := A) hx hb hst nx_0 nx_1 nx_2 nx_5 hown (by decide +kernel) (by decide +kernel) (ht _ tw_956) (ht _ tw_957) (st_ hKK 22 (own := RX11) (idx := 238) (tx := "no work, no such global or no such number") (n := 22) rfl) (vx_hat (fun w h => ht w (xat_2 w h)) xat_2_n (vx_c (va_Nw.use rfl (hKK.2.2.2.2.2.1 _ (List.mem_of_getElem? (i := 2) rfl))) (vx_c (dcl_0 ht) (vx_c (dcl_1 ht) (vx_c (dcl_2 ht) vx_n))))) xat_2_o hFx.2.2.2.2.1 hFx.2.2.2.2.2.1 hS (by rw [hml]; exact hl.1) dX11_left_27 dX11_left_30 dX11_left_31 dX11_left_33 dX11_left_36 (fun x h9 => (hnt x h9).elim) (Nat.le_of_ble_eq_true rfl) (Nat.le_of_ble_eq_true rfl) (Nat.le_of_ble_eq_true rfl) (Nat.le_of_ble_eq_true rfl) hlocks (fun t9 hv9 hz9 hk9 => ⟨(), trivial, ⟨⟨rfl, (Or.inr (Or.inr ⟨r9, ex7, (om_88a792fb0b z18)⟩))⟩, hP.kept (fun k q hk => hk9 _ ((hP k q hk).lt)), hD⟩, ⟨Nat.le_trans hS.1 hz9, fun q h1 h2 => (hk9 q (Nat.lt_of_lt_of_le h1 hS.1)).trans (hS.2.1 q h1 h2)⟩⟩) hS.2.2 (Nat.le_of_ble_eq_true rfl) (Nat.le_of_ble_eq_true rfl)
theorem om_898a36c319 {x0 : Int} (h0 : 0 ≤ x0 ∧ x0 ≤ 4000) : x0 ≤ 4000 := by omega
theorem om_c5fcd29bbd {x0 : Int} (h0 : x0 ≠ (0 : Int)) (h1 : x0 ≠ (1 : Int)) : x0 ≠ 0 ∧ x0 ≠ 1 := by omega
set_option maxHeartbeats 4000000 in
set_option maxRecDepth 100000 in
theorem c_x_X11_find (l : Launch) (dC : Nat → ClassId) (dI : Nat → Nat → Nat) (cI cB cZ cJ cR : ClassId) (tb : Nat → Nat) (sz : Nat) (ad : Nat → Nat) (pr : Int32 → Nat) (N : Nat) (L1 L2 : List Nat) (Z : va_W) (v : MS) (pa : Int32) (ps : Int32) (z373 : 0 ≤ (v.1 0 373).toInt ∧ (v.1 0 373).toInt ≤ 4000) (z391 : 0 ≤ (v.1 0 391).toInt ∧ (v.1 0 391).toInt ≤ 4000) (hL1 : L1.length = 40) (hL2 : L2.length = 60) (rp : RP v) (hps : pr ps = ad 908) (es392 : (v.1 0 392) = ps) (hst : l.stackTraces = false) : vx_Met l yX11_find (Cond.code yX11_find cX11_find 5 (some .int) :: tw_W) ({ frames := 6, cells := 1, slots := 6, locals := 82 }) (pc_ (dC, dI) (tyS cI cB cZ cJ cR) tb (pW ad pr N cI cR L1 L2 Z v) sz [.ref (ad 909), .int pa]) (qi_ (dC, dI) (pW ad pr N cI cR L1 L2 Z v) sz (fun (r : Int32) (u : MS) => v = u ∧ (Q_x_X11_find L1 L2 v pa r)) (fun (u : MS) => (pW ad pr N cI cR L1 L2 Z u))) (qxp (dC, dI) (pW ad pr N cI cR L1 L2 Z v) sz (fun E => (E = "java/lang/IllegalArgumentException" ∧ (pa.toInt ≠ 0 ∧ pa.toInt ≠ 1)))) 1 6 (va_A (pW ad pr N cI cR L1 L2 Z v) sz) := by
  refine vx_ofW (cc := cX11_find) (maxL := 5) (ret := (some .int)) (by decide) rfl ?_
  intro p e s m args below meth c s₁ B hml hnt hv
  obtain ⟨rfl, hsz, hP, hKK, hD0, hFx⟩ := hv
  have hK := hKK.1
  have hx := B.exec
  have hb := B.bytes
  have hr := B.returns
  have ht : ∀ w ∈ tw_W, w.before _ s = true := fun w h => atoms_spec (ws := Cond.code yX11_find cX11_find 5 (some .int) :: tw_W) B.pre w (List.mem_cons_of_mem _ h)
  have hown : s.vm.findClass RX11 = some m.cls := findClass_of_methodNamed B.named
  have hlocks := B.notSynchronized
  subst hsz
  unfold qi_ qxp
  have hD := hD0.self (sz := s.heap.size)
  generalize hAe : va_A (pW ad pr N cI cR L1 L2 Z v) s.heap.size = A at hD hFx ⊢
  have hA : ∀ q : Nat, s.heap.size ≤ q → A q := fun q h => by rw [← hAe]; exact Or.inr h
  have hS : va_S A s.heap s.heap [] := va_S.rf
  have hl := lv_entry ([.ref (ad 909), .int pa]) (n := 5) (Nat.le_of_ble_eq_true rfl)
  rw [lg_entry_eq]
  generalize (lg_sl ([.ref (ad 909), .int pa]) ++ List.replicate (5 - (lg_sl ([.ref (ad 909), .int pa])).length) Slot.unset).toArray = ls at hl ⊢
  have hl : lv_has ls 5 [(0, .ref (ad 909)), (1, .int pa)] := hl
  refine lv_iload_n hx hb dX11_find_0 rfl (lv_at hl 1 rfl) ?_
  refine lv_if_eq (tgt := 19) hx hb dX11_find_1 (by decide) (fun h1 => ?_) (fun h1 => ?_)
  · have z2 : pa.toInt = (0 : Int) := eq_z rfl (show (0 : Int32).toInt = (0 : Int) by decide) h1
    refine lv_iload_n hx hb dX11_find_19 rfl (lv_at hl 1 rfl) ?_
    refine lv_if_ne (tgt := 33) hx hb dX11_find_20 (by decide) (fun h3 => ?_) (fun h3 => ?_)
    · have z4 : pa.toInt ≠ (0 : Int) := ne_z rfl (show (0 : Int32).toInt = (0 : Int) by decide) h3
      exact False.elim (om_e92e9f8ce0 z2 z4)
    · have z5 : pa.toInt = (0 : Int) := eq_z rfl (show (0 : Int32).toInt = (0 : Int) by decide) h3
      refine lv_aload_n hx hb dX11_find_23 rfl (lv_at hl 0 rfl) ?_
      refine va_get (D := (dC, dI)) (ci := 14) (fs := oF_X11 ad pr v) (v := .ref (pr (v.1 0 392))) (C := RX11) (T := TX11) (N := 12) hx hb ht itX11 hown hK hP 0 rfl rfl 2 (by decide) (ht _ tw_924) (fun _ h9 => h9) rfl dX11_find_24 ?_
      refine W.eq (g2 := F0 m 27 ls [.ref (ad 908)]) (by rw [show pr (v.1 0 392) = (ad 908) from (by rw [show (v.1 0 392) = ps from es392]; exact hps)]) ?_
      refine va_get (D := (dC, dI)) (ci := 10) (fs := oF_X7 ad pr v) (v := .int (v.1 0 375)) (C := RX7) (T := TX7) (N := 13) hx hb ht itX7 hown hK hP 9 rfl rfl 3 (by decide) (ht _ tw_933) (fun _ h9 => h9) rfl dX11_find_27 ?_
      refine lv_goto (tgt := 40) hx hb dX11_find_30 (by decide) ?_
      refine lv_istore_n (lv' := [(2, .int (v.1 0 375)), (0, .ref (ad 909)), (1, .int pa)]) hx hb dX11_find_40 rfl hl (by decide) rfl (fun ls hl => ?_)
      refine lv_iconst (v := 0) hx hb dX11_find_41 (by decide) ?_
      refine lv_istore_n (lv' := [(3, .int 0), (2, .int (v.1 0 375)), (0, .ref (ad 909)), (1, .int pa)]) hx hb dX11_find_42 rfl hl (by decide) rfl (fun ls hl => ?_)
      refine lpm_ (X := Int32 × Int32) (P := (fun (x9 : Int32 × Int32) (H : Heap) (locs : List Loc) (ls : Array Slot) => (0 ≤ x9.2.toInt) ∧ (RT (Q_x_X11_find_L0 L1 L2 v pa) ((v.1 0 375), 0) (x9.1, x9.2)) ∧ va_P (dC, dI) vwCl (pW ad pr N cI cR L1 L2 Z v) H ∧ va_D A (pW ad pr N cI cR L1 L2 Z v) ∧ va_S A s.heap H locs ∧ lv_has ls 5 [(3, .int x9.2), (2, .int x9.1), (0, .ref (ad 909)), (1, .int pa)])) (fun x9 => (x9.1.toInt - x9.2.toInt).toNat) 43 (fun x9 H locs ls hh ih43 => ?_) ((v.1 0 375), 0) _ _ _ ⟨(show 0 ≤ (0 : Int) from om_342087eeda), RT.rf, hP, hD, hS, lv_sub hl [0, 1, 2, 3] rfl⟩
      obtain ⟨mo, ka⟩ := x9
      obtain ⟨f1L43, exL43, hP, hD, hS, hl⟩ := hh
      have f1L43 : 0 ≤ ka.toInt := f1L43
      have hl : lv_has ls 5 [(3, .int ka), (2, .int mo), (0, .ref (ad 909)), (1, .int pa)] := hl
      refine lv_iload_n hx hb dX11_find_43 rfl (lv_at hl 0 rfl) ?_
      refine lv_iload_n hx hb dX11_find_44 rfl (lv_at hl 1 rfl) ?_
      refine lv_icmp_ge (tgt := 103) hx hb dX11_find_45 (by decide) (fun h6 => ?_) (fun h6 => ?_)
      · have z7 : mo.toInt ≤ ka.toInt := le_z rfl rfl h6
        refine lv_iconst (v := -1) hx hb dX11_find_103 (by decide) ?_
        refine vx_ret ?_
        refine W.widen (k := 1) (n := 6) (Nat.le_of_ble_eq_true rfl) (Nat.le_of_ble_eq_true rfl) ?_
        exact W.iret (v := (-1)) hx hb hr (fun t ht9 hW => ⟨⟨(-1), v, rfl, ⟨rfl, ⟨z373, z391, (Or.inl ⟨z2, z5, mo, ka, exL43, f1L43, (Or.inl ⟨z7, rfl⟩)⟩)⟩⟩, by rw [ht9]; exact hP, hD⟩, hS.F ht9⟩) hS.2.2 dX11_find_104
      · have z8 : ka.toInt < mo.toInt := nle_z rfl rfl h6
        refine lv_iload_n hx hb dX11_find_48 rfl (lv_at hl 3 rfl) ?_
        refine lv_if_ne (tgt := 64) hx hb dX11_find_49 (by decide) (fun h9 => ?_) (fun h9 => ?_)
        · have z10 : pa.toInt ≠ (0 : Int) := ne_z rfl (show (0 : Int32).toInt = (0 : Int) by decide) h9
          exact False.elim (om_e92e9f8ce0 z2 z10)
        · have z11 : pa.toInt = (0 : Int) := eq_z rfl (show (0 : Int32).toInt = (0 : Int) by decide) h9
          refine lv_aload_n hx hb dX11_find_52 rfl (lv_at hl 2 rfl) ?_
          refine va_get (D := (dC, dI)) (ci := 14) (fs := oF_X11 ad pr v) (v := .ref (pr (v.1 0 392))) (C := RX11) (T := TX11) (N := 12) hx hb ht itX11 hown hK hP 0 rfl rfl 2 (by decide) (ht _ tw_924) (fun _ h9 => h9) rfl dX11_find_53 ?_
          refine lv_iload_n hx hb dX11_find_56 rfl (lv_at hl 0 rfl) ?_
          refine lv_iconst (v := 3) hx hb dX11_find_57 (by decide) ?_
          refine W.eq (g2 := F0 m 58 ls [.int 3, .int ka, .ref (ad 908)]) (by rw [show pr (v.1 0 392) = (ad 908) from (by rw [show (v.1 0 392) = ps from es392]; exact hps)]) ?_
          refine cA_i (rn_Vk (n := 2) (As := [.int ka, .int 3]) (rest := []) hx hb hml hown ht hKK hFx hP hD hS hA (c_x_X7_functionFact l dC dI cI cB cZ cJ cR tb H.size ad pr N L1 L2 v ka (3 : Int32) (show L1.length = 40 from hL1) (show L2.length = 60 from hL2) (show RP v from rp)) tw_398 tw_925 (by decide +kernel) rfl rfl ⟨Nat.le_of_ble_eq_true rfl, Nat.le_of_ble_eq_true rfl⟩ (ixC (cW ad pr N cI cR L1 L2 v).length) (ixC_map _ _ _) (ixC_nd _) 8 rfl rfl rfl rfl hl.1 rfl (Nat.le_of_ble_eq_true rfl) dX11_find_58 ⟨Nat.le_of_ble_eq_true rfl, Nat.le_of_ble_eq_true rfl⟩) hP hD hS hA (fun r14 u13 H locs hw12 hP hD hS => ?_)
          obtain ⟨rfl, ex12, c12, d12⟩ := hw12
          have c12 : ((3 : Int) ≠ 0 ∨ r14.toInt ≤ 1000) := c12
          refine W.widen (k := 0) (n := 0) (Nat.le_refl _) (Nat.le_refl _) ?_
          have hP : va_P (dC, dI) vwCl (pW ad pr N cI cR L1 L2 Z v) H := hP
          have hD : va_D A (pW ad pr N cI cR L1 L2 Z v) := hD
          refine lv_goto (tgt := 73) hx hb dX11_find_61 (by decide) ?_
          refine lv_istore (lv' := [(4, .int r14), (3, .int ka), (2, .int mo), (0, .ref (ad 909)), (1, .int pa)]) hx hb dX11_find_73 hl (by decide) rfl (fun ls hl => ?_)
          refine lv_aload_n hx hb dX11_find_75 rfl (lv_at hl 3 rfl) ?_
          refine va_get (D := (dC, dI)) (ci := 14) (fs := oF_X11 ad pr v) (v := .ref (pr (v.1 0 392))) (C := RX11) (T := TX11) (N := 12) hx hb ht itX11 hown hK hP 0 rfl rfl 2 (by decide) (ht _ tw_924) (fun _ h9 => h9) rfl dX11_find_76 ?_
          refine lv_iload hx hb dX11_find_79 (lv_at hl 0 rfl) ?_
          refine lv_aload_n hx hb dX11_find_81 rfl (lv_at hl 3 rfl) ?_
          refine va_get (D := (dC, dI)) (ci := 14) (fs := oF_X11 ad pr v) (v := .ref (ad 299)) (C := RX11) (T := TX11) (N := 12) hx hb ht itX11 hown hK hP 0 rfl rfl 0 (by decide) (ht _ tw_914) (fun _ h9 => h9) rfl dX11_find_82 ?_
          refine lv_aload_n hx hb dX11_find_85 rfl (lv_at hl 3 rfl) ?_
          refine va_get (D := (dC, dI)) (ci := 14) (fs := oF_X11 ad pr v) (v := .int (v.1 0 391)) (C := RX11) (T := TX11) (N := 12) hx hb ht itX11 hown hK hP 0 rfl rfl 1 (by decide) (ht _ tw_913) (fun _ h9 => h9) rfl dX11_find_86 ?_
          refine W.eq (g2 := F0 m 89 ls [.int (v.1 0 391), .ref (ad 299), .int r14, .ref (ad 908)]) (by rw [show pr (v.1 0 392) = (ad 908) from (by rw [show (v.1 0 392) = ps from es392]; exact hps)]) ?_
          refine cA_i (rn_Vk (n := 3) (As := [.int r14, .ref (ad 299), .int (v.1 0 391)]) (rest := []) hx hb hml hown ht hKK hFx hP hD hS hA (c_x_X7_isNameAt l dC dI cI cB cZ cJ cR tb H.size ad pr N L1 L2 v r14 (v.1 0 391) (show 0 ≤ (v.1 0 373).toInt ∧ (v.1 0 373).toInt ≤ 4000 from (om_c74a68af25 z373)) (show (v.1 0 391).toInt ≤ 4000 from (om_898a36c319 z391))) tw_960 tw_961 (by decide +kernel) rfl rfl ⟨Nat.le_of_ble_eq_true rfl, Nat.le_of_ble_eq_true rfl⟩ (ixC (cW ad pr N cI cR L1 L2 v).length) (ixC_map _ _ _) (ixC_nd _) 8 rfl rfl rfl rfl hl.1 rfl (Nat.le_of_ble_eq_true rfl) dX11_find_89 ⟨Nat.le_of_ble_eq_true rfl, Nat.le_of_ble_eq_true rfl⟩) hP hD hS hA (fun r17 u16 H locs hw15 hP hD hS => ?_)
          obtain ⟨rfl, ex15, b15, e15⟩ := hw15
          refine W.widen (k := 0) (n := 0) (Nat.le_refl _) (Nat.le_refl _) ?_
          have hP : va_P (dC, dI) vwCl (pW ad pr N cI cR L1 L2 Z v) H := hP
          have hD : va_D A (pW ad pr N cI cR L1 L2 Z v) := hD
          refine lv_if_eq (tgt := 97) hx hb dX11_find_92 (by decide) (fun h18 => ?_) (fun h18 => ?_)
          · have z19 : r17.toInt = (0 : Int) := eq_z rfl (show (0 : Int32).toInt = (0 : Int) by decide) h18
            refine lv_iinc (v := (ka + (1 : Int32))) (lv' := [(3, .int (ka + (1 : Int32))), (4, .int r14), (2, .int mo), (0, .ref (ad 909)), (1, .int pa)]) hx hb dX11_find_97 hl (k := 1) rfl (rfl) (by decide) rfl (fun ls hl => ?_)
            have z20 : (ka + (1 : Int32)).toInt = ka.toInt + 1 := inc_lt z8
            refine lv_goto (tgt := 43) hx hb dX11_find_100 (by decide) ?_
            exact ih43 (mo, (ka + (1 : Int32))) _ _ _ (show (mo.toInt - (ka + (1 : Int32)).toInt).toNat < (mo.toInt - ka.toInt).toNat from tn_z (om_7310d536e1 z20) (om_fe525f7549 z8)) ⟨(show 0 ≤ (ka + (1 : Int32)).toInt from (om_db977a0953 f1L43 z20)), (RT.st exL43 ⟨f1L43, z8, z11, r14, ex12, ⟨c12, d12⟩, r17, ex15, ⟨b15, e15⟩, z19, rfl⟩), hP, hD, hS, lv_sub hl [0, 2, 3, 4] rfl⟩
          · have z21 : r17.toInt ≠ (0 : Int) := ne_z rfl (show (0 : Int32).toInt = (0 : Int) by decide) h18
            refine lv_iload_n hx hb dX11_find_95 rfl (lv_at hl 1 rfl) ?_
            refine vx_ret ?_
            refine W.widen (k := 1) (n := 6) (Nat.le_of_ble_eq_true rfl) (Nat.le_of_ble_eq_true rfl) ?_
            exact W.iret (v := ka) hx hb hr (fun t ht9 hW => ⟨⟨ka, v, rfl, ⟨rfl, ⟨z373, z391, (Or.inl ⟨z2, z5, mo, ka, exL43, f1L43, (Or.inr (⟨z8, z11, r14, ex12, ⟨c12, d12⟩, r17, ex15, ⟨b15, e15⟩, z21, rfl⟩))⟩)⟩⟩, by rw [ht9]; exact hP, hD⟩, hS.F ht9⟩) hS.2.2 dX11_find_96
  · have z22 : pa.toInt ≠ (0 : Int) := ne_z rfl (show (0 : Int32).toInt = (0 : Int) by decide) h1
    refine lv_iload_n hx hb dX11_find_4 rfl (lv_at hl 1 rfl) ?_
    refine lv_iconst (v := 1) hx hb dX11_find_5 (by decide) ?_
    refine lv_icmp_eq (tgt := 19) hx hb dX11_find_6 (by decide) (fun h23 => ?_) (fun h23 => ?_)
    · have z24 : pa.toInt = (1 : Int) := eq_z rfl (show (1 : Int32).toInt = (1 : Int) by decide) h23
      refine lv_iload_n hx hb dX11_find_19 rfl (lv_at hl 1 rfl) ?_
      refine lv_if_ne (tgt := 33) hx hb dX11_find_20 (by decide) (fun h25 => ?_) (fun h25 => ?_)
      · have z26 : pa.toInt ≠ (0 : Int) := ne_z rfl (show (0 : Int32).toInt = (0 : Int) by decide) h25
        refine lv_aload_n hx hb dX11_find_33 rfl (lv_at hl 0 rfl) ?_
        refine va_get (D := (dC, dI)) (ci := 14) (fs := oF_X11 ad pr v) (v := .ref (pr (v.1 0 392))) (C := RX11) (T := TX11) (N := 12) hx hb ht itX11 hown hK hP 0 rfl rfl 2 (by decide) (ht _ tw_924) (fun _ h9 => h9) rfl dX11_find_34 ?_
        refine W.eq (g2 := F0 m 37 ls [.ref (ad 908)]) (by rw [show pr (v.1 0 392) = (ad 908) from (by rw [show (v.1 0 392) = ps from es392]; exact hps)]) ?_
        refine va_get (D := (dC, dI)) (ci := 10) (fs := oF_X7 ad pr v) (v := .int (v.1 0 377)) (C := RX7) (T := TX7) (N := 13) hx hb ht itX7 hown hK hP 9 rfl rfl 5 (by decide) (ht _ tw_934) (fun _ h9 => h9) rfl dX11_find_37 ?_
        refine lv_istore_n (lv' := [(2, .int (v.1 0 377)), (0, .ref (ad 909)), (1, .int pa)]) hx hb dX11_find_40 rfl hl (by decide) rfl (fun ls hl => ?_)
        refine lv_iconst (v := 0) hx hb dX11_find_41 (by decide) ?_
        refine lv_istore_n (lv' := [(3, .int 0), (2, .int (v.1 0 377)), (0, .ref (ad 909)), (1, .int pa)]) hx hb dX11_find_42 rfl hl (by decide) rfl (fun ls hl => ?_)
        refine lpm_ (X := Int32 × Int32) (P := (fun (x9 : Int32 × Int32) (H : Heap) (locs : List Loc) (ls : Array Slot) => (0 ≤ x9.2.toInt) ∧ (RT (Q_x_X11_find_L1 L1 L2 v pa) ((v.1 0 377), 0) (x9.1, x9.2)) ∧ va_P (dC, dI) vwCl (pW ad pr N cI cR L1 L2 Z v) H ∧ va_D A (pW ad pr N cI cR L1 L2 Z v) ∧ va_S A s.heap H locs ∧ lv_has ls 5 [(3, .int x9.2), (2, .int x9.1), (0, .ref (ad 909)), (1, .int pa)])) (fun x9 => (x9.1.toInt - x9.2.toInt).toNat) 43 (fun x9 H locs ls hh ih43 => ?_) ((v.1 0 377), 0) _ _ _ ⟨(show 0 ≤ (0 : Int) from om_342087eeda), RT.rf, hP, hD, hS, lv_sub hl [0, 1, 2, 3] rfl⟩
        obtain ⟨mo, ka⟩ := x9
        obtain ⟨f1L43, exL43, hP, hD, hS, hl⟩ := hh
        have f1L43 : 0 ≤ ka.toInt := f1L43
        have hl : lv_has ls 5 [(3, .int ka), (2, .int mo), (0, .ref (ad 909)), (1, .int pa)] := hl
        refine lv_iload_n hx hb dX11_find_43 rfl (lv_at hl 0 rfl) ?_
        refine lv_iload_n hx hb dX11_find_44 rfl (lv_at hl 1 rfl) ?_
        refine lv_icmp_ge (tgt := 103) hx hb dX11_find_45 (by decide) (fun h27 => ?_) (fun h27 => ?_)
        · have z28 : mo.toInt ≤ ka.toInt := le_z rfl rfl h27
          refine lv_iconst (v := -1) hx hb dX11_find_103 (by decide) ?_
          refine vx_ret ?_
          refine W.widen (k := 1) (n := 6) (Nat.le_of_ble_eq_true rfl) (Nat.le_of_ble_eq_true rfl) ?_
          exact W.iret (v := (-1)) hx hb hr (fun t ht9 hW => ⟨⟨(-1), v, rfl, ⟨rfl, ⟨z373, z391, (Or.inr (⟨z22, z24, z26, mo, ka, exL43, f1L43, (Or.inl ⟨z28, rfl⟩)⟩))⟩⟩, by rw [ht9]; exact hP, hD⟩, hS.F ht9⟩) hS.2.2 dX11_find_104
        · have z29 : ka.toInt < mo.toInt := nle_z rfl rfl h27
          refine lv_iload_n hx hb dX11_find_48 rfl (lv_at hl 3 rfl) ?_
          refine lv_if_ne (tgt := 64) hx hb dX11_find_49 (by decide) (fun h30 => ?_) (fun h30 => ?_)
          · have z31 : pa.toInt ≠ (0 : Int) := ne_z rfl (show (0 : Int32).toInt = (0 : Int) by decide) h30
            refine lv_aload_n hx hb dX11_find_64 rfl (lv_at hl 2 rfl) ?_
            refine va_get (D := (dC, dI)) (ci := 14) (fs := oF_X11 ad pr v) (v := .ref (pr (v.1 0 392))) (C := RX11) (T := TX11) (N := 12) hx hb ht itX11 hown hK hP 0 rfl rfl 2 (by decide) (ht _ tw_924) (fun _ h9 => h9) rfl dX11_find_65 ?_
            refine lv_iload_n hx hb dX11_find_68 rfl (lv_at hl 0 rfl) ?_
            refine lv_iconst (v := 3) hx hb dX11_find_69 (by decide) ?_
            refine W.eq (g2 := F0 m 70 ls [.int 3, .int ka, .ref (ad 908)]) (by rw [show pr (v.1 0 392) = (ad 908) from (by rw [show (v.1 0 392) = ps from es392]; exact hps)]) ?_
            refine cA_i (rn_Vk (n := 2) (As := [.int ka, .int 3]) (rest := []) hx hb hml hown ht hKK hFx hP hD hS hA (c_x_X7_globalFact l dC dI cI cB cZ cJ cR tb H.size ad pr N L1 L2 v ka (3 : Int32) (show L1.length = 40 from hL1) (show L2.length = 60 from hL2) (show RP v from rp)) tw_402 tw_926 (by decide +kernel) rfl rfl ⟨Nat.le_of_ble_eq_true rfl, Nat.le_of_ble_eq_true rfl⟩ (ixC (cW ad pr N cI cR L1 L2 v).length) (ixC_map _ _ _) (ixC_nd _) 8 rfl rfl rfl rfl hl.1 rfl (Nat.le_of_ble_eq_true rfl) dX11_find_70 ⟨Nat.le_of_ble_eq_true rfl, Nat.le_of_ble_eq_true rfl⟩) hP hD hS hA (fun r34 u33 H locs hw32 hP hD hS => ?_)
            obtain ⟨rfl, ex32, c32, d32⟩ := hw32
            have c32 : ((3 : Int) ≠ 0 ∨ r34.toInt ≤ 1000) := c32
            refine W.widen (k := 0) (n := 0) (Nat.le_refl _) (Nat.le_refl _) ?_
            have hP : va_P (dC, dI) vwCl (pW ad pr N cI cR L1 L2 Z v) H := hP
            have hD : va_D A (pW ad pr N cI cR L1 L2 Z v) := hD
            refine lv_istore (lv' := [(4, .int r34), (3, .int ka), (2, .int mo), (0, .ref (ad 909)), (1, .int pa)]) hx hb dX11_find_73 hl (by decide) rfl (fun ls hl => ?_)
            refine lv_aload_n hx hb dX11_find_75 rfl (lv_at hl 3 rfl) ?_
            refine va_get (D := (dC, dI)) (ci := 14) (fs := oF_X11 ad pr v) (v := .ref (pr (v.1 0 392))) (C := RX11) (T := TX11) (N := 12) hx hb ht itX11 hown hK hP 0 rfl rfl 2 (by decide) (ht _ tw_924) (fun _ h9 => h9) rfl dX11_find_76 ?_
            refine lv_iload hx hb dX11_find_79 (lv_at hl 0 rfl) ?_
            refine lv_aload_n hx hb dX11_find_81 rfl (lv_at hl 3 rfl) ?_
            refine va_get (D := (dC, dI)) (ci := 14) (fs := oF_X11 ad pr v) (v := .ref (ad 299)) (C := RX11) (T := TX11) (N := 12) hx hb ht itX11 hown hK hP 0 rfl rfl 0 (by decide) (ht _ tw_914) (fun _ h9 => h9) rfl dX11_find_82 ?_
            refine lv_aload_n hx hb dX11_find_85 rfl (lv_at hl 3 rfl) ?_
            refine va_get (D := (dC, dI)) (ci := 14) (fs := oF_X11 ad pr v) (v := .int (v.1 0 391)) (C := RX11) (T := TX11) (N := 12) hx hb ht itX11 hown hK hP 0 rfl rfl 1 (by decide) (ht _ tw_913) (fun _ h9 => h9) rfl dX11_find_86 ?_
            refine W.eq (g2 := F0 m 89 ls [.int (v.1 0 391), .ref (ad 299), .int r34, .ref (ad 908)]) (by rw [show pr (v.1 0 392) = (ad 908) from (by rw [show (v.1 0 392) = ps from es392]; exact hps)]) ?_
            refine cA_i (rn_Vk (n := 3) (As := [.int r34, .ref (ad 299), .int (v.1 0 391)]) (rest := []) hx hb hml hown ht hKK hFx hP hD hS hA (c_x_X7_isNameAt l dC dI cI cB cZ cJ cR tb H.size ad pr N L1 L2 v r34 (v.1 0 391) (show 0 ≤ (v.1 0 373).toInt ∧ (v.1 0 373).toInt ≤ 4000 from (om_c74a68af25 z373)) (show (v.1 0 391).toInt ≤ 4000 from (om_898a36c319 z391))) tw_960 tw_961 (by decide +kernel) rfl rfl ⟨Nat.le_of_ble_eq_true rfl, Nat.le_of_ble_eq_true rfl⟩ (ixC (cW ad pr N cI cR L1 L2 v).length) (ixC_map _ _ _) (ixC_nd _) 8 rfl rfl rfl rfl hl.1 rfl (Nat.le_of_ble_eq_true rfl) dX11_find_89 ⟨Nat.le_of_ble_eq_true rfl, Nat.le_of_ble_eq_true rfl⟩) hP hD hS hA (fun r37 u36 H locs hw35 hP hD hS => ?_)
            obtain ⟨rfl, ex35, b35, e35⟩ := hw35
            refine W.widen (k := 0) (n := 0) (Nat.le_refl _) (Nat.le_refl _) ?_
            have hP : va_P (dC, dI) vwCl (pW ad pr N cI cR L1 L2 Z v) H := hP
            have hD : va_D A (pW ad pr N cI cR L1 L2 Z v) := hD
            refine lv_if_eq (tgt := 97) hx hb dX11_find_92 (by decide) (fun h38 => ?_) (fun h38 => ?_)
            · have z39 : r37.toInt = (0 : Int) := eq_z rfl (show (0 : Int32).toInt = (0 : Int) by decide) h38
              refine lv_iinc (v := (ka + (1 : Int32))) (lv' := [(3, .int (ka + (1 : Int32))), (4, .int r34), (2, .int mo), (0, .ref (ad 909)), (1, .int pa)]) hx hb dX11_find_97 hl (k := 1) rfl (rfl) (by decide) rfl (fun ls hl => ?_)
              have z40 : (ka + (1 : Int32)).toInt = ka.toInt + 1 := inc_lt z29
              refine lv_goto (tgt := 43) hx hb dX11_find_100 (by decide) ?_
              exact ih43 (mo, (ka + (1 : Int32))) _ _ _ (show (mo.toInt - (ka + (1 : Int32)).toInt).toNat < (mo.toInt - ka.toInt).toNat from tn_z (om_7310d536e1 z40) (om_fe525f7549 z29)) ⟨(show 0 ≤ (ka + (1 : Int32)).toInt from (om_db977a0953 f1L43 z40)), (RT.st exL43 ⟨f1L43, z29, z31, r34, ex32, ⟨c32, d32⟩, r37, ex35, ⟨b35, e35⟩, z39, rfl⟩), hP, hD, hS, lv_sub hl [0, 2, 3, 4] rfl⟩
            · have z41 : r37.toInt ≠ (0 : Int) := ne_z rfl (show (0 : Int32).toInt = (0 : Int) by decide) h38
              refine lv_iload_n hx hb dX11_find_95 rfl (lv_at hl 1 rfl) ?_
              refine vx_ret ?_
              refine W.widen (k := 1) (n := 6) (Nat.le_of_ble_eq_true rfl) (Nat.le_of_ble_eq_true rfl) ?_
              exact W.iret (v := ka) hx hb hr (fun t ht9 hW => ⟨⟨ka, v, rfl, ⟨rfl, ⟨z373, z391, (Or.inr (⟨z22, z24, z26, mo, ka, exL43, f1L43, (Or.inr (⟨z29, z31, r34, ex32, ⟨c32, d32⟩, r37, ex35, ⟨b35, e35⟩, z41, rfl⟩))⟩))⟩⟩, by rw [ht9]; exact hP, hD⟩, hS.F ht9⟩) hS.2.2 dX11_find_96
          · have z42 : pa.toInt = (0 : Int) := eq_z rfl (show (0 : Int32).toInt = (0 : Int) by decide) h30
            exact False.elim (om_9d476c3a78 z24 z42)
      · have z43 : pa.toInt = (0 : Int) := eq_z rfl (show (0 : Int32).toInt = (0 : Int) by decide) h25
        exact False.elim (om_9d476c3a78 z24 z43)
    · have z44 : pa.toInt ≠ (1 : Int) := ne_z rfl (show (1 : Int32).toInt = (1 : Int) by decide) h23
      refine vx_throwS (names := ["java/lang/RuntimeException", "java/lang/Exception"]) (A := A) hx hb hst hown (by decide +kernel) (by decide +kernel) (ht _ tw_944) (ht _ tw_945) (st_ hKK 14 (own := RX11) (idx := 139) (tx := "neither functions nor globals") (n := 14) rfl) (vx_hat (fun w h => ht w (xat_1 w h)) xat_1_n (vx_c (va_Nw.use rfl (hKK.2.2.2.2.2.1 _ (List.mem_of_getElem? (i := 1) rfl))) (vx_c (dcl_0 ht) (vx_c (dcl_1 ht) (vx_c (dcl_2 ht) vx_n))))) xat_1_o hFx.2.2.2.2.1 hFx.2.2.2.2.2.1 hS (by rw [hml]; exact hl.1) dX11_find_9 dX11_find_12 dX11_find_13 dX11_find_15 dX11_find_18 (fun x h9 => (hnt x h9).elim) (Nat.le_of_ble_eq_true rfl) (Nat.le_of_ble_eq_true rfl) (Nat.le_of_ble_eq_true rfl) (Nat.le_of_ble_eq_true rfl) hlocks (fun t9 hv9 hz9 hk9 => ⟨(), trivial, ⟨⟨rfl, (om_c5fcd29bbd z22 z44)⟩, hP.kept (fun k q hk => hk9 _ ((hP k q hk).lt)), hD⟩, ⟨Nat.le_trans hS.1 hz9, fun q h1 h2 => (hk9 q (Nat.lt_of_lt_of_le h1 hS.1)).trans (hS.2.1 q h1 h2)⟩⟩) hS.2.2 (Nat.le_of_ble_eq_true rfl) (Nat.le_of_ble_eq_true rfl)
theorem om_ec30ebebb1 {x0 x1 : Int} (h0 : (2 : Int) < x0) : x0 ≠ -1 ∧ (2 < x0 ∨ x1 < 0 ∨ 20000 < x1) := by omega
theorem om_81a4dfa2a0 {x0 x1 : Int} (h0 : ((0 : Int) ≠ 0 ∨ x0 ≤ 1000)) (h1 : x0 ≠ (-1 : Int)) (h2 : x1 < (0 : Int)) : x0 ≠ -1 ∧ (2 < x0 ∨ x1 < 0 ∨ 20000 < x1) := by omega
theorem om_2109234f6a {x0 x1 : Int} (h0 : ((0 : Int) ≠ 0 ∨ x0 ≤ 1000)) (h1 : x0 ≠ (-1 : Int)) (h2 : (20000 : Int) < x1) : x0 ≠ -1 ∧ (2 < x0 ∨ x1 < 0 ∨ 20000 < x1) := by omega
set_option maxHeartbeats 4000000 in
set_option maxRecDepth 100000 in
theorem c_x_X11_work (l : Launch) (dC : Nat → ClassId) (dI : Nat → Nat → Nat) (cI cB cZ cJ cR : ClassId) (tb : Nat → Nat) (sz : Nat) (ad : Nat → Nat) (pr : Int32 → Nat) (N : Nat) (L1 L2 : List Nat) (Z : va_W) (v : MS) (pa : Int32) (pb : Int32) (pc1 : Int32) (pd : Int32) (ps : Int32) (z344 : 0 ≤ (v.1 0 344).toInt ∧ (v.1 0 344).toInt ≤ 64) (z381 : 0 ≤ (v.1 0 381).toInt ∧ (v.1 0 381).toInt ≤ 3008) (zNN : (N : Int) ≤ 4096) (hL1 : L1.length = 40) (hL2 : L2.length = 60) (rp : RP v) (hps : pr ps = ad 908) (es392 : (v.1 0 392) = ps) (hst : l.stackTraces = false) : vx_Met l yX11_work (Cond.code yX11_work cX11_work 6 (some .int) :: tw_W) ({ frames := 6, cells := 1, slots := 6, locals := 135 }) (pc_ (dC, dI) (tyS cI cB cZ cJ cR) tb (pW ad pr N cI cR L1 L2 Z v) sz [.ref (ad 909), .int pa, .int pb, .int pc1, .int pd]) (qi_ (dC, dI) (pW ad pr N cI cR L1 L2 Z v) sz (fun (r : Int32) (u : MS) => FC [355, 361, 362, 363, 364, 365, 366, 367, 368, 369, 370, 371] [0, 358, 359, 360] v u ∧ (Q_x_X11_work L1 L2 N v pa pb pc1 pd ps r u) ∧ (RS0 v u)) (fun (u : MS) => (pW ad pr N cI cR L1 L2 Z u))) (qxp (dC, dI) (pW ad pr N cI cR L1 L2 Z v) sz (fun E => (E = "java/util/NoSuchElementException" ∧ (∃ r9 : Int32, Q_x_X7_functionFact L1 L2 v pa (0 : Int32) r9 ∧ r9.toInt = -1)) ∨ (E = "java/lang/IllegalArgumentException" ∧ (∃ r9 : Int32, Q_x_X7_functionFact L1 L2 v pa (0 : Int32) r9 ∧ (r9.toInt ≠ -1 ∧ (2 < r9.toInt ∨ pd.toInt < 0 ∨ 20000 < pd.toInt)))))) 1 6 (va_A (pW ad pr N cI cR L1 L2 Z v) sz) := by
  refine vx_ofW (cc := cX11_work) (maxL := 6) (ret := (some .int)) (by decide) rfl ?_
  intro p e s m args below meth c s₁ B hml hnt hv
  obtain ⟨rfl, hsz, hP, hKK, hD0, hFx⟩ := hv
  have hK := hKK.1
  have hx := B.exec
  have hb := B.bytes
  have hr := B.returns
  have ht : ∀ w ∈ tw_W, w.before _ s = true := fun w h => atoms_spec (ws := Cond.code yX11_work cX11_work 6 (some .int) :: tw_W) B.pre w (List.mem_cons_of_mem _ h)
  have hown : s.vm.findClass RX11 = some m.cls := findClass_of_methodNamed B.named
  have hlocks := B.notSynchronized
  subst hsz
  unfold qi_ qxp
  have hD := hD0.self (sz := s.heap.size)
  generalize hAe : va_A (pW ad pr N cI cR L1 L2 Z v) s.heap.size = A at hD hFx ⊢
  have hA : ∀ q : Nat, s.heap.size ≤ q → A q := fun q h => by rw [← hAe]; exact Or.inr h
  have hS : va_S A s.heap s.heap [] := va_S.rf
  have hl := lv_entry ([.ref (ad 909), .int pa, .int pb, .int pc1, .int pd]) (n := 6) (Nat.le_of_ble_eq_true rfl)
  rw [lg_entry_eq]
  generalize (lg_sl ([.ref (ad 909), .int pa, .int pb, .int pc1, .int pd]) ++ List.replicate (6 - (lg_sl ([.ref (ad 909), .int pa, .int pb, .int pc1, .int pd])).length) Slot.unset).toArray = ls at hl ⊢
  have hl : lv_has ls 6 [(0, .ref (ad 909)), (1, .int pa), (2, .int pb), (3, .int pc1), (4, .int pd)] := hl
  refine lv_aload_n hx hb dX11_work_0 rfl (lv_at hl 0 rfl) ?_
  refine va_get (D := (dC, dI)) (ci := 14) (fs := oF_X11 ad pr v) (v := .ref (pr (v.1 0 392))) (C := RX11) (T := TX11) (N := 12) hx hb ht itX11 hown hK hP 0 rfl rfl 2 (by decide) (ht _ tw_924) (fun _ h9 => h9) rfl dX11_work_1 ?_
  refine lv_iload_n hx hb dX11_work_4 rfl (lv_at hl 1 rfl) ?_
  refine lv_iconst (v := 0) hx hb dX11_work_5 (by decide) ?_
  refine W.eq (g2 := F0 m 6 ls [.int 0, .int pa, .ref (ad 908)]) (by rw [show pr (v.1 0 392) = (ad 908) from (by rw [show (v.1 0 392) = ps from es392]; exact hps)]) ?_
  refine cA_i (rn_Vk (n := 2) (As := [.int pa, .int 0]) (rest := []) hx hb hml hown ht hKK hFx hP hD hS hA (c_x_X7_functionFact l dC dI cI cB cZ cJ cR tb s.heap.size ad pr N L1 L2 v pa (0 : Int32) (show L1.length = 40 from hL1) (show L2.length = 60 from hL2) (show RP v from rp)) tw_398 tw_925 (by decide +kernel) rfl rfl ⟨Nat.le_of_ble_eq_true rfl, Nat.le_of_ble_eq_true rfl⟩ (ixC (cW ad pr N cI cR L1 L2 v).length) (ixC_map _ _ _) (ixC_nd _) 8 rfl rfl rfl rfl hl.1 rfl (Nat.le_of_ble_eq_true rfl) dX11_work_6 ⟨Nat.le_of_ble_eq_true rfl, Nat.le_of_ble_eq_true rfl⟩) hP hD hS hA (fun r3 u2 H locs hw1 hP hD hS => ?_)
  obtain ⟨rfl, ex1, c1, d1⟩ := hw1
  have c1 : ((0 : Int) ≠ 0 ∨ r3.toInt ≤ 1000) := c1
  refine W.widen (k := 0) (n := 0) (Nat.le_refl _) (Nat.le_refl _) ?_
  have hP : va_P (dC, dI) vwCl (pW ad pr N cI cR L1 L2 Z v) H := hP
  have hD : va_D A (pW ad pr N cI cR L1 L2 Z v) := hD
  refine lv_istore (lv' := [(5, .int r3), (0, .ref (ad 909)), (1, .int pa), (2, .int pb), (3, .int pc1), (4, .int pd)]) hx hb dX11_work_9 hl (by decide) rfl (fun ls hl => ?_)
  refine lv_iload hx hb dX11_work_11 (lv_at hl 0 rfl) ?_
  refine lv_iconst (v := -1) hx hb dX11_work_13 (by decide) ?_
  refine lv_icmp_ne (tgt := 27) hx hb dX11_work_14 (by decide) (fun h4 => ?_) (fun h4 => ?_)
  · have z5 : r3.toInt ≠ (-1 : Int) := ne_z rfl (show ((-1) : Int32).toInt = (-1 : Int) by decide) h4
    refine lv_iload hx hb dX11_work_27 (lv_at hl 0 rfl) ?_
    refine lv_iconst (v := 2) hx hb dX11_work_29 (by decide) ?_
    refine lv_icmp_gt (tgt := 46) hx hb dX11_work_30 (by decide) (fun h6 => ?_) (fun h6 => ?_)
    · have z7 : (2 : Int) < r3.toInt := lt_z (show (2 : Int32).toInt = (2 : Int) by decide) rfl h6
      refine vx_throwS (names := ["java/lang/RuntimeException", "java/lang/Exception"]) (A := A) hx hb hst hown (by decide +kernel) (by decide +kernel) (ht _ tw_944) (ht _ tw_945) (st_ hKK 21 (own := RX11) (idx := 221) (tx := "more than two parameters, or not 0 to 20,000 turns") (n := 21) rfl) (vx_hat (fun w h => ht w (xat_1 w h)) xat_1_n (vx_c (va_Nw.use rfl (hKK.2.2.2.2.2.1 _ (List.mem_of_getElem? (i := 1) rfl))) (vx_c (dcl_0 ht) (vx_c (dcl_1 ht) (vx_c (dcl_2 ht) vx_n))))) xat_1_o hFx.2.2.2.2.1 hFx.2.2.2.2.2.1 hS (by rw [hml]; exact hl.1) dX11_work_46 dX11_work_49 dX11_work_50 dX11_work_52 dX11_work_55 (fun x h9 => (hnt x h9).elim) (Nat.le_of_ble_eq_true rfl) (Nat.le_of_ble_eq_true rfl) (Nat.le_of_ble_eq_true rfl) (Nat.le_of_ble_eq_true rfl) hlocks (fun t9 hv9 hz9 hk9 => ⟨(), trivial, ⟨(Or.inr ⟨rfl, ⟨r3, ex1, (om_ec30ebebb1 z7)⟩⟩), hP.kept (fun k q hk => hk9 _ ((hP k q hk).lt)), hD⟩, ⟨Nat.le_trans hS.1 hz9, fun q h1 h2 => (hk9 q (Nat.lt_of_lt_of_le h1 hS.1)).trans (hS.2.1 q h1 h2)⟩⟩) hS.2.2 (Nat.le_of_ble_eq_true rfl) (Nat.le_of_ble_eq_true rfl)
    · have z8 : r3.toInt ≤ (2 : Int) := nlt_z (show (2 : Int32).toInt = (2 : Int) by decide) rfl h6
      refine lv_iload hx hb dX11_work_33 (lv_at hl 5 rfl) ?_
      refine lv_if_lt (tgt := 46) hx hb dX11_work_35 (by decide) (fun h9 => ?_) (fun h9 => ?_)
      · have z10 : pd.toInt < (0 : Int) := lt_z rfl (show (0 : Int32).toInt = (0 : Int) by decide) h9
        refine vx_throwS (names := ["java/lang/RuntimeException", "java/lang/Exception"]) (A := A) hx hb hst hown (by decide +kernel) (by decide +kernel) (ht _ tw_944) (ht _ tw_945) (st_ hKK 21 (own := RX11) (idx := 221) (tx := "more than two parameters, or not 0 to 20,000 turns") (n := 21) rfl) (vx_hat (fun w h => ht w (xat_1 w h)) xat_1_n (vx_c (va_Nw.use rfl (hKK.2.2.2.2.2.1 _ (List.mem_of_getElem? (i := 1) rfl))) (vx_c (dcl_0 ht) (vx_c (dcl_1 ht) (vx_c (dcl_2 ht) vx_n))))) xat_1_o hFx.2.2.2.2.1 hFx.2.2.2.2.2.1 hS (by rw [hml]; exact hl.1) dX11_work_46 dX11_work_49 dX11_work_50 dX11_work_52 dX11_work_55 (fun x h9 => (hnt x h9).elim) (Nat.le_of_ble_eq_true rfl) (Nat.le_of_ble_eq_true rfl) (Nat.le_of_ble_eq_true rfl) (Nat.le_of_ble_eq_true rfl) hlocks (fun t9 hv9 hz9 hk9 => ⟨(), trivial, ⟨(Or.inr ⟨rfl, ⟨r3, ex1, (om_81a4dfa2a0 c1 z5 z10)⟩⟩), hP.kept (fun k q hk => hk9 _ ((hP k q hk).lt)), hD⟩, ⟨Nat.le_trans hS.1 hz9, fun q h1 h2 => (hk9 q (Nat.lt_of_lt_of_le h1 hS.1)).trans (hS.2.1 q h1 h2)⟩⟩) hS.2.2 (Nat.le_of_ble_eq_true rfl) (Nat.le_of_ble_eq_true rfl)
      · have z11 : (0 : Int) ≤ pd.toInt := nlt_z rfl (show (0 : Int32).toInt = (0 : Int) by decide) h9
        refine lv_iload hx hb dX11_work_38 (lv_at hl 5 rfl) ?_
        refine lv_sipush (v := 20000) hx hb dX11_work_40 (by decide) ?_
        refine lv_icmp_le (tgt := 56) hx hb dX11_work_43 (by decide) (fun h12 => ?_) (fun h12 => ?_)
        · have z13 : pd.toInt ≤ (20000 : Int) := le_z rfl (show (20000 : Int32).toInt = (20000 : Int) by decide) h12
          refine lv_aload_n hx hb dX11_work_56 rfl (lv_at hl 1 rfl) ?_
          refine va_get (D := (dC, dI)) (ci := 14) (fs := oF_X11 ad pr v) (v := .ref (ad 907)) (C := RX11) (T := TX11) (N := 12) hx hb ht itX11 hown hK hP 0 rfl rfl 10 (by decide) (ht _ tw_929) (fun _ h9 => h9) rfl dX11_work_57 ?_
          refine lv_aload_n hx hb dX11_work_60 rfl (lv_at hl 1 rfl) ?_
          refine va_get (D := (dC, dI)) (ci := 14) (fs := oF_X11 ad pr v) (v := .ref (pr (v.1 0 392))) (C := RX11) (T := TX11) (N := 12) hx hb ht itX11 hown hK hP 0 rfl rfl 2 (by decide) (ht _ tw_924) (fun _ h9 => h9) rfl dX11_work_61 ?_
          refine lv_iload hx hb dX11_work_64 (lv_at hl 5 rfl) ?_
          refine W.eq (g2 := F0 m 66 ls [.int pd, .ref (pr ps), .ref (ad 907)]) (by rw [show (v.1 0 392) = ps from es392]) ?_
          refine cA_v (rn_Vk (n := 2) (As := [.ref (pr ps), .int pd]) (rest := []) hx hb hml hown ht hKK hFx hP hD hS hA (c_x_X10_begin l dC dI cI cB cZ cJ cR tb H.size ad pr N L1 L2 v pd ps (show (N : Int) ≤ 4096 from (om_1c2c49c46c zNN)) (show pr ps = ad 908 from hps)) tw_962 tw_963 (by decide +kernel) rfl rfl ⟨Nat.le_of_ble_eq_true rfl, Nat.le_of_ble_eq_true rfl⟩ (ixC (cW ad pr N cI cR L1 L2 v).length) (ixC_map _ _ _) (ixC_nd _) 7 rfl rfl rfl rfl hl.1 rfl (Nat.le_of_ble_eq_true rfl) dX11_work_66 ⟨Nat.le_of_ble_eq_true rfl, Nat.le_of_ble_eq_true rfl⟩) hP hD hS hA (fun u15 H locs hw14 hP hD hS => ?_)
          obtain ⟨fr14, ex14, pq14, sl35514, rs14⟩ := hw14
          refine W.widen (k := 0) (n := 0) (Nat.le_refl _) (Nat.le_refl _) ?_
          have hP := cP_ (pW_up fr14 (by decide)) hP
          have hD := cD_ (pW_up fr14 (by decide)) hD
          refine lv_aload_n hx hb dX11_work_69 rfl (lv_at hl 1 rfl) ?_
          refine va_get (D := (dC, dI)) (ci := 14) (fs := oF_X11 ad pr u15) (v := .ref (ad 907)) (C := RX11) (T := TX11) (N := 12) hx hb ht itX11 hown hK hP 0 rfl rfl 10 (by decide) (ht _ tw_929) (fun _ h9 => h9) rfl dX11_work_70 ?_
          refine lv_iload_n hx hb dX11_work_73 rfl (lv_at hl 2 rfl) ?_
          refine lv_iload_n hx hb dX11_work_74 rfl (lv_at hl 3 rfl) ?_
          refine lv_iload_n hx hb dX11_work_75 rfl (lv_at hl 4 rfl) ?_
          have q17 : (u15.1 0 344).toInt = (v.1 0 344).toInt := congrArg Int32.toInt ((fr14.2.1 344 (by decide)).trans (show v.1 0 344 = (v.1 0 344) by rfl))
          have q18 : (u15.1 0 381).toInt = (v.1 0 381).toInt := congrArg Int32.toInt ((fr14.2.1 381 (by decide)).trans (show v.1 0 381 = (v.1 0 381) by rfl))
          refine cA_i (rn_Vk (n := 3) (As := [.int pa, .int pb, .int pc1]) (rest := []) hx hb hml hown ht hKK hFx hP hD hS hA (c_x_X10_perform l dC dI cI cB cZ cJ cR tb H.size ad pr N L1 L2 u15 pa pb pc1 ps (show 0 ≤ (u15.1 0 344).toInt ∧ (u15.1 0 344).toInt ≤ 64 from (om_4eb3e36267 z344 q17)) (show 0 ≤ (u15.1 0 381).toInt ∧ (u15.1 0 381).toInt ≤ 3008 from (om_6e4eb11ad3 z381 q18)) (show (N : Int) ≤ 4096 from (om_1c2c49c46c zNN)) (show L1.length = 40 from hL1) (show L2.length = 60 from hL2) (show RP u15 from ((show FC [355, 361, 362, 363, 364, 365, 366, 367, 368, 369, 370, 371] [0, 358, 359, 360] v u15 from (FC.tr (FC.rf _) (FC.up fr14 (by decide) (by decide)))).1 rp)) (show pr ps = ad 908 from hps) (show (u15.1 0 355) = ps from sl35514) (show (u15.1 0 370).toInt = 0 from (om_0659e01c57 pq14))) tw_964 tw_965 (by decide +kernel) rfl rfl ⟨Nat.le_of_ble_eq_true rfl, Nat.le_of_ble_eq_true rfl⟩ (ixC (cW ad pr N cI cR L1 L2 u15).length) (ixC_map _ _ _) (ixC_nd _) 7 rfl rfl rfl rfl hl.1 rfl (Nat.le_of_ble_eq_true rfl) dX11_work_76 ⟨Nat.le_of_ble_eq_true rfl, Nat.le_of_ble_eq_true rfl⟩) hP hD hS hA (fun r21 u20 H locs hw19 hP hD hS => ?_)
          obtain ⟨fr19, ex19, rs19⟩ := hw19
          have rs19 : RS0 u15 u20 := rs19
          refine W.widen (k := 0) (n := 0) (Nat.le_refl _) (Nat.le_refl _) ?_
          have hP := cP_ (pW_up fr19 (by decide)) hP
          have hD := cD_ (pW_up fr19 (by decide)) hD
          refine vx_ret ?_
          refine W.widen (k := 1) (n := 6) (Nat.le_of_ble_eq_true rfl) (Nat.le_of_ble_eq_true rfl) ?_
          exact W.iret (v := r21) hx hb hr (fun t ht9 hW => ⟨⟨r21, u20, rfl, ⟨(FC.tr (FC.tr (FC.rf _) (FC.up fr14 (by decide) (by decide))) (FC.up fr19 (by decide) (by decide))), ⟨z344, z381, r3, ex1, ⟨c1, d1⟩, z5, z8, z11, z13, u15, ex14, ⟨fr14, pq14, rs14⟩, r21, u20, ex19, ⟨fr19, rs19⟩, rfl, rfl⟩, (RS0.tr (RS0.tr RS0.rf rs14) rs19)⟩, by rw [ht9]; exact hP, hD⟩, hS.F ht9⟩) hS.2.2 dX11_work_79
        · have z22 : (20000 : Int) < pd.toInt := nle_z rfl (show (20000 : Int32).toInt = (20000 : Int) by decide) h12
          refine vx_throwS (names := ["java/lang/RuntimeException", "java/lang/Exception"]) (A := A) hx hb hst hown (by decide +kernel) (by decide +kernel) (ht _ tw_944) (ht _ tw_945) (st_ hKK 21 (own := RX11) (idx := 221) (tx := "more than two parameters, or not 0 to 20,000 turns") (n := 21) rfl) (vx_hat (fun w h => ht w (xat_1 w h)) xat_1_n (vx_c (va_Nw.use rfl (hKK.2.2.2.2.2.1 _ (List.mem_of_getElem? (i := 1) rfl))) (vx_c (dcl_0 ht) (vx_c (dcl_1 ht) (vx_c (dcl_2 ht) vx_n))))) xat_1_o hFx.2.2.2.2.1 hFx.2.2.2.2.2.1 hS (by rw [hml]; exact hl.1) dX11_work_46 dX11_work_49 dX11_work_50 dX11_work_52 dX11_work_55 (fun x h9 => (hnt x h9).elim) (Nat.le_of_ble_eq_true rfl) (Nat.le_of_ble_eq_true rfl) (Nat.le_of_ble_eq_true rfl) (Nat.le_of_ble_eq_true rfl) hlocks (fun t9 hv9 hz9 hk9 => ⟨(), trivial, ⟨(Or.inr ⟨rfl, ⟨r3, ex1, (om_2109234f6a c1 z5 z22)⟩⟩), hP.kept (fun k q hk => hk9 _ ((hP k q hk).lt)), hD⟩, ⟨Nat.le_trans hS.1 hz9, fun q h1 h2 => (hk9 q (Nat.lt_of_lt_of_le h1 hS.1)).trans (hS.2.1 q h1 h2)⟩⟩) hS.2.2 (Nat.le_of_ble_eq_true rfl) (Nat.le_of_ble_eq_true rfl)
  · have z23 : r3.toInt = (-1 : Int) := eq_z rfl (show ((-1) : Int32).toInt = (-1 : Int) by decide) h4
    refine nx_throwS (Y := "java/lang/RuntimeException") (r := ["java/lang/Exception"]) (A := A) hx hb hst nx_0 nx_1 nx_2 nx_5 hown (by decide +kernel) (by decide +kernel) (ht _ tw_956) (ht _ tw_957) (st_ hKK 20 (own := RX11) (idx := 219) (tx := "no such function") (n := 20) rfl) (vx_hat (fun w h => ht w (xat_2 w h)) xat_2_n (vx_c (va_Nw.use rfl (hKK.2.2.2.2.2.1 _ (List.mem_of_getElem? (i := 2) rfl))) (vx_c (dcl_0 ht) (vx_c (dcl_1 ht) (vx_c (dcl_2 ht) vx_n))))) xat_2_o hFx.2.2.2.2.1 hFx.2.2.2.2.2.1 hS (by rw [hml]; exact hl.1) dX11_work_17 dX11_work_20 dX11_work_21 dX11_work_23 dX11_work_26 (fun x h9 => (hnt x h9).elim) (Nat.le_of_ble_eq_true rfl) (Nat.le_of_ble_eq_true rfl) (Nat.le_of_ble_eq_true rfl) (Nat.le_of_ble_eq_true rfl) hlocks (fun t9 hv9 hz9 hk9 => ⟨(), trivial, ⟨(Or.inl ⟨rfl, ⟨r3, ex1, (om_41e72fd3a9 z23)⟩⟩), hP.kept (fun k q hk => hk9 _ ((hP k q hk).lt)), hD⟩, ⟨Nat.le_trans hS.1 hz9, fun q h1 h2 => (hk9 q (Nat.lt_of_lt_of_le h1 hS.1)).trans (hS.2.1 q h1 h2)⟩⟩) hS.2.2 (Nat.le_of_ble_eq_true rfl) (Nat.le_of_ble_eq_true rfl)
