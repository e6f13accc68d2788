theorem dX11_end_0 : decode cX11_end 0 = .ok (.iload_n 1, 1) := by decide +kernel
theorem dX11_end_1 : decode cX11_end 1 = .ok (.ifCond .lt 11, 3) := by decide +kernel
theorem dX11_end_12 : decode cX11_end 12 = .ok (.iconst 0, 1) := by decide +kernel
theorem dX11_end_13 : decode cX11_end 13 = .ok (.ireturn, 1) := by decide +kernel
theorem dX11_end_4 : decode cX11_end 4 = .ok (.iload_n 1, 1) := by decide +kernel
theorem dX11_end_5 : decode cX11_end 5 = .ok (.aload_n 0, 1) := by decide +kernel
theorem dX11_end_6 : decode cX11_end 6 = .ok (.getfield 86, 3) := by decide +kernel
theorem tw_212 : (.fieldLink RX11 86 "PocketCompiler" "taped" "I" : Cond) ∈ tw_W := tw_in (by decide +kernel) (by decide +kernel)
theorem dX11_end_9 : decode cX11_end 9 = .ok (.if_icmp .le 5, 3) := by decide +kernel
theorem dX11_end_14 : decode cX11_end 14 = .ok (.aload_n 0, 1) := by decide +kernel
theorem dX11_end_15 : decode cX11_end 15 = .ok (.iload_n 1, 1) := by decide +kernel
theorem dX11_end_16 : decode cX11_end 16 = .ok (.putfield 86, 3) := by decide +kernel
theorem dX11_end_19 : decode cX11_end 19 = .ok (.iconst 1, 1) := by decide +kernel
theorem dX11_end_20 : decode cX11_end 20 = .ok (.ireturn, 1) := by decide +kernel
theorem dX11_feed_0 : decode cX11_feed 0 = .ok (.aload_n 0, 1) := by decide +kernel
theorem dX11_feed_1 : decode cX11_feed 1 = .ok (.getfield 86, 3) := by decide +kernel
theorem dX11_feed_4 : decode cX11_feed 4 = .ok (.bipush 20, 2) := by decide +kernel
theorem dX11_feed_6 : decode cX11_feed 6 = .ok (.iadd, 1) := by decide +kernel
theorem dX11_feed_7 : decode cX11_feed 7 = .ok (.sipush 4000, 3) := by decide +kernel
theorem dX11_feed_10 : decode cX11_feed 10 = .ok (.if_icmp .le 5, 3) := by decide +kernel
theorem dX11_feed_15 : decode cX11_feed 15 = .ok (.aload_n 0, 1) := by decide +kernel
theorem dX11_feed_16 : decode cX11_feed 16 = .ok (.iload_n 1, 1) := by decide +kernel
theorem dX11_feed_17 : decode cX11_feed 17 = .ok (.invokevirtual 89, 3) := by decide +kernel
theorem dX11_tapeNumber_0 : decode cX11_tapeNumber 0 = .ok (.bipush 24, 2) := by decide +kernel
theorem dX11_tapeNumber_2 : decode cX11_tapeNumber 2 = .ok (.istore_n 2, 1) := by decide +kernel
theorem dX11_tapeNumber_3 : decode cX11_tapeNumber 3 = .ok (.iload_n 2, 1) := by decide +kernel
theorem dX11_tapeNumber_4 : decode cX11_tapeNumber 4 = .ok (.ifCond .lt 45, 3) := by decide +kernel
theorem dX11_tapeNumber_7 : decode cX11_tapeNumber 7 = .ok (.aload_n 0, 1) := by decide +kernel
theorem dX11_tapeNumber_8 : decode cX11_tapeNumber 8 = .ok (.getfield 86, 3) := by decide +kernel
theorem dX11_tapeNumber_11 : decode cX11_tapeNumber 11 = .ok (.sipush 4000, 3) := by decide +kernel
theorem dX11_tapeNumber_14 : decode cX11_tapeNumber 14 = .ok (.if_icmp .ge 35, 3) := by decide +kernel
theorem dX11_tapeNumber_17 : decode cX11_tapeNumber 17 = .ok (.aload_n 0, 1) := by decide +kernel
theorem dX11_tapeNumber_18 : decode cX11_tapeNumber 18 = .ok (.getfield 9, 3) := by decide +kernel
theorem dX11_tapeNumber_21 : decode cX11_tapeNumber 21 = .ok (.aload_n 0, 1) := by decide +kernel
theorem dX11_tapeNumber_22 : decode cX11_tapeNumber 22 = .ok (.getfield 86, 3) := by decide +kernel
theorem dX11_tapeNumber_25 : decode cX11_tapeNumber 25 = .ok (.iload_n 1, 1) := by decide +kernel
theorem dX11_tapeNumber_26 : decode cX11_tapeNumber 26 = .ok (.iload_n 2, 1) := by decide +kernel
theorem dX11_tapeNumber_27 : decode cX11_tapeNumber 27 = .ok (.iushr, 1) := by decide +kernel
theorem dX11_tapeNumber_28 : decode cX11_tapeNumber 28 = .ok (.sipush 255, 3) := by decide +kernel
theorem dX11_tapeNumber_31 : decode cX11_tapeNumber 31 = .ok (.iand, 1) := by decide +kernel
theorem dX11_tapeNumber_32 : decode cX11_tapeNumber 32 = .ok (.iastore, 1) := by decide +kernel
theorem dX11_tapeNumber_33 : decode cX11_tapeNumber 33 = .ok (.aload_n 0, 1) := by decide +kernel
theorem dX11_tapeNumber_34 : decode cX11_tapeNumber 34 = .ok (.dup, 1) := by decide +kernel
theorem dX11_tapeNumber_35 : decode cX11_tapeNumber 35 = .ok (.getfield 86, 3) := by decide +kernel
theorem dX11_tapeNumber_38 : decode cX11_tapeNumber 38 = .ok (.iconst 1, 1) := by decide +kernel
theorem dX11_tapeNumber_39 : decode cX11_tapeNumber 39 = .ok (.iadd, 1) := by decide +kernel
theorem dX11_tapeNumber_40 : decode cX11_tapeNumber 40 = .ok (.putfield 86, 3) := by decide +kernel
theorem dX11_tapeNumber_43 : decode cX11_tapeNumber 43 = .ok (.iinc 2 (-8), 3) := by decide +kernel
theorem dX11_tapeNumber_46 : decode cX11_tapeNumber 46 = .ok (.goto (-43), 3) := by decide +kernel
theorem dX11_tapeNumber_49 : decode cX11_tapeNumber 49 = .ok (.return_, 1) := by decide +kernel
theorem tw_213 : (.code yX11_tapeNumber cX11_tapeNumber 3 none : Cond) ∈ tw_W := tw_in (by decide +kernel) (by decide +kernel)
theorem tw_214 : ∀ w ∈ ([.methodLink RX11 89 yX11_tapeNumber, .instanceMethod yX11_tapeNumber, .selects RX11 yX11_tapeNumber yX11_tapeNumber, .initialized RX11] : List Cond), w ∈ tw_W := tw_all (by decide +kernel)
theorem dX11_feed_20 : decode cX11_feed 20 = .ok (.aload_n 0, 1) := by decide +kernel
theorem dX11_feed_21 : decode cX11_feed 21 = .ok (.iload_n 2, 1) := by decide +kernel
theorem dX11_feed_22 : decode cX11_feed 22 = .ok (.invokevirtual 89, 3) := by decide +kernel
theorem dX11_feed_25 : decode cX11_feed 25 = .ok (.aload_n 0, 1) := by decide +kernel
theorem dX11_feed_26 : decode cX11_feed 26 = .ok (.iload_n 3, 1) := by decide +kernel
theorem dX11_feed_27 : decode cX11_feed 27 = .ok (.invokevirtual 89, 3) := by decide +kernel
theorem dX11_feed_30 : decode cX11_feed 30 = .ok (.aload_n 0, 1) := by decide +kernel
theorem dX11_feed_31 : decode cX11_feed 31 = .ok (.iload 4, 2) := by decide +kernel
theorem dX11_feed_33 : decode cX11_feed 33 = .ok (.invokevirtual 89, 3) := by decide +kernel
theorem dX11_feed_36 : decode cX11_feed 36 = .ok (.aload_n 0, 1) := by decide +kernel
theorem dX11_feed_37 : decode cX11_feed 37 = .ok (.iload 5, 2) := by decide +kernel
theorem dX11_feed_39 : decode cX11_feed 39 = .ok (.invokevirtual 89, 3) := by decide +kernel
theorem dX11_feed_42 : decode cX11_feed 42 = .ok (.iconst 1, 1) := by decide +kernel
theorem dX11_feed_43 : decode cX11_feed 43 = .ok (.ireturn, 1) := by decide +kernel
theorem dX11_fault_0 : decode cX11_fault 0 = .ok (.iload_n 1, 1) := by decide +kernel
theorem dX11_fault_1 : decode cX11_fault 1 = .ok (.lookupswitch 37 #[(0, 27), (1, 32)], 27) := by decide +kernel
theorem dX11_fault_28 : decode cX11_fault 28 = .ok (.aload_n 0, 1) := by decide +kernel
theorem dX11_fault_29 : decode cX11_fault 29 = .ok (.getfield 96, 3) := by decide +kernel
theorem tw_215 : (.fieldLink RX11 96 "PocketCompiler" "latestFault" "I" : Cond) ∈ tw_W := tw_in (by decide +kernel) (by decide +kernel)
theorem dX11_fault_32 : decode cX11_fault 32 = .ok (.ireturn, 1) := by decide +kernel
theorem dX11_fault_33 : decode cX11_fault 33 = .ok (.aload_n 0, 1) := by decide +kernel
theorem dX11_fault_34 : decode cX11_fault 34 = .ok (.getfield 13, 3) := by decide +kernel
theorem dX11_fault_37 : decode cX11_fault 37 = .ok (.ireturn, 1) := by decide +kernel
theorem dX11_fault_38 : decode cX11_fault 38 = .ok (.iconst (-1), 1) := by decide +kernel
theorem dX11_fault_39 : decode cX11_fault 39 = .ok (.ireturn, 1) := by decide +kernel
theorem dX11_function_0 : decode cX11_function 0 = .ok (.iload_n 2, 1) := by decide +kernel
theorem dX11_function_1 : decode cX11_function 1 = .ok (.ifCond .lt 20, 3) := by decide +kernel
theorem dX11_function_21 : decode cX11_function 21 = .ok (.iconst (-1), 1) := by decide +kernel
theorem dX11_function_22 : decode cX11_function 22 = .ok (.ireturn, 1) := by decide +kernel
theorem dX11_function_4 : decode cX11_function 4 = .ok (.iload_n 2, 1) := by decide +kernel
theorem dX11_function_5 : decode cX11_function 5 = .ok (.iconst 3, 1) := by decide +kernel
theorem dX11_function_6 : decode cX11_function 6 = .ok (.if_icmp .gt 15, 3) := by decide +kernel
theorem dX11_function_9 : decode cX11_function 9 = .ok (.aload_n 0, 1) := by decide +kernel
theorem dX11_function_10 : decode cX11_function 10 = .ok (.getfield 36, 3) := by decide +kernel
theorem dX11_function_13 : decode cX11_function 13 = .ok (.iload_n 1, 1) := by decide +kernel
theorem dX11_function_14 : decode cX11_function 14 = .ok (.iload_n 2, 1) := by decide +kernel
theorem dX11_function_15 : decode cX11_function 15 = .ok (.invokevirtual 130, 3) := by decide +kernel
theorem dX7_functionFact_0 : decode cX7_functionFact 0 = .ok (.iload_n 1, 1) := by decide +kernel
theorem dX7_functionFact_1 : decode cX7_functionFact 1 = .ok (.ifCond .lt 20, 3) := by decide +kernel
theorem dX7_functionFact_21 : decode cX7_functionFact 21 = .ok (.iconst (-1), 1) := by decide +kernel
theorem dX7_functionFact_22 : decode cX7_functionFact 22 = .ok (.ireturn, 1) := by decide +kernel
theorem dX7_functionFact_4 : decode cX7_functionFact 4 = .ok (.iload_n 1, 1) := by decide +kernel
theorem dX7_functionFact_5 : decode cX7_functionFact 5 = .ok (.aload_n 0, 1) := by decide +kernel
theorem dX7_functionFact_6 : decode cX7_functionFact 6 = .ok (.getfield 45, 3) := by decide +kernel
theorem dX7_functionFact_9 : decode cX7_functionFact 9 = .ok (.if_icmp .ge 12, 3) := by decide +kernel
theorem tw_216 : (.code yX7_functionFact cX7_functionFact 3 (some .int) : Cond) ∈ tw_W := tw_in (by decide +kernel) (by decide +kernel)
theorem tw_217 : ∀ w ∈ ([.methodLink RX11 130 yX7_functionFact, .instanceMethod yX7_functionFact, .selects RX7 yX7_functionFact yX7_functionFact, .initialized RX7] : List Cond), w ∈ tw_W := tw_all (by decide +kernel)
theorem dX11_function_18 : decode cX11_function 18 = .ok (.goto 4, 3) := by decide +kernel
theorem dX11_global_0 : decode cX11_global 0 = .ok (.iload_n 2, 1) := by decide +kernel
theorem dX11_global_1 : decode cX11_global 1 = .ok (.ifCond .lt 20, 3) := by decide +kernel
theorem dX11_global_21 : decode cX11_global 21 = .ok (.iconst (-1), 1) := by decide +kernel
theorem dX11_global_22 : decode cX11_global 22 = .ok (.ireturn, 1) := by decide +kernel
theorem dX11_global_4 : decode cX11_global 4 = .ok (.iload_n 2, 1) := by decide +kernel
theorem dX11_global_5 : decode cX11_global 5 = .ok (.iconst 3, 1) := by decide +kernel
theorem dX11_global_6 : decode cX11_global 6 = .ok (.if_icmp .gt 15, 3) := by decide +kernel
theorem dX11_global_9 : decode cX11_global 9 = .ok (.aload_n 0, 1) := by decide +kernel
theorem dX11_global_10 : decode cX11_global 10 = .ok (.getfield 36, 3) := by decide +kernel
theorem dX11_global_13 : decode cX11_global 13 = .ok (.iload_n 1, 1) := by decide +kernel
theorem dX11_global_14 : decode cX11_global 14 = .ok (.iload_n 2, 1) := by decide +kernel
theorem dX11_global_15 : decode cX11_global 15 = .ok (.invokevirtual 134, 3) := by decide +kernel
theorem dX7_globalFact_0 : decode cX7_globalFact 0 = .ok (.iload_n 1, 1) := by decide +kernel
theorem dX7_globalFact_1 : decode cX7_globalFact 1 = .ok (.ifCond .lt 20, 3) := by decide +kernel
theorem dX7_globalFact_21 : decode cX7_globalFact 21 = .ok (.iconst (-1), 1) := by decide +kernel
theorem dX7_globalFact_22 : decode cX7_globalFact 22 = .ok (.ireturn, 1) := by decide +kernel
theorem dX7_globalFact_4 : decode cX7_globalFact 4 = .ok (.iload_n 1, 1) := by decide +kernel
theorem dX7_globalFact_5 : decode cX7_globalFact 5 = .ok (.aload_n 0, 1) := by decide +kernel
theorem dX7_globalFact_6 : decode cX7_globalFact 6 = .ok (.getfield 48, 3) := by decide +kernel
theorem dX7_globalFact_9 : decode cX7_globalFact 9 = .ok (.if_icmp .ge 12, 3) := by decide +kernel
theorem tw_218 : (.code yX7_globalFact cX7_globalFact 3 (some .int) : Cond) ∈ tw_W := tw_in (by decide +kernel) (by decide +kernel)
theorem tw_219 : ∀ w ∈ ([.methodLink RX11 134 yX7_globalFact, .instanceMethod yX7_globalFact, .selects RX7 yX7_globalFact yX7_globalFact, .initialized RX7] : List Cond), w ∈ tw_W := tw_all (by decide +kernel)
theorem dX11_global_18 : decode cX11_global 18 = .ok (.goto 4, 3) := by decide +kernel
theorem dX11_give_0 : decode cX11_give 0 = .ok (.aload_n 0, 1) := by decide +kernel
theorem dX11_give_1 : decode cX11_give 1 = .ok (.getfield 20, 3) := by decide +kernel
theorem dX11_give_4 : decode cX11_give 4 = .ok (.iload_n 1, 1) := by decide +kernel
theorem dX11_give_5 : decode cX11_give 5 = .ok (.invokevirtual 152, 3) := by decide +kernel
theorem dX3_add_0 : decode cX3_add 0 = .ok (.aload_n 0, 1) := by decide +kernel
theorem dX3_add_1 : decode cX3_add 1 = .ok (.getfield 15, 3) := by decide +kernel
theorem tw_220 : (.fieldLink RX3 15 "PocketCompiler$Gifts" "size" "I" : Cond) ∈ tw_W := tw_in (by decide +kernel) (by decide +kernel)
theorem dX3_add_4 : decode cX3_add 4 = .ok (.bipush 64, 2) := by decide +kernel
theorem dX3_add_6 : decode cX3_add 6 = .ok (.if_icmp .lt 5, 3) := by decide +kernel
theorem dX3_add_11 : decode cX3_add 11 = .ok (.aload_n 0, 1) := by decide +kernel
theorem dX3_add_12 : decode cX3_add 12 = .ok (.getfield 11, 3) := by decide +kernel
theorem dX3_add_15 : decode cX3_add 15 = .ok (.aload_n 0, 1) := by decide +kernel
theorem dX3_add_16 : decode cX3_add 16 = .ok (.getfield 15, 3) := by decide +kernel
theorem dX3_add_19 : decode cX3_add 19 = .ok (.iload_n 1, 1) := by decide +kernel
theorem dX3_add_20 : decode cX3_add 20 = .ok (.iastore, 1) := by decide +kernel
theorem dX3_add_21 : decode cX3_add 21 = .ok (.aload_n 0, 1) := by decide +kernel
theorem dX3_add_22 : decode cX3_add 22 = .ok (.dup, 1) := by decide +kernel
theorem dX3_add_23 : decode cX3_add 23 = .ok (.getfield 15, 3) := by decide +kernel
theorem dX3_add_26 : decode cX3_add 26 = .ok (.iconst 1, 1) := by decide +kernel
theorem dX3_add_27 : decode cX3_add 27 = .ok (.iadd, 1) := by decide +kernel
theorem dX3_add_28 : decode cX3_add 28 = .ok (.putfield 15, 3) := by decide +kernel
theorem dX3_add_31 : decode cX3_add 31 = .ok (.aload_n 0, 1) := by decide +kernel
theorem dX3_add_32 : decode cX3_add 32 = .ok (.getfield 15, 3) := by decide +kernel
theorem dX3_add_35 : decode cX3_add 35 = .ok (.ireturn, 1) := by decide +kernel
theorem tw_221 : (.code yX3_add cX3_add 2 (some .int) : Cond) ∈ tw_W := tw_in (by decide +kernel) (by decide +kernel)
theorem tw_222 : ∀ w ∈ ([.methodLink RX11 152 yX3_add, .instanceMethod yX3_add, .selects RX3 yX3_add yX3_add, .initialized RX3] : List Cond), w ∈ tw_W := tw_all (by decide +kernel)
theorem dX11_give_8 : decode cX11_give 8 = .ok (.ireturn, 1) := by decide +kernel
theorem dX11_forget_0 : decode cX11_forget 0 = .ok (.aload_n 0, 1) := by decide +kernel
theorem dX11_forget_1 : decode cX11_forget 1 = .ok (.getfield 20, 3) := by decide +kernel
theorem dX11_forget_4 : decode cX11_forget 4 = .ok (.invokevirtual 155, 3) := by decide +kernel
theorem dX3_clear_0 : decode cX3_clear 0 = .ok (.aload_n 0, 1) := by decide +kernel
theorem dX3_clear_1 : decode cX3_clear 1 = .ok (.getfield 15, 3) := by decide +kernel
theorem dX3_clear_4 : decode cX3_clear 4 = .ok (.istore_n 1, 1) := by decide +kernel
theorem dX3_clear_5 : decode cX3_clear 5 = .ok (.aload_n 0, 1) := by decide +kernel
theorem dX3_clear_6 : decode cX3_clear 6 = .ok (.iconst 0, 1) := by decide +kernel
theorem dX3_clear_7 : decode cX3_clear 7 = .ok (.putfield 15, 3) := by decide +kernel
theorem dX3_clear_10 : decode cX3_clear 10 = .ok (.aload_n 0, 1) := by decide +kernel
theorem dX3_clear_11 : decode cX3_clear 11 = .ok (.iconst 0, 1) := by decide +kernel
theorem dX3_clear_12 : decode cX3_clear 12 = .ok (.putfield 19, 3) := by decide +kernel
theorem tw_223 : (.fieldLink RX3 19 "PocketCompiler$Gifts" "used" "I" : Cond) ∈ tw_W := tw_in (by decide +kernel) (by decide +kernel)
theorem dX3_clear_15 : decode cX3_clear 15 = .ok (.iload_n 1, 1) := by decide +kernel
theorem dX3_clear_16 : decode cX3_clear 16 = .ok (.ireturn, 1) := by decide +kernel
theorem tw_224 : (.code yX3_clear cX3_clear 2 (some .int) : Cond) ∈ tw_W := tw_in (by decide +kernel) (by decide +kernel)
theorem tw_225 : ∀ w ∈ ([.methodLink RX11 155 yX3_clear, .instanceMethod yX3_clear, .selects RX3 yX3_clear yX3_clear, .initialized RX3] : List Cond), w ∈ tw_W := tw_all (by decide +kernel)
theorem dX11_forget_7 : decode cX11_forget 7 = .ok (.ireturn, 1) := by decide +kernel
theorem dX11_start_0 : decode cX11_start 0 = .ok (.aload_n 0, 1) := by decide +kernel
theorem dX11_start_1 : decode cX11_start 1 = .ok (.getfield 36, 3) := by decide +kernel
theorem dX11_start_4 : decode cX11_start 4 = .ok (.iload_n 1, 1) := by decide +kernel
theorem dX11_start_5 : decode cX11_start 5 = .ok (.iconst 0, 1) := by decide +kernel
theorem dX11_start_6 : decode cX11_start 6 = .ok (.invokevirtual 130, 3) := by decide +kernel
theorem dX11_start_9 : decode cX11_start 9 = .ok (.istore 4, 2) := by decide +kernel
theorem dX11_start_11 : decode cX11_start 11 = .ok (.iload 4, 2) := by decide +kernel
theorem dX11_start_13 : decode cX11_start 13 = .ok (.iconst (-1), 1) := by decide +kernel
theorem dX11_start_14 : decode cX11_start 14 = .ok (.if_icmp .eq 9, 3) := by decide +kernel
theorem dX11_start_23 : decode cX11_start 23 = .ok (.iconst 0, 1) := by decide +kernel
theorem dX11_start_24 : decode cX11_start 24 = .ok (.ireturn, 1) := by decide +kernel
theorem dX11_step_0 : decode cX11_step 0 = .ok (.aload_n 0, 1) := by decide +kernel
theorem dX11_step_1 : decode cX11_step 1 = .ok (.getfield 66, 3) := by decide +kernel
theorem dX11_step_4 : decode cX11_step 4 = .ok (.invokevirtual 163, 3) := by decide +kernel
theorem dX6_tick_0 : decode cX6_tick 0 = .ok (.aload_n 0, 1) := by decide +kernel
theorem dX6_tick_1 : decode cX6_tick 1 = .ok (.getfield 33, 3) := by decide +kernel
theorem tw_226 : (.fieldLink RX6 33 "PocketCompiler$Processor" "status" "I" : Cond) ∈ tw_W := tw_in (by decide +kernel) (by decide +kernel)
theorem dX6_tick_4 : decode cX6_tick 4 = .ok (.ifCond .eq 4, 3) := by decide +kernel
theorem dX6_tick_8 : decode cX6_tick 8 = .ok (.aload_n 0, 1) := by decide +kernel
theorem dX6_tick_9 : decode cX6_tick 9 = .ok (.dup, 1) := by decide +kernel
theorem dX6_tick_10 : decode cX6_tick 10 = .ok (.getfield 54, 3) := by decide +kernel
theorem tw_227 : (.fieldLink RX6 54 "PocketCompiler$Processor" "steps" "I" : Cond) ∈ tw_W := tw_in (by decide +kernel) (by decide +kernel)
theorem dX6_tick_13 : decode cX6_tick 13 = .ok (.iconst 1, 1) := by decide +kernel
theorem dX6_tick_14 : decode cX6_tick 14 = .ok (.iadd, 1) := by decide +kernel
theorem dX6_tick_15 : decode cX6_tick 15 = .ok (.putfield 54, 3) := by decide +kernel
theorem dX6_tick_18 : decode cX6_tick 18 = .ok (.aload_n 0, 1) := by decide +kernel
theorem dX6_tick_19 : decode cX6_tick 19 = .ok (.aload_n 0, 1) := by decide +kernel
theorem dX6_tick_20 : decode cX6_tick 20 = .ok (.getfield 25, 3) := by decide +kernel
theorem tw_228 : (.fieldLink RX6 25 "PocketCompiler$Processor" "pc" "I" : Cond) ∈ tw_W := tw_in (by decide +kernel) (by decide +kernel)
theorem dX6_tick_23 : decode cX6_tick 23 = .ok (.invokevirtual 68, 3) := by decide +kernel
theorem dX6_hasWord_0 : decode cX6_hasWord 0 = .ok (.iload_n 1, 1) := by decide +kernel
theorem dX6_hasWord_1 : decode cX6_hasWord 1 = .ok (.iconst 3, 1) := by decide +kernel
theorem dX6_hasWord_2 : decode cX6_hasWord 2 = .ok (.iand, 1) := by decide +kernel
theorem dX6_hasWord_3 : decode cX6_hasWord 3 = .ok (.ifCond .ne 18, 3) := by decide +kernel
theorem dX6_hasWord_6 : decode cX6_hasWord 6 = .ok (.iload_n 1, 1) := by decide +kernel
theorem dX6_hasWord_7 : decode cX6_hasWord 7 = .ok (.iconst 2, 1) := by decide +kernel
theorem dX6_hasWord_8 : decode cX6_hasWord 8 = .ok (.iushr, 1) := by decide +kernel
theorem dX6_hasWord_9 : decode cX6_hasWord 9 = .ok (.aload_n 0, 1) := by decide +kernel
theorem dX6_hasWord_10 : decode cX6_hasWord 10 = .ok (.getfield 18, 3) := by decide +kernel
theorem dX6_hasWord_13 : decode cX6_hasWord 13 = .ok (.arraylength, 1) := by decide +kernel
theorem dX6_hasWord_14 : decode cX6_hasWord 14 = .ok (.if_icmp .ge 7, 3) := by decide +kernel
theorem dX6_hasWord_17 : decode cX6_hasWord 17 = .ok (.iconst 1, 1) := by decide +kernel
theorem dX6_hasWord_18 : decode cX6_hasWord 18 = .ok (.goto 4, 3) := by decide +kernel
theorem dX6_hasWord_22 : decode cX6_hasWord 22 = .ok (.ireturn, 1) := by decide +kernel
theorem tw_229 : (.code yX6_hasWord cX6_hasWord 2 (some .boolean) : Cond) ∈ tw_W := tw_in (by decide +kernel) (by decide +kernel)
theorem tw_230 : ∀ w ∈ ([.methodLink RX6 68 yX6_hasWord, .instanceMethod yX6_hasWord, .selects RX6 yX6_hasWord yX6_hasWord, .initialized RX6] : List Cond), w ∈ tw_W := tw_all (by decide +kernel)
theorem dX6_tick_26 : decode cX6_tick 26 = .ok (.ifCond .ne 9, 3) := by decide +kernel
theorem dX6_tick_35 : decode cX6_tick 35 = .ok (.aload_n 0, 1) := by decide +kernel
theorem dX6_tick_36 : decode cX6_tick 36 = .ok (.aload_n 0, 1) := by decide +kernel
theorem dX6_tick_37 : decode cX6_tick 37 = .ok (.getfield 25, 3) := by decide +kernel
theorem dX6_tick_40 : decode cX6_tick 40 = .ok (.invokevirtual 72, 3) := by decide +kernel
theorem dX6_wordAt_0 : decode cX6_wordAt 0 = .ok (.iload_n 1, 1) := by decide +kernel
theorem dX6_wordAt_1 : decode cX6_wordAt 1 = .ok (.iconst 2, 1) := by decide +kernel
theorem dX6_wordAt_2 : decode cX6_wordAt 2 = .ok (.iushr, 1) := by decide +kernel
theorem dX6_wordAt_3 : decode cX6_wordAt 3 = .ok (.istore_n 2, 1) := by decide +kernel
theorem dX6_wordAt_4 : decode cX6_wordAt 4 = .ok (.iload_n 2, 1) := by decide +kernel
theorem dX6_wordAt_5 : decode cX6_wordAt 5 = .ok (.aload_n 0, 1) := by decide +kernel
theorem dX6_wordAt_6 : decode cX6_wordAt 6 = .ok (.getfield 18, 3) := by decide +kernel
theorem dX6_wordAt_9 : decode cX6_wordAt 9 = .ok (.arraylength, 1) := by decide +kernel
theorem dX6_wordAt_10 : decode cX6_wordAt 10 = .ok (.if_icmp .ge 12, 3) := by decide +kernel
theorem dX6_wordAt_13 : decode cX6_wordAt 13 = .ok (.aload_n 0, 1) := by decide +kernel
theorem dX6_wordAt_14 : decode cX6_wordAt 14 = .ok (.getfield 18, 3) := by decide +kernel
theorem dX6_wordAt_17 : decode cX6_wordAt 17 = .ok (.iload_n 2, 1) := by decide +kernel
theorem dX6_wordAt_18 : decode cX6_wordAt 18 = .ok (.iaload, 1) := by decide +kernel
theorem dX6_wordAt_19 : decode cX6_wordAt 19 = .ok (.goto 4, 3) := by decide +kernel
theorem dX6_wordAt_23 : decode cX6_wordAt 23 = .ok (.ireturn, 1) := by decide +kernel
theorem tw_231 : (.code yX6_wordAt cX6_wordAt 3 (some .int) : Cond) ∈ tw_W := tw_in (by decide +kernel) (by decide +kernel)
theorem tw_232 : ∀ w ∈ ([.methodLink RX6 72 yX6_wordAt, .instanceMethod yX6_wordAt, .selects RX6 yX6_wordAt yX6_wordAt, .initialized RX6] : List Cond), w ∈ tw_W := tw_all (by decide +kernel)
theorem dX6_tick_43 : decode cX6_tick 43 = .ok (.istore_n 1, 1) := by decide +kernel
theorem dX6_tick_44 : decode cX6_tick 44 = .ok (.iload_n 1, 1) := by decide +kernel
theorem dX6_tick_45 : decode cX6_tick 45 = .ok (.invokestatic 73, 3) := by decide +kernel
theorem dX4_kindOf_0 : decode cX4_kindOf 0 = .ok (.iload_n 0, 1) := by decide +kernel
theorem dX4_kindOf_1 : decode cX4_kindOf 1 = .ok (.bipush 12, 2) := by decide +kernel
theorem dX4_kindOf_3 : decode cX4_kindOf 3 = .ok (.iushr, 1) := by decide +kernel
theorem dX4_kindOf_4 : decode cX4_kindOf 4 = .ok (.bipush 7, 2) := by decide +kernel
theorem dX4_kindOf_6 : decode cX4_kindOf 6 = .ok (.iand, 1) := by decide +kernel
theorem dX4_kindOf_7 : decode cX4_kindOf 7 = .ok (.istore_n 1, 1) := by decide +kernel
theorem dX4_kindOf_8 : decode cX4_kindOf 8 = .ok (.iload_n 0, 1) := by decide +kernel
theorem dX4_kindOf_9 : decode cX4_kindOf 9 = .ok (.bipush 127, 2) := by decide +kernel
theorem dX4_kindOf_11 : decode cX4_kindOf 11 = .ok (.iand, 1) := by decide +kernel
theorem dX4_kindOf_12 : decode cX4_kindOf 12 = .ok (.lookupswitch 190 #[(3, 123), (15, 153), (19, 135), (23, 102), (35, 129), (51, 144), (55, 100), (99, 117), (103, 106), (111, 104), (115, 165)], 100) := by decide +kernel
theorem dX4_kindOf_202 : decode cX4_kindOf 202 = .ok (.bipush 40, 2) := by decide +kernel
theorem dX4_kindOf_204 : decode cX4_kindOf 204 = .ok (.ireturn, 1) := by decide +kernel
theorem tw_233 : (.code yX4_kindOf cX4_kindOf 2 (some .int) : Cond) ∈ tw_W := tw_in (by decide +kernel) (by decide +kernel)
theorem tw_234 : ∀ w ∈ ([.methodLink RX6 73 yX4_kindOf, .static yX4_kindOf, .initialized yX4_kindOf.cls] : List Cond), w ∈ tw_W := tw_all (by decide +kernel)
theorem dX6_tick_48 : decode cX6_tick 48 = .ok (.istore_n 2, 1) := by decide +kernel
theorem dX6_tick_49 : decode cX6_tick 49 = .ok (.aload_n 0, 1) := by decide +kernel
theorem dX6_tick_50 : decode cX6_tick 50 = .ok (.aload_n 0, 1) := by decide +kernel
theorem dX6_tick_51 : decode cX6_tick 51 = .ok (.getfield 25, 3) := by decide +kernel
theorem dX6_tick_54 : decode cX6_tick 54 = .ok (.iconst 4, 1) := by decide +kernel
theorem dX6_tick_55 : decode cX6_tick 55 = .ok (.iadd, 1) := by decide +kernel
theorem dX6_tick_56 : decode cX6_tick 56 = .ok (.putfield 78, 3) := by decide +kernel
theorem tw_235 : (.fieldLink RX6 78 "PocketCompiler$Processor" "next" "I" : Cond) ∈ tw_W := tw_in (by decide +kernel) (by decide +kernel)
theorem dX6_tick_59 : decode cX6_tick 59 = .ok (.aload_n 0, 1) := by decide +kernel
theorem dX6_tick_60 : decode cX6_tick 60 = .ok (.iload_n 2, 1) := by decide +kernel
theorem dX6_tick_61 : decode cX6_tick 61 = .ok (.iload_n 1, 1) := by decide +kernel
theorem dX6_tick_62 : decode cX6_tick 62 = .ok (.invokevirtual 81, 3) := by decide +kernel
theorem dX6_perform_0 : decode cX6_perform 0 = .ok (.aload_n 0, 1) := by decide +kernel
theorem dX6_perform_1 : decode cX6_perform 1 = .ok (.iload_n 2, 1) := by decide +kernel
theorem dX6_perform_2 : decode cX6_perform 2 = .ok (.invokestatic 84, 3) := by decide +kernel
theorem dX4_first_0 : decode cX4_first 0 = .ok (.iload_n 0, 1) := by decide +kernel
theorem dX4_first_1 : decode cX4_first 1 = .ok (.bipush 15, 2) := by decide +kernel
theorem dX4_first_3 : decode cX4_first 3 = .ok (.iushr, 1) := by decide +kernel
theorem dX4_first_4 : decode cX4_first 4 = .ok (.bipush 31, 2) := by decide +kernel
theorem dX4_first_6 : decode cX4_first 6 = .ok (.iand, 1) := by decide +kernel
theorem dX4_first_7 : decode cX4_first 7 = .ok (.ireturn, 1) := by decide +kernel
theorem tw_236 : (.code yX4_first cX4_first 1 (some .int) : Cond) ∈ tw_W := tw_in (by decide +kernel) (by decide +kernel)
theorem tw_237 : ∀ w ∈ ([.methodLink RX6 84 yX4_first, .static yX4_first, .initialized yX4_first.cls] : List Cond), w ∈ tw_W := tw_all (by decide +kernel)
theorem dX6_perform_5 : decode cX6_perform 5 = .ok (.invokevirtual 87, 3) := by decide +kernel
theorem dX6_valueOf_0 : decode cX6_valueOf 0 = .ok (.aload_n 0, 1) := by decide +kernel
theorem dX6_valueOf_1 : decode cX6_valueOf 1 = .ok (.getfield 9, 3) := by decide +kernel
theorem dX6_valueOf_4 : decode cX6_valueOf 4 = .ok (.iload_n 1, 1) := by decide +kernel
theorem dX6_valueOf_5 : decode cX6_valueOf 5 = .ok (.bipush 31, 2) := by decide +kernel
theorem dX6_valueOf_7 : decode cX6_valueOf 7 = .ok (.iand, 1) := by decide +kernel
theorem dX6_valueOf_8 : decode cX6_valueOf 8 = .ok (.iaload, 1) := by decide +kernel
theorem dX6_valueOf_9 : decode cX6_valueOf 9 = .ok (.ireturn, 1) := by decide +kernel
theorem tw_238 : (.code yX6_valueOf cX6_valueOf 2 (some .int) : Cond) ∈ tw_W := tw_in (by decide +kernel) (by decide +kernel)
theorem tw_239 : ∀ w ∈ ([.methodLink RX6 87 yX6_valueOf, .instanceMethod yX6_valueOf, .selects RX6 yX6_valueOf yX6_valueOf, .initialized RX6] : List Cond), w ∈ tw_W := tw_all (by decide +kernel)
theorem dX6_perform_8 : decode cX6_perform 8 = .ok (.istore_n 3, 1) := by decide +kernel
theorem dX6_perform_9 : decode cX6_perform 9 = .ok (.aload_n 0, 1) := by decide +kernel
theorem dX6_perform_10 : decode cX6_perform 10 = .ok (.iload_n 2, 1) := by decide +kernel
theorem dX6_perform_11 : decode cX6_perform 11 = .ok (.invokestatic 90, 3) := by decide +kernel
theorem dX4_second_0 : decode cX4_second 0 = .ok (.iload_n 0, 1) := by decide +kernel
theorem dX4_second_1 : decode cX4_second 1 = .ok (.bipush 20, 2) := by decide +kernel
theorem dX4_second_3 : decode cX4_second 3 = .ok (.iushr, 1) := by decide +kernel
theorem dX4_second_4 : decode cX4_second 4 = .ok (.bipush 31, 2) := by decide +kernel
theorem dX4_second_6 : decode cX4_second 6 = .ok (.iand, 1) := by decide +kernel
theorem dX4_second_7 : decode cX4_second 7 = .ok (.ireturn, 1) := by decide +kernel
theorem tw_240 : (.code yX4_second cX4_second 1 (some .int) : Cond) ∈ tw_W := tw_in (by decide +kernel) (by decide +kernel)
theorem tw_241 : ∀ w ∈ ([.methodLink RX6 90 yX4_second, .static yX4_second, .initialized yX4_second.cls] : List Cond), w ∈ tw_W := tw_all (by decide +kernel)
theorem dX6_perform_14 : decode cX6_perform 14 = .ok (.invokevirtual 87, 3) := by decide +kernel
theorem dX6_perform_17 : decode cX6_perform 17 = .ok (.istore 4, 2) := by decide +kernel
theorem dX6_perform_19 : decode cX6_perform 19 = .ok (.iload_n 2, 1) := by decide +kernel
theorem dX6_perform_20 : decode cX6_perform 20 = .ok (.iload_n 1, 1) := by decide +kernel
theorem dX6_perform_21 : decode cX6_perform 21 = .ok (.invokestatic 93, 3) := by decide +kernel
theorem dX4_number_0 : decode cX4_number 0 = .ok (.iload_n 1, 1) := by decide +kernel
theorem dX4_number_1 : decode cX4_number 1 = .ok (.ifCond .eq 8, 3) := by decide +kernel
theorem dX4_number_4 : decode cX4_number 4 = .ok (.iload_n 1, 1) := by decide +kernel
theorem dX4_number_5 : decode cX4_number 5 = .ok (.iconst 1, 1) := by decide +kernel
theorem dX4_number_6 : decode cX4_number 6 = .ok (.if_icmp .ne 9, 3) := by decide +kernel
theorem dX4_number_15 : decode cX4_number 15 = .ok (.iload_n 1, 1) := by decide +kernel
theorem dX4_number_16 : decode cX4_number 16 = .ok (.iconst 2, 1) := by decide +kernel
theorem dX4_number_17 : decode cX4_number 17 = .ok (.if_icmp .ne 44, 3) := by decide +kernel
theorem dX4_number_61 : decode cX4_number 61 = .ok (.iload_n 1, 1) := by decide +kernel
theorem dX4_number_62 : decode cX4_number 62 = .ok (.iconst 4, 1) := by decide +kernel
theorem dX4_number_63 : decode cX4_number 63 = .ok (.if_icmp .lt 47, 3) := by decide +kernel
theorem dX4_number_66 : decode cX4_number 66 = .ok (.iload_n 1, 1) := by decide +kernel
theorem dX4_number_67 : decode cX4_number 67 = .ok (.bipush 9, 2) := by decide +kernel
theorem dX4_number_69 : decode cX4_number 69 = .ok (.if_icmp .gt 41, 3) := by decide +kernel
theorem dX4_number_110 : decode cX4_number 110 = .ok (.iload_n 1, 1) := by decide +kernel
theorem dX4_number_111 : decode cX4_number 111 = .ok (.bipush 15, 2) := by decide +kernel
theorem dX4_number_113 : decode cX4_number 113 = .ok (.if_icmp .lt 24, 3) := by decide +kernel
theorem dX4_number_116 : decode cX4_number 116 = .ok (.iload_n 1, 1) := by decide +kernel
theorem dX4_number_117 : decode cX4_number 117 = .ok (.bipush 17, 2) := by decide +kernel
theorem dX4_number_119 : decode cX4_number 119 = .ok (.if_icmp .gt 18, 3) := by decide +kernel
theorem dX4_number_137 : decode cX4_number 137 = .ok (.iload_n 1, 1) := by decide +kernel
theorem dX4_number_138 : decode cX4_number 138 = .ok (.bipush 24, 2) := by decide +kernel
theorem dX4_number_140 : decode cX4_number 140 = .ok (.if_icmp .lt 16, 3) := by decide +kernel
theorem dX4_number_143 : decode cX4_number 143 = .ok (.iload_n 1, 1) := by decide +kernel
theorem dX4_number_144 : decode cX4_number 144 = .ok (.bipush 26, 2) := by decide +kernel
theorem dX4_number_146 : decode cX4_number 146 = .ok (.if_icmp .gt 10, 3) := by decide +kernel
theorem dX4_number_156 : decode cX4_number 156 = .ok (.iload_n 0, 1) := by decide +kernel
theorem dX4_number_157 : decode cX4_number 157 = .ok (.bipush 20, 2) := by decide +kernel
theorem dX4_number_159 : decode cX4_number 159 = .ok (.ishr, 1) := by decide +kernel
theorem dX4_number_160 : decode cX4_number 160 = .ok (.ireturn, 1) := by decide +kernel
theorem tw_242 : (.code yX4_number cX4_number 2 (some .int) : Cond) ∈ tw_W := tw_in (by decide +kernel) (by decide +kernel)
theorem tw_243 : ∀ w ∈ ([.methodLink RX6 93 yX4_number, .static yX4_number, .initialized yX4_number.cls] : List Cond), w ∈ tw_W := tw_all (by decide +kernel)
theorem dX6_perform_24 : decode cX6_perform 24 = .ok (.istore 5, 2) := by decide +kernel
theorem dX6_perform_26 : decode cX6_perform 26 = .ok (.iload_n 2, 1) := by decide +kernel
theorem dX6_perform_27 : decode cX6_perform 27 = .ok (.invokestatic 97, 3) := by decide +kernel
theorem dX4_target_0 : decode cX4_target 0 = .ok (.iload_n 0, 1) := by decide +kernel
theorem dX4_target_1 : decode cX4_target 1 = .ok (.bipush 7, 2) := by decide +kernel
theorem dX4_target_3 : decode cX4_target 3 = .ok (.iushr, 1) := by decide +kernel
theorem dX4_target_4 : decode cX4_target 4 = .ok (.bipush 31, 2) := by decide +kernel
theorem dX4_target_6 : decode cX4_target 6 = .ok (.iand, 1) := by decide +kernel
theorem dX4_target_7 : decode cX4_target 7 = .ok (.ireturn, 1) := by decide +kernel
theorem tw_244 : (.code yX4_target cX4_target 1 (some .int) : Cond) ∈ tw_W := tw_in (by decide +kernel) (by decide +kernel)
theorem tw_245 : ∀ w ∈ ([.methodLink RX6 97 yX4_target, .static yX4_target, .initialized yX4_target.cls] : List Cond), w ∈ tw_W := tw_all (by decide +kernel)
theorem dX6_perform_30 : decode cX6_perform 30 = .ok (.istore 6, 2) := by decide +kernel
theorem dX6_perform_32 : decode cX6_perform 32 = .ok (.iload_n 1, 1) := by decide +kernel
theorem dX6_perform_33 : decode cX6_perform 33 = .ok (.ifCond .ne 14, 3) := by decide +kernel
theorem dX6_perform_47 : decode cX6_perform 47 = .ok (.iload_n 1, 1) := by decide +kernel
theorem dX6_perform_48 : decode cX6_perform 48 = .ok (.iconst 1, 1) := by decide +kernel
theorem dX6_perform_49 : decode cX6_perform 49 = .ok (.if_icmp .ne 19, 3) := by decide +kernel
theorem dX6_perform_68 : decode cX6_perform 68 = .ok (.iload_n 1, 1) := by decide +kernel
theorem dX6_perform_69 : decode cX6_perform 69 = .ok (.iconst 2, 1) := by decide +kernel
theorem dX6_perform_70 : decode cX6_perform 70 = .ok (.if_icmp .ne 19, 3) := by decide +kernel
theorem dX6_perform_89 : decode cX6_perform 89 = .ok (.iload_n 1, 1) := by decide +kernel
theorem dX6_perform_90 : decode cX6_perform 90 = .ok (.iconst 3, 1) := by decide +kernel
theorem dX6_perform_91 : decode cX6_perform 91 = .ok (.if_icmp .ne 19, 3) := by decide +kernel
theorem dX6_perform_110 : decode cX6_perform 110 = .ok (.iload_n 1, 1) := by decide +kernel
theorem dX6_perform_111 : decode cX6_perform 111 = .ok (.bipush 9, 2) := by decide +kernel
theorem dX6_perform_113 : decode cX6_perform 113 = .ok (.if_icmp .gt 24, 3) := by decide +kernel
theorem dX6_perform_137 : decode cX6_perform 137 = .ok (.iload_n 1, 1) := by decide +kernel
theorem dX6_perform_138 : decode cX6_perform 138 = .ok (.bipush 14, 2) := by decide +kernel
theorem dX6_perform_140 : decode cX6_perform 140 = .ok (.if_icmp .gt 17, 3) := by decide +kernel
theorem dX6_perform_157 : decode cX6_perform 157 = .ok (.iload_n 1, 1) := by decide +kernel
theorem dX6_perform_158 : decode cX6_perform 158 = .ok (.bipush 17, 2) := by decide +kernel
theorem dX6_perform_160 : decode cX6_perform 160 = .ok (.if_icmp .gt 17, 3) := by decide +kernel
theorem dX6_perform_177 : decode cX6_perform 177 = .ok (.iload_n 1, 1) := by decide +kernel
theorem dX6_perform_178 : decode cX6_perform 178 = .ok (.bipush 26, 2) := by decide +kernel
theorem dX6_perform_180 : decode cX6_perform 180 = .ok (.if_icmp .gt 19, 3) := by decide +kernel
theorem dX6_perform_199 : decode cX6_perform 199 = .ok (.iload_n 1, 1) := by decide +kernel
theorem dX6_perform_200 : decode cX6_perform 200 = .ok (.bipush 36, 2) := by decide +kernel
theorem dX6_perform_202 : decode cX6_perform 202 = .ok (.if_icmp .gt 19, 3) := by decide +kernel
theorem dX6_perform_221 : decode cX6_perform 221 = .ok (.iload_n 1, 1) := by decide +kernel
theorem dX6_perform_222 : decode cX6_perform 222 = .ok (.bipush 38, 2) := by decide +kernel
theorem dX6_perform_224 : decode cX6_perform 224 = .ok (.if_icmp .ne 10, 3) := by decide +kernel
theorem dX6_perform_234 : decode cX6_perform 234 = .ok (.iload_n 1, 1) := by decide +kernel
theorem dX6_perform_235 : decode cX6_perform 235 = .ok (.bipush 39, 2) := by decide +kernel
theorem dX6_perform_237 : decode cX6_perform 237 = .ok (.if_icmp .ne 11, 3) := by decide +kernel
theorem dX6_perform_248 : decode cX6_perform 248 = .ok (.iload_n 1, 1) := by decide +kernel
theorem dX6_perform_249 : decode cX6_perform 249 = .ok (.bipush 37, 2) := by decide +kernel
theorem dX6_perform_251 : decode cX6_perform 251 = .ok (.if_icmp .eq 8, 3) := by decide +kernel
theorem dX6_perform_254 : decode cX6_perform 254 = .ok (.aload_n 0, 1) := by decide +kernel
theorem dX6_perform_255 : decode cX6_perform 255 = .ok (.iconst 2, 1) := by decide +kernel
theorem dX6_perform_256 : decode cX6_perform 256 = .ok (.putfield 33, 3) := by decide +kernel
theorem dX6_perform_259 : decode cX6_perform 259 = .ok (.return_, 1) := by decide +kernel
theorem tw_246 : (.code yX6_perform cX6_perform 7 none : Cond) ∈ tw_W := tw_in (by decide +kernel) (by decide +kernel)
theorem tw_247 : ∀ w ∈ ([.methodLink RX6 81 yX6_perform, .instanceMethod yX6_perform, .selects RX6 yX6_perform yX6_perform, .initialized RX6] : List Cond), w ∈ tw_W := tw_all (by decide +kernel)
theorem dX6_tick_65 : decode cX6_tick 65 = .ok (.aload_n 0, 1) := by decide +kernel
theorem dX6_tick_66 : decode cX6_tick 66 = .ok (.getfield 33, 3) := by decide +kernel
theorem dX6_tick_69 : decode cX6_tick 69 = .ok (.ifCond .ne 11, 3) := by decide +kernel
theorem dX6_tick_80 : decode cX6_tick 80 = .ok (.return_, 1) := by decide +kernel
theorem tw_248 : (.code yX6_tick cX6_tick 3 none : Cond) ∈ tw_W := tw_in (by decide +kernel) (by decide +kernel)
theorem tw_249 : ∀ w ∈ ([.methodLink RX11 163 yX6_tick, .instanceMethod yX6_tick, .selects RX6 yX6_tick yX6_tick, .initialized RX6] : List Cond), w ∈ tw_W := tw_all (by decide +kernel)
theorem dX11_step_7 : decode cX11_step 7 = .ok (.aload_n 0, 1) := by decide +kernel
theorem dX11_step_8 : decode cX11_step 8 = .ok (.getfield 66, 3) := by decide +kernel
theorem dX11_step_11 : decode cX11_step 11 = .ok (.getfield 166, 3) := by decide +kernel
theorem dX11_step_14 : decode cX11_step 14 = .ok (.ireturn, 1) := by decide +kernel
theorem dX11_result_0 : decode cX11_result 0 = .ok (.aload_n 0, 1) := by decide +kernel
theorem dX11_result_1 : decode cX11_result 1 = .ok (.getfield 66, 3) := by decide +kernel
theorem dX11_result_4 : decode cX11_result 4 = .ok (.getfield 166, 3) := by decide +kernel
theorem dX11_result_7 : decode cX11_result 7 = .ok (.iconst 1, 1) := by decide +kernel
theorem dX11_result_8 : decode cX11_result 8 = .ok (.if_icmp .ne 15, 3) := by decide +kernel
theorem dX11_result_23 : decode cX11_result 23 = .ok (.iconst 0, 1) := by decide +kernel
theorem dX11_result_24 : decode cX11_result 24 = .ok (.ireturn, 1) := by decide +kernel
theorem dX11_told_0 : decode cX11_told 0 = .ok (.aload_n 0, 1) := by decide +kernel
theorem dX11_told_1 : decode cX11_told 1 = .ok (.getfield 75, 3) := by decide +kernel
theorem dX11_told_4 : decode cX11_told 4 = .ok (.iload_n 1, 1) := by decide +kernel
theorem dX11_told_5 : decode cX11_told 5 = .ok (.invokevirtual 229, 3) := by decide +kernel
theorem dX10_fact_0 : decode cX10_fact 0 = .ok (.aload_n 0, 1) := by decide +kernel
theorem dX10_fact_1 : decode cX10_fact 1 = .ok (.getfield 33, 3) := by decide +kernel
theorem tw_250 : (.fieldLink RX10 33 "PocketCompiler$Worker" "hasWorked" "Z" : Cond) ∈ tw_W := tw_in (by decide +kernel) (by decide +kernel)
theorem dX10_fact_4 : decode cX10_fact 4 = .ok (.ifCond .ne 5, 3) := by decide +kernel
theorem dX10_fact_7 : decode cX10_fact 7 = .ok (.iconst (-1), 1) := by decide +kernel
theorem dX10_fact_8 : decode cX10_fact 8 = .ok (.ireturn, 1) := by decide +kernel
theorem tw_251 : (.code yX10_fact cX10_fact 2 (some .int) : Cond) ∈ tw_W := tw_in (by decide +kernel) (by decide +kernel)
theorem tw_252 : ∀ w ∈ ([.methodLink RX11 229 yX10_fact, .instanceMethod yX10_fact, .selects RX10 yX10_fact yX10_fact, .initialized RX10] : List Cond), w ∈ tw_W := tw_all (by decide +kernel)
theorem dX11_told_8 : decode cX11_told 8 = .ok (.ireturn, 1) := by decide +kernel
theorem dX11_count_0 : decode cX11_count 0 = .ok (.iload_n 1, 1) := by decide +kernel
theorem dX11_count_1 : decode cX11_count 1 = .ok (.tableswitch 161 0 10 #[59, 64, 72, 80, 88, 96, 104, 112, 120, 128, 136], 59) := by decide +kernel
theorem dX11_count_60 : decode cX11_count 60 = .ok (.aload_n 0, 1) := by decide +kernel
theorem dX11_count_61 : decode cX11_count 61 = .ok (.getfield 86, 3) := by decide +kernel
theorem dX11_count_64 : decode cX11_count 64 = .ok (.ireturn, 1) := by decide +kernel
theorem dX11_count_65 : decode cX11_count 65 = .ok (.aload_n 0, 1) := by decide +kernel
theorem dX11_count_66 : decode cX11_count 66 = .ok (.getfield 36, 3) := by decide +kernel
theorem dX11_count_69 : decode cX11_count 69 = .ok (.getfield 246, 3) := by decide +kernel
theorem tw_253 : (.fieldLink RX11 246 "PocketCompiler$Program" "wordCount" "I" : Cond) ∈ tw_W := tw_in (by decide +kernel) (by decide +kernel)
theorem dX11_count_72 : decode cX11_count 72 = .ok (.ireturn, 1) := by decide +kernel
theorem dX11_count_73 : decode cX11_count 73 = .ok (.aload_n 0, 1) := by decide +kernel
theorem dX11_count_74 : decode cX11_count 74 = .ok (.getfield 36, 3) := by decide +kernel
theorem dX11_count_77 : decode cX11_count 77 = .ok (.getfield 142, 3) := by decide +kernel
theorem tw_254 : (.fieldLink RX11 142 "PocketCompiler$Program" "functionCount" "I" : Cond) ∈ tw_W := tw_in (by decide +kernel) (by decide +kernel)
theorem dX11_count_80 : decode cX11_count 80 = .ok (.ireturn, 1) := by decide +kernel
theorem dX11_count_81 : decode cX11_count 81 = .ok (.aload_n 0, 1) := by decide +kernel
theorem dX11_count_82 : decode cX11_count 82 = .ok (.getfield 36, 3) := by decide +kernel
theorem dX11_count_85 : decode cX11_count 85 = .ok (.getfield 145, 3) := by decide +kernel
theorem tw_255 : (.fieldLink RX11 145 "PocketCompiler$Program" "globalCount" "I" : Cond) ∈ tw_W := tw_in (by decide +kernel) (by decide +kernel)
theorem dX11_count_88 : decode cX11_count 88 = .ok (.ireturn, 1) := by decide +kernel
theorem dX11_count_89 : decode cX11_count 89 = .ok (.aload_n 0, 1) := by decide +kernel
theorem dX11_count_90 : decode cX11_count 90 = .ok (.getfield 36, 3) := by decide +kernel
theorem dX11_count_93 : decode cX11_count 93 = .ok (.getfield 249, 3) := by decide +kernel
theorem tw_256 : (.fieldLink RX11 249 "PocketCompiler$Program" "limit" "I" : Cond) ∈ tw_W := tw_in (by decide +kernel) (by decide +kernel)
theorem dX11_count_96 : decode cX11_count 96 = .ok (.ireturn, 1) := by decide +kernel
theorem dX11_count_97 : decode cX11_count 97 = .ok (.aload_n 0, 1) := by decide +kernel
theorem dX11_count_98 : decode cX11_count 98 = .ok (.getfield 66, 3) := by decide +kernel
theorem dX11_count_101 : decode cX11_count 101 = .ok (.getfield 166, 3) := by decide +kernel
theorem dX11_count_104 : decode cX11_count 104 = .ok (.ireturn, 1) := by decide +kernel
theorem dX11_count_105 : decode cX11_count 105 = .ok (.aload_n 0, 1) := by decide +kernel
theorem dX11_count_106 : decode cX11_count 106 = .ok (.getfield 66, 3) := by decide +kernel
theorem dX11_count_109 : decode cX11_count 109 = .ok (.getfield 252, 3) := by decide +kernel
theorem dX11_count_112 : decode cX11_count 112 = .ok (.ireturn, 1) := by decide +kernel
theorem dX11_count_113 : decode cX11_count 113 = .ok (.aload_n 0, 1) := by decide +kernel
theorem dX11_count_114 : decode cX11_count 114 = .ok (.getfield 66, 3) := by decide +kernel
theorem dX11_count_117 : decode cX11_count 117 = .ok (.getfield 202, 3) := by decide +kernel
theorem dX11_count_120 : decode cX11_count 120 = .ok (.ireturn, 1) := by decide +kernel
theorem dX11_count_121 : decode cX11_count 121 = .ok (.aload_n 0, 1) := by decide +kernel
theorem dX11_count_122 : decode cX11_count 122 = .ok (.getfield 20, 3) := by decide +kernel
theorem dX11_count_125 : decode cX11_count 125 = .ok (.getfield 255, 3) := by decide +kernel
theorem dX11_count_128 : decode cX11_count 128 = .ok (.ireturn, 1) := by decide +kernel
theorem dX11_count_129 : decode cX11_count 129 = .ok (.aload_n 0, 1) := by decide +kernel
theorem dX11_count_130 : decode cX11_count 130 = .ok (.getfield 66, 3) := by decide +kernel
theorem dX11_count_133 : decode cX11_count 133 = .ok (.invokevirtual 258, 3) := by decide +kernel
theorem dX6_size_0 : decode cX6_size 0 = .ok (.aload_n 0, 1) := by decide +kernel
theorem dX6_size_1 : decode cX6_size 1 = .ok (.getfield 18, 3) := by decide +kernel
theorem dX6_size_4 : decode cX6_size 4 = .ok (.arraylength, 1) := by decide +kernel
theorem dX6_size_5 : decode cX6_size 5 = .ok (.ireturn, 1) := by decide +kernel
theorem tw_257 : (.code yX6_size cX6_size 1 (some .int) : Cond) ∈ tw_W := tw_in (by decide +kernel) (by decide +kernel)
theorem tw_258 : ∀ w ∈ ([.methodLink RX11 258 yX6_size, .instanceMethod yX6_size, .selects RX6 yX6_size yX6_size, .initialized RX6] : List Cond), w ∈ tw_W := tw_all (by decide +kernel)
theorem dX11_count_136 : decode cX11_count 136 = .ok (.ireturn, 1) := by decide +kernel
theorem dX11_count_137 : decode cX11_count 137 = .ok (.aload_n 0, 1) := by decide +kernel
theorem dX11_count_138 : decode cX11_count 138 = .ok (.getfield 66, 3) := by decide +kernel
theorem dX11_count_141 : decode cX11_count 141 = .ok (.getfield 166, 3) := by decide +kernel
theorem dX11_count_144 : decode cX11_count 144 = .ok (.iconst 1, 1) := by decide +kernel
theorem dX11_count_145 : decode cX11_count 145 = .ok (.if_icmp .ne 15, 3) := by decide +kernel
theorem dX11_count_160 : decode cX11_count 160 = .ok (.iconst 0, 1) := by decide +kernel
theorem dX11_count_161 : decode cX11_count 161 = .ok (.ireturn, 1) := by decide +kernel
theorem dX11_count_162 : decode cX11_count 162 = .ok (.iconst (-1), 1) := by decide +kernel
theorem dX11_count_163 : decode cX11_count 163 = .ok (.ireturn, 1) := by decide +kernel
theorem dX11_octet_0 : decode cX11_octet 0 = .ok (.aload_n 0, 1) := by decide +kernel
theorem dX11_octet_1 : decode cX11_octet 1 = .ok (.getfield 27, 3) := by decide +kernel
theorem dX11_octet_4 : decode cX11_octet 4 = .ok (.iload_n 1, 1) := by decide +kernel
theorem dX11_octet_5 : decode cX11_octet 5 = .ok (.invokevirtual 216, 3) := by decide +kernel
theorem dX8_byteAt_0 : decode cX8_byteAt 0 = .ok (.iload_n 1, 1) := by decide +kernel
theorem dX8_byteAt_1 : decode cX8_byteAt 1 = .ok (.ifCond .lt 25, 3) := by decide +kernel
theorem dX8_byteAt_26 : decode cX8_byteAt 26 = .ok (.iconst (-1), 1) := by decide +kernel
theorem dX8_byteAt_27 : decode cX8_byteAt 27 = .ok (.ireturn, 1) := by decide +kernel
theorem dX8_byteAt_4 : decode cX8_byteAt 4 = .ok (.iload_n 1, 1) := by decide +kernel
theorem dX8_byteAt_5 : decode cX8_byteAt 5 = .ok (.aload_n 0, 1) := by decide +kernel
theorem dX8_byteAt_6 : decode cX8_byteAt 6 = .ok (.getfield 12, 3) := by decide +kernel
theorem dX8_byteAt_9 : decode cX8_byteAt 9 = .ok (.invokevirtual 18, 3) := by decide +kernel
theorem dJ4_length_8abf5_0 : decode cJ4_length_8abf5 0 = .ok (.aload_n 0, 1) := by decide +kernel
theorem dJ4_length_8abf5_1 : decode cJ4_length_8abf5 1 = .ok (.invokespecial 343, 3) := by decide +kernel
theorem dJ5_length_8abf5_0 : decode cJ5_length_8abf5 0 = .ok (.aload_n 0, 1) := by decide +kernel
theorem dJ5_length_8abf5_1 : decode cJ5_length_8abf5 1 = .ok (.getfield 79, 3) := by decide +kernel
theorem tw_259 : (.fieldLink RJ5 79 "java/lang/AbstractStringBuilder" "count" "I" : Cond) ∈ tw_W := tw_in (by decide +kernel) (by decide +kernel)
theorem dJ5_length_8abf5_4 : decode cJ5_length_8abf5 4 = .ok (.ireturn, 1) := by decide +kernel
theorem tw_260 : (.code yJ5_length_8abf5 cJ5_length_8abf5 1 (some .int) : Cond) ∈ tw_W := tw_in (by decide +kernel) (by decide +kernel)
theorem tw_261 : ∀ w ∈ ([.methodLink RJ4 343 yJ5_length_8abf5, .sameMethod yJ5_length_8abf5.cls yJ5_length_8abf5.cls yJ5_length_8abf5.name yJ5_length_8abf5.desc, .superclass RJ4 yJ5_length_8abf5.cls, .instanceMethod yJ5_length_8abf5, .initialized yJ5_length_8abf5.cls] : List Cond), w ∈ tw_W := tw_all (by decide +kernel)
theorem dJ4_length_8abf5_4 : decode cJ4_length_8abf5 4 = .ok (.ireturn, 1) := by decide +kernel
theorem tw_262 : (.code yJ4_length_8abf5 cJ4_length_8abf5 1 (some .int) : Cond) ∈ tw_W := tw_in (by decide +kernel) (by decide +kernel)
theorem tw_263 : ∀ w ∈ ([.methodLink RX8 18 yJ4_length_8abf5, .instanceMethod yJ4_length_8abf5, .selects RJ4 yJ4_length_8abf5 yJ4_length_8abf5, .initialized RJ4] : List Cond), w ∈ tw_W := tw_all (by decide +kernel)
theorem dX8_byteAt_12 : decode cX8_byteAt 12 = .ok (.if_icmp .ge 14, 3) := by decide +kernel
theorem tw_264 : (.code yX8_byteAt cX8_byteAt 2 (some .int) : Cond) ∈ tw_W := tw_in (by decide +kernel) (by decide +kernel)
theorem tw_265 : ∀ w ∈ ([.methodLink RX11 216 yX8_byteAt, .instanceMethod yX8_byteAt, .selects RX8 yX8_byteAt yX8_byteAt, .initialized RX8] : List Cond), w ∈ tw_W := tw_all (by decide +kernel)
theorem dX11_octet_8 : decode cX11_octet 8 = .ok (.ireturn, 1) := by decide +kernel
set_option maxHeartbeats 4000000 in
set_option maxRecDepth 100000 in
/-- X11_end on a new object -/
theorem c_X11_end (l : Launch) (dC : Nat → ClassId) (dI : Nat → Nat → Nat) (cI cB cZ cJ cR : ClassId) (tb : Nat → Nat) (sz : Nat) (h0 : Nat) (pa : Int32) (q1 : Nat) (q9 : Nat) (q18 : Nat) (q27 : Nat) (q42 : Nat) (q2 : Nat) (q45 : Nat) (q50 : Nat) (q5 : Nat)  : Met l yX11_end (Cond.code yX11_end cX11_end 2 (some .boolean) :: tw_W) ({ frames := 0, cells := 0, slots := 0, locals := 0 }) (pc_ (dC, dI) (tyS cI cB cZ cJ cR) tb [(h0, .inr (14, [.ref q1, .int 0, .ref q9, .ref q18, .ref q27, .ref q42, .int 0, .int (-1), .ref q2, .ref q45, .ref q50, .ref q5]))] sz [.ref h0, .int pa]) (qi_ (dC, dI) [(h0, .inr (14, [.ref q1, .int 0, .ref q9, .ref q18, .ref q27, .ref q42, .int 0, .int (-1), .ref q2, .ref q45, .ref q50, .ref q5]))] sz (fun (r : Int32) (u : Unit) => r = (if pa < 0 then 0 else (if pa ≤ 0 then 1 else 0))) (fun (u : Unit) => [])) 0 0 (va_A [(h0, .inr (14, [.ref q1, .int 0, .ref q9, .ref q18, .ref q27, .ref q42, .int 0, .int (-1), .ref q2, .ref q45, .ref q50, .ref q5]))] sz) := by
  refine Met.ofW (cc := cX11_end) (maxL := 2) (ret := (some .boolean)) (by decide) rfl ?_
  intro p e s m args below meth c s₁ B hml hv
  obtain ⟨rfl, hsz, hP, hKK, hD0, hFx⟩ := hv
  have hK := hKK.1
  have hx := B.exec
  have hb := B.bytes
  have hr := B.returns
  have ht : ∀ w ∈ tw_W, w.before _ s = true := fun w h => atoms_spec (ws := Cond.code yX11_end cX11_end 2 (some .boolean) :: tw_W) B.pre w (List.mem_cons_of_mem _ h)
  have hown : s.vm.findClass RX11 = some m.cls := findClass_of_methodNamed B.named
  have hlocks := B.notSynchronized
  subst hsz
  unfold qi_
  have hD := hD0.self (sz := s.heap.size)
  generalize hAe : va_A [(h0, .inr (14, [.ref q1, .int 0, .ref q9, .ref q18, .ref q27, .ref q42, .int 0, .int (-1), .ref q2, .ref q45, .ref q50, .ref q5]))] s.heap.size = A at hD hFx ⊢
  have hA : ∀ q : Nat, s.heap.size ≤ q → A q := fun q h => by rw [← hAe]; exact Or.inr h
  have hS : va_S A s.heap s.heap [] := va_S.rf
  have hP : va_P (dC, dI) vwCl [(h0, .inr (14, [.ref q1, .int 0, .ref q9, .ref q18, .ref q27, .ref q42, .int 0, .int (-1), .ref q2, .ref q45, .ref q50, .ref q5]))] s.heap := hP
  have hl := lv_entry ([.ref h0, .int pa]) (n := 2) (Nat.le_of_ble_eq_true rfl)
  rw [lg_entry_eq]
  generalize (lg_sl ([.ref h0, .int pa]) ++ List.replicate (2 - (lg_sl ([.ref h0, .int pa])).length) Slot.unset).toArray = ls at hl ⊢
  have hl : lv_has ls 2 [(0, .ref h0), (1, .int pa)] := hl
  refine lv_iload_n hx hb dX11_end_0 rfl (lv_at hl 1 rfl) ?_
  refine lv_if_lt (tgt := 12) hx hb dX11_end_1 (by decide) (fun h1 => ?_) (fun h1 => ?_)
  · refine lv_iconst (v := 0) hx hb dX11_end_12 (by decide) ?_
    have hP9 := hP.sub (ws' := []) [] rfl
    have hD9 := hD.sub (ws' := []) [] (by decide) rfl
    refine W.widen (k := 0) (n := 0) (by omega) (by omega) ?_
    exact W.zret (v := 0) hx hb hr rfl (fun t ht9 hW => ⟨⟨0, (), rfl, (by rw [if_pos h1]), by rw [ht9]; exact hP9, hD9⟩, hS.F ht9⟩) hS.2.2 dX11_end_13
  · refine lv_iload_n hx hb dX11_end_4 rfl (lv_at hl 1 rfl) ?_
    refine lv_aload_n hx hb dX11_end_5 rfl (lv_at hl 0 rfl) ?_
    refine va_get (D := (dC, dI)) (ci := 14) (v := .int 0) (C := RX11) (T := TX11) (N := 12) hx hb ht itX11 hown hK hP 0 rfl rfl 1 (by decide) (ht _ tw_212) (fun _ h9 => h9) rfl dX11_end_6 ?_
    refine lv_icmp_le (tgt := 14) hx hb dX11_end_9 (by decide) (fun h2 => ?_) (fun h2 => ?_)
    · refine lv_aload_n hx hb dX11_end_14 rfl (lv_at hl 0 rfl) ?_
      refine lv_iload_n hx hb dX11_end_15 rfl (lv_at hl 1 rfl) ?_
      refine va_put (D := (dC, dI)) (ci := 14) (v := .int pa) (ty := .int) (C := RX11) (T := TX11) (N := 12) hx hb ht itX11 tyX11 tyX11_ok nmX11 hown hK hP hD hS 0 rfl rfl 1 (by decide) (ht _ tw_212) (fun _ h9 => h9) rfl (by decide +kernel) rfl rfl (Nat.le_of_ble_eq_true rfl) dX11_end_16 (fun H locs hP hD hS => ?_)
      have hP : va_P (dC, dI) vwCl [(h0, .inr (14, [.ref q1, .int pa, .ref q9, .ref q18, .ref q27, .ref q42, .int 0, .int (-1), .ref q2, .ref q45, .ref q50, .ref q5]))] H := hP
      have hD : va_D A [(h0, .inr (14, [.ref q1, .int pa, .ref q9, .ref q18, .ref q27, .ref q42, .int 0, .int (-1), .ref q2, .ref q45, .ref q50, .ref q5]))] := hD
      refine lv_iconst (v := 1) hx hb dX11_end_19 (by decide) ?_
      have hP9 := hP.sub (ws' := []) [] rfl
      have hD9 := hD.sub (ws' := []) [] (by decide) rfl
      refine W.widen (k := 0) (n := 0) (by omega) (by omega) ?_
      exact W.zret (v := 1) hx hb hr rfl (fun t ht9 hW => ⟨⟨1, (), rfl, (by rw [if_neg h1, if_pos h2]), by rw [ht9]; exact hP9, hD9⟩, hS.F ht9⟩) hS.2.2 dX11_end_20
    · refine lv_iconst (v := 0) hx hb dX11_end_12 (by decide) ?_
      have hP9 := hP.sub (ws' := []) [] rfl
      have hD9 := hD.sub (ws' := []) [] (by decide) rfl
      refine W.widen (k := 0) (n := 0) (by omega) (by omega) ?_
      exact W.zret (v := 0) hx hb hr rfl (fun t ht9 hW => ⟨⟨0, (), rfl, (by rw [if_neg h1, if_neg h2]), by rw [ht9]; exact hP9, hD9⟩, hS.F ht9⟩) hS.2.2 dX11_end_13
set_option maxHeartbeats 4000000 in
set_option maxRecDepth 100000 in
theorem c_X11_tapeNumber (l : Launch) (dC : Nat → ClassId) (dI : Nat → Nat → Nat) (cI cB cZ cJ cR : ClassId) (tb : Nat → Nat) (sz : Nat) (a0_ : Nat) (x0_ : Int32) (a1_ : Nat) (a2_ : Nat) (a3_ : Nat) (a4_ : Nat) (a5_ : Nat) (a6_ : Nat) (a7_ : Nat) (a8_ : Nat) (a9_ : Nat)  : Met l yX11_tapeNumber (Cond.code yX11_tapeNumber cX11_tapeNumber 3 none :: tw_W) ({ frames := 0, cells := 0, slots := 0, locals := 0 }) (pc_ (dC, dI) (tyS cI cB cZ cJ cR) tb [(a0_, .inr (14, [.ref a1_, .int 0, .ref a2_, .ref a3_, .ref a4_, .ref a5_, .int 0, .int (-1), .ref a6_, .ref a7_, .ref a8_, .ref a9_])), (a1_, .inl (cI, 4000, .inl (fun _ => 0)))] sz [.ref a0_, .int x0_]) (qv_ (dC, dI) [(a0_, .inr (14, [.ref a1_, .int 0, .ref a2_, .ref a3_, .ref a4_, .ref a5_, .int 0, .int (-1), .ref a6_, .ref a7_, .ref a8_, .ref a9_])), (a1_, .inl (cI, 4000, .inl (fun _ => 0)))] sz (fun (u : Unit) => True) (fun (u : Unit) => [(a0_, .inr (14, [.ref a1_, .int 4, .ref a2_, .ref a3_, .ref a4_, .ref a5_, .int 0, .int (-1), .ref a6_, .ref a7_, .ref a8_, .ref a9_])), (a1_, .inl (cI, 4000, .inl (upd (upd (upd (upd (fun _ => 0) 0 (((x0_.toUInt32 >>> ((24 : Int32).toUInt32 &&& Int32.toUInt32 31)).toInt32) &&& 255)) 1 (((x0_.toUInt32 >>> ((16 : Int32).toUInt32 &&& Int32.toUInt32 31)).toInt32) &&& 255)) 2 (((x0_.toUInt32 >>> ((8 : Int32).toUInt32 &&& Int32.toUInt32 31)).toInt32) &&& 255)) 3 (((x0_.toUInt32 >>> ((0 : Int32).toUInt32 &&& Int32.toUInt32 31)).toInt32) &&& 255))))])) 0 0 (va_A [(a0_, .inr (14, [.ref a1_, .int 0, .ref a2_, .ref a3_, .ref a4_, .ref a5_, .int 0, .int (-1), .ref a6_, .ref a7_, .ref a8_, .ref a9_])), (a1_, .inl (cI, 4000, .inl (fun _ => 0)))] sz) := by
  refine Met.ofW (cc := cX11_tapeNumber) (maxL := 3) (ret := none) (by decide) rfl ?_
  intro p e s m args below meth c s₁ B hml hv
  obtain ⟨rfl, hsz, hP, hKK, hD0, hFx⟩ := hv
  have hK := hKK.1
  have hx := B.exec
  have hb := B.bytes
  have hr := B.returns
  have ht : ∀ w ∈ tw_W, w.before _ s = true := fun w h => atoms_spec (ws := Cond.code yX11_tapeNumber cX11_tapeNumber 3 none :: tw_W) B.pre w (List.mem_cons_of_mem _ h)
  have hown : s.vm.findClass RX11 = some m.cls := findClass_of_methodNamed B.named
  have hlocks := B.notSynchronized
  subst hsz
  unfold qv_
  have hD := hD0.self (sz := s.heap.size)
  generalize hAe : va_A [(a0_, .inr (14, [.ref a1_, .int 0, .ref a2_, .ref a3_, .ref a4_, .ref a5_, .int 0, .int (-1), .ref a6_, .ref a7_, .ref a8_, .ref a9_])), (a1_, .inl (cI, 4000, .inl (fun _ => 0)))] s.heap.size = A at hD hFx ⊢
  have hA : ∀ q : Nat, s.heap.size ≤ q → A q := fun q h => by rw [← hAe]; exact Or.inr h
  have hS : va_S A s.heap s.heap [] := va_S.rf
  have hP : va_P (dC, dI) vwCl [(a0_, .inr (14, [.ref a1_, .int 0, .ref a2_, .ref a3_, .ref a4_, .ref a5_, .int 0, .int (-1), .ref a6_, .ref a7_, .ref a8_, .ref a9_])), (a1_, .inl (cI, 4000, .inl (fun _ => 0)))] s.heap := hP
  have hl := lv_entry ([.ref a0_, .int x0_]) (n := 3) (Nat.le_of_ble_eq_true rfl)
  rw [lg_entry_eq]
  generalize (lg_sl ([.ref a0_, .int x0_]) ++ List.replicate (3 - (lg_sl ([.ref a0_, .int x0_])).length) Slot.unset).toArray = ls at hl ⊢
  have hl : lv_has ls 3 [(0, .ref a0_), (1, .int x0_)] := hl
  refine lv_bipush (v := 24) hx hb dX11_tapeNumber_0 (by decide) ?_
  refine lv_istore_n (lv' := [(2, .int 24), (0, .ref a0_), (1, .int x0_)]) hx hb dX11_tapeNumber_2 rfl hl (by decide) rfl (fun ls hl => ?_)
  refine lv_iload_n hx hb dX11_tapeNumber_3 rfl (lv_at hl 0 rfl) ?_
  refine lv_if_lt (tgt := 49) hx hb dX11_tapeNumber_4 (by decide) (fun k1 => absurd k1 (by decide)) (fun _ => ?_)
  refine lv_aload_n hx hb dX11_tapeNumber_7 rfl (lv_at hl 1 rfl) ?_
  refine va_get (D := (dC, dI)) (ci := 14) (v := .int 0) (C := RX11) (T := TX11) (N := 12) hx hb ht itX11 hown hK hP 0 rfl rfl 1 (by decide) (ht _ tw_212) (fun _ h9 => h9) rfl dX11_tapeNumber_8 ?_
  refine lv_sipush (v := 4000) hx hb dX11_tapeNumber_11 (by decide) ?_
  refine lv_icmp_ge (tgt := 49) hx hb dX11_tapeNumber_14 (by decide) (fun k2 => absurd k2 (by decide)) (fun _ => ?_)
  refine lv_aload_n hx hb dX11_tapeNumber_17 rfl (lv_at hl 1 rfl) ?_
  refine va_get (D := (dC, dI)) (ci := 14) (v := .ref a1_) (C := RX11) (T := TX11) (N := 12) hx hb ht itX11 hown hK hP 0 rfl rfl 0 (by decide) (ht _ tw_85) (fun _ h9 => h9) rfl dX11_tapeNumber_18 ?_
  refine lv_aload_n hx hb dX11_tapeNumber_21 rfl (lv_at hl 1 rfl) ?_
  refine va_get (D := (dC, dI)) (ci := 14) (v := .int 0) (C := RX11) (T := TX11) (N := 12) hx hb ht itX11 hown hK hP 0 rfl rfl 1 (by decide) (ht _ tw_212) (fun _ h9 => h9) rfl dX11_tapeNumber_22 ?_
  refine lv_iload_n hx hb dX11_tapeNumber_25 rfl (lv_at hl 2 rfl) ?_
  refine lv_iload_n hx hb dX11_tapeNumber_26 rfl (lv_at hl 0 rfl) ?_
  refine lv_iushr hx hb dX11_tapeNumber_27 rfl ?_
  refine lv_sipush (v := 255) hx hb dX11_tapeNumber_28 (by decide) ?_
  refine lv_iand hx hb dX11_tapeNumber_31 ?_
  refine va_iast (D := (dC, dI)) hx hb hK hP hD hS 1 0 rfl rfl (vp_in_iff.mpr (by decide)) dX11_tapeNumber_32 (fun H locs hP hD hS => ?_)
  have hP : va_P (dC, dI) vwCl [(a0_, .inr (14, [.ref a1_, .int 0, .ref a2_, .ref a3_, .ref a4_, .ref a5_, .int 0, .int (-1), .ref a6_, .ref a7_, .ref a8_, .ref a9_])), (a1_, .inl (cI, 4000, .inl (upd (fun _ => 0) 0 (((x0_.toUInt32 >>> ((24 : Int32).toUInt32 &&& Int32.toUInt32 31)).toInt32) &&& 255))))] H := hP
  have hD : va_D A [(a0_, .inr (14, [.ref a1_, .int 0, .ref a2_, .ref a3_, .ref a4_, .ref a5_, .int 0, .int (-1), .ref a6_, .ref a7_, .ref a8_, .ref a9_])), (a1_, .inl (cI, 4000, .inl (upd (fun _ => 0) 0 (((x0_.toUInt32 >>> ((24 : Int32).toUInt32 &&& Int32.toUInt32 31)).toInt32) &&& 255))))] := hD
  refine lv_aload_n hx hb dX11_tapeNumber_33 rfl (lv_at hl 1 rfl) ?_
  refine lv_dup hx hb dX11_tapeNumber_34 rfl ?_
  refine va_get (D := (dC, dI)) (ci := 14) (v := .int 0) (C := RX11) (T := TX11) (N := 12) hx hb ht itX11 hown hK hP 0 rfl rfl 1 (by decide) (ht _ tw_212) (fun _ h9 => h9) rfl dX11_tapeNumber_35 ?_
  refine lv_iconst (v := 1) hx hb dX11_tapeNumber_38 (by decide) ?_
  refine lv_iadd hx hb dX11_tapeNumber_39 ?_
  refine tp_i (y := 1) (by decide) ?_
  refine va_put (D := (dC, dI)) (ci := 14) (v := .int 1) (ty := .int) (C := RX11) (T := TX11) (N := 12) hx hb ht itX11 tyX11 tyX11_ok nmX11 hown hK hP hD hS 0 rfl rfl 1 (by decide) (ht _ tw_212) (fun _ h9 => h9) rfl (by decide +kernel) rfl rfl (Nat.le_of_ble_eq_true rfl) dX11_tapeNumber_40 (fun H locs hP hD hS => ?_)
  have hP : va_P (dC, dI) vwCl [(a0_, .inr (14, [.ref a1_, .int 1, .ref a2_, .ref a3_, .ref a4_, .ref a5_, .int 0, .int (-1), .ref a6_, .ref a7_, .ref a8_, .ref a9_])), (a1_, .inl (cI, 4000, .inl (upd (fun _ => 0) 0 (((x0_.toUInt32 >>> ((24 : Int32).toUInt32 &&& Int32.toUInt32 31)).toInt32) &&& 255))))] H := hP
  have hD : va_D A [(a0_, .inr (14, [.ref a1_, .int 1, .ref a2_, .ref a3_, .ref a4_, .ref a5_, .int 0, .int (-1), .ref a6_, .ref a7_, .ref a8_, .ref a9_])), (a1_, .inl (cI, 4000, .inl (upd (fun _ => 0) 0 (((x0_.toUInt32 >>> ((24 : Int32).toUInt32 &&& Int32.toUInt32 31)).toInt32) &&& 255))))] := hD
  refine lv_iinc (v := 16) (lv' := [(2, .int 16), (0, .ref a0_), (1, .int x0_)]) hx hb dX11_tapeNumber_43 hl (k := 0) rfl (by decide) (by decide) rfl (fun ls hl => ?_)
  refine lv_goto (tgt := 3) hx hb dX11_tapeNumber_46 (by decide) ?_
  refine lv_iload_n hx hb dX11_tapeNumber_3 rfl (lv_at hl 0 rfl) ?_
  refine lv_if_lt (tgt := 49) hx hb dX11_tapeNumber_4 (by decide) (fun k3 => absurd k3 (by decide)) (fun _ => ?_)
  refine lv_aload_n hx hb dX11_tapeNumber_7 rfl (lv_at hl 1 rfl) ?_
  refine va_get (D := (dC, dI)) (ci := 14) (v := .int 1) (C := RX11) (T := TX11) (N := 12) hx hb ht itX11 hown hK hP 0 rfl rfl 1 (by decide) (ht _ tw_212) (fun _ h9 => h9) rfl dX11_tapeNumber_8 ?_
  refine lv_sipush (v := 4000) hx hb dX11_tapeNumber_11 (by decide) ?_
  refine lv_icmp_ge (tgt := 49) hx hb dX11_tapeNumber_14 (by decide) (fun k4 => absurd k4 (by decide)) (fun _ => ?_)
  refine lv_aload_n hx hb dX11_tapeNumber_17 rfl (lv_at hl 1 rfl) ?_
  refine va_get (D := (dC, dI)) (ci := 14) (v := .ref a1_) (C := RX11) (T := TX11) (N := 12) hx hb ht itX11 hown hK hP 0 rfl rfl 0 (by decide) (ht _ tw_85) (fun _ h9 => h9) rfl dX11_tapeNumber_18 ?_
  refine lv_aload_n hx hb dX11_tapeNumber_21 rfl (lv_at hl 1 rfl) ?_
  refine va_get (D := (dC, dI)) (ci := 14) (v := .int 1) (C := RX11) (T := TX11) (N := 12) hx hb ht itX11 hown hK hP 0 rfl rfl 1 (by decide) (ht _ tw_212) (fun _ h9 => h9) rfl dX11_tapeNumber_22 ?_
  refine lv_iload_n hx hb dX11_tapeNumber_25 rfl (lv_at hl 2 rfl) ?_
  refine lv_iload_n hx hb dX11_tapeNumber_26 rfl (lv_at hl 0 rfl) ?_
  refine lv_iushr hx hb dX11_tapeNumber_27 rfl ?_
  refine lv_sipush (v := 255) hx hb dX11_tapeNumber_28 (by decide) ?_
  refine lv_iand hx hb dX11_tapeNumber_31 ?_
  refine va_iast (D := (dC, dI)) hx hb hK hP hD hS 1 0 rfl rfl (vp_in_iff.mpr (by decide)) dX11_tapeNumber_32 (fun H locs hP hD hS => ?_)
  have hP : va_P (dC, dI) vwCl [(a0_, .inr (14, [.ref a1_, .int 1, .ref a2_, .ref a3_, .ref a4_, .ref a5_, .int 0, .int (-1), .ref a6_, .ref a7_, .ref a8_, .ref a9_])), (a1_, .inl (cI, 4000, .inl (upd (upd (fun _ => 0) 0 (((x0_.toUInt32 >>> ((24 : Int32).toUInt32 &&& Int32.toUInt32 31)).toInt32) &&& 255)) 1 (((x0_.toUInt32 >>> ((16 : Int32).toUInt32 &&& Int32.toUInt32 31)).toInt32) &&& 255))))] H := hP
  have hD : va_D A [(a0_, .inr (14, [.ref a1_, .int 1, .ref a2_, .ref a3_, .ref a4_, .ref a5_, .int 0, .int (-1), .ref a6_, .ref a7_, .ref a8_, .ref a9_])), (a1_, .inl (cI, 4000, .inl (upd (upd (fun _ => 0) 0 (((x0_.toUInt32 >>> ((24 : Int32).toUInt32 &&& Int32.toUInt32 31)).toInt32) &&& 255)) 1 (((x0_.toUInt32 >>> ((16 : Int32).toUInt32 &&& Int32.toUInt32 31)).toInt32) &&& 255))))] := hD
  refine lv_aload_n hx hb dX11_tapeNumber_33 rfl (lv_at hl 1 rfl) ?_
  refine lv_dup hx hb dX11_tapeNumber_34 rfl ?_
  refine va_get (D := (dC, dI)) (ci := 14) (v := .int 1) (C := RX11) (T := TX11) (N := 12) hx hb ht itX11 hown hK hP 0 rfl rfl 1 (by decide) (ht _ tw_212) (fun _ h9 => h9) rfl dX11_tapeNumber_35 ?_
  refine lv_iconst (v := 1) hx hb dX11_tapeNumber_38 (by decide) ?_
  refine lv_iadd hx hb dX11_tapeNumber_39 ?_
  refine tp_i (y := 2) (by decide) ?_
  refine va_put (D := (dC, dI)) (ci := 14) (v := .int 2) (ty := .int) (C := RX11) (T := TX11) (N := 12) hx hb ht itX11 tyX11 tyX11_ok nmX11 hown hK hP hD hS 0 rfl rfl 1 (by decide) (ht _ tw_212) (fun _ h9 => h9) rfl (by decide +kernel) rfl rfl (Nat.le_of_ble_eq_true rfl) dX11_tapeNumber_40 (fun H locs hP hD hS => ?_)
  have hP : va_P (dC, dI) vwCl [(a0_, .inr (14, [.ref a1_, .int 2, .ref a2_, .ref a3_, .ref a4_, .ref a5_, .int 0, .int (-1), .ref a6_, .ref a7_, .ref a8_, .ref a9_])), (a1_, .inl (cI, 4000, .inl (upd (upd (fun _ => 0) 0 (((x0_.toUInt32 >>> ((24 : Int32).toUInt32 &&& Int32.toUInt32 31)).toInt32) &&& 255)) 1 (((x0_.toUInt32 >>> ((16 : Int32).toUInt32 &&& Int32.toUInt32 31)).toInt32) &&& 255))))] H := hP
  have hD : va_D A [(a0_, .inr (14, [.ref a1_, .int 2, .ref a2_, .ref a3_, .ref a4_, .ref a5_, .int 0, .int (-1), .ref a6_, .ref a7_, .ref a8_, .ref a9_])), (a1_, .inl (cI, 4000, .inl (upd (upd (fun _ => 0) 0 (((x0_.toUInt32 >>> ((24 : Int32).toUInt32 &&& Int32.toUInt32 31)).toInt32) &&& 255)) 1 (((x0_.toUInt32 >>> ((16 : Int32).toUInt32 &&& Int32.toUInt32 31)).toInt32) &&& 255))))] := hD
  refine lv_iinc (v := 8) (lv' := [(2, .int 8), (0, .ref a0_), (1, .int x0_)]) hx hb dX11_tapeNumber_43 hl (k := 0) rfl (by decide) (by decide) rfl (fun ls hl => ?_)
  refine lv_goto (tgt := 3) hx hb dX11_tapeNumber_46 (by decide) ?_
  refine lv_iload_n hx hb dX11_tapeNumber_3 rfl (lv_at hl 0 rfl) ?_
  refine lv_if_lt (tgt := 49) hx hb dX11_tapeNumber_4 (by decide) (fun k5 => absurd k5 (by decide)) (fun _ => ?_)
  refine lv_aload_n hx hb dX11_tapeNumber_7 rfl (lv_at hl 1 rfl) ?_
  refine va_get (D := (dC, dI)) (ci := 14) (v := .int 2) (C := RX11) (T := TX11) (N := 12) hx hb ht itX11 hown hK hP 0 rfl rfl 1 (by decide) (ht _ tw_212) (fun _ h9 => h9) rfl dX11_tapeNumber_8 ?_
  refine lv_sipush (v := 4000) hx hb dX11_tapeNumber_11 (by decide) ?_
  refine lv_icmp_ge (tgt := 49) hx hb dX11_tapeNumber_14 (by decide) (fun k6 => absurd k6 (by decide)) (fun _ => ?_)
  refine lv_aload_n hx hb dX11_tapeNumber_17 rfl (lv_at hl 1 rfl) ?_
  refine va_get (D := (dC, dI)) (ci := 14) (v := .ref a1_) (C := RX11) (T := TX11) (N := 12) hx hb ht itX11 hown hK hP 0 rfl rfl 0 (by decide) (ht _ tw_85) (fun _ h9 => h9) rfl dX11_tapeNumber_18 ?_
  refine lv_aload_n hx hb dX11_tapeNumber_21 rfl (lv_at hl 1 rfl) ?_
  refine va_get (D := (dC, dI)) (ci := 14) (v := .int 2) (C := RX11) (T := TX11) (N := 12) hx hb ht itX11 hown hK hP 0 rfl rfl 1 (by decide) (ht _ tw_212) (fun _ h9 => h9) rfl dX11_tapeNumber_22 ?_
  refine lv_iload_n hx hb dX11_tapeNumber_25 rfl (lv_at hl 2 rfl) ?_
  refine lv_iload_n hx hb dX11_tapeNumber_26 rfl (lv_at hl 0 rfl) ?_
  refine lv_iushr hx hb dX11_tapeNumber_27 rfl ?_
  refine lv_sipush (v := 255) hx hb dX11_tapeNumber_28 (by decide) ?_
  refine lv_iand hx hb dX11_tapeNumber_31 ?_
  refine va_iast (D := (dC, dI)) hx hb hK hP hD hS 1 0 rfl rfl (vp_in_iff.mpr (by decide)) dX11_tapeNumber_32 (fun H locs hP hD hS => ?_)
  have hP : va_P (dC, dI) vwCl [(a0_, .inr (14, [.ref a1_, .int 2, .ref a2_, .ref a3_, .ref a4_, .ref a5_, .int 0, .int (-1), .ref a6_, .ref a7_, .ref a8_, .ref a9_])), (a1_, .inl (cI, 4000, .inl (upd (upd (upd (fun _ => 0) 0 (((x0_.toUInt32 >>> ((24 : Int32).toUInt32 &&& Int32.toUInt32 31)).toInt32) &&& 255)) 1 (((x0_.toUInt32 >>> ((16 : Int32).toUInt32 &&& Int32.toUInt32 31)).toInt32) &&& 255)) 2 (((x0_.toUInt32 >>> ((8 : Int32).toUInt32 &&& Int32.toUInt32 31)).toInt32) &&& 255))))] H := hP
  have hD : va_D A [(a0_, .inr (14, [.ref a1_, .int 2, .ref a2_, .ref a3_, .ref a4_, .ref a5_, .int 0, .int (-1), .ref a6_, .ref a7_, .ref a8_, .ref a9_])), (a1_, .inl (cI, 4000, .inl (upd (upd (upd (fun _ => 0) 0 (((x0_.toUInt32 >>> ((24 : Int32).toUInt32 &&& Int32.toUInt32 31)).toInt32) &&& 255)) 1 (((x0_.toUInt32 >>> ((16 : Int32).toUInt32 &&& Int32.toUInt32 31)).toInt32) &&& 255)) 2 (((x0_.toUInt32 >>> ((8 : Int32).toUInt32 &&& Int32.toUInt32 31)).toInt32) &&& 255))))] := hD
  refine lv_aload_n hx hb dX11_tapeNumber_33 rfl (lv_at hl 1 rfl) ?_
  refine lv_dup hx hb dX11_tapeNumber_34 rfl ?_
  refine va_get (D := (dC, dI)) (ci := 14) (v := .int 2) (C := RX11) (T := TX11) (N := 12) hx hb ht itX11 hown hK hP 0 rfl rfl 1 (by decide) (ht _ tw_212) (fun _ h9 => h9) rfl dX11_tapeNumber_35 ?_
  refine lv_iconst (v := 1) hx hb dX11_tapeNumber_38 (by decide) ?_
  refine lv_iadd hx hb dX11_tapeNumber_39 ?_
  refine tp_i (y := 3) (by decide) ?_
  refine va_put (D := (dC, dI)) (ci := 14) (v := .int 3) (ty := .int) (C := RX11) (T := TX11) (N := 12) hx hb ht itX11 tyX11 tyX11_ok nmX11 hown hK hP hD hS 0 rfl rfl 1 (by decide) (ht _ tw_212) (fun _ h9 => h9) rfl (by decide +kernel) rfl rfl (Nat.le_of_ble_eq_true rfl) dX11_tapeNumber_40 (fun H locs hP hD hS => ?_)
  have hP : va_P (dC, dI) vwCl [(a0_, .inr (14, [.ref a1_, .int 3, .ref a2_, .ref a3_, .ref a4_, .ref a5_, .int 0, .int (-1), .ref a6_, .ref a7_, .ref a8_, .ref a9_])), (a1_, .inl (cI, 4000, .inl (upd (upd (upd (fun _ => 0) 0 (((x0_.toUInt32 >>> ((24 : Int32).toUInt32 &&& Int32.toUInt32 31)).toInt32) &&& 255)) 1 (((x0_.toUInt32 >>> ((16 : Int32).toUInt32 &&& Int32.toUInt32 31)).toInt32) &&& 255)) 2 (((x0_.toUInt32 >>> ((8 : Int32).toUInt32 &&& Int32.toUInt32 31)).toInt32) &&& 255))))] H := hP
  have hD : va_D A [(a0_, .inr (14, [.ref a1_, .int 3, .ref a2_, .ref a3_, .ref a4_, .ref a5_, .int 0, .int (-1), .ref a6_, .ref a7_, .ref a8_, .ref a9_])), (a1_, .inl (cI, 4000, .inl (upd (upd (upd (fun _ => 0) 0 (((x0_.toUInt32 >>> ((24 : Int32).toUInt32 &&& Int32.toUInt32 31)).toInt32) &&& 255)) 1 (((x0_.toUInt32 >>> ((16 : Int32).toUInt32 &&& Int32.toUInt32 31)).toInt32) &&& 255)) 2 (((x0_.toUInt32 >>> ((8 : Int32).toUInt32 &&& Int32.toUInt32 31)).toInt32) &&& 255))))] := hD
  refine lv_iinc (v := 0) (lv' := [(2, .int 0), (0, .ref a0_), (1, .int x0_)]) hx hb dX11_tapeNumber_43 hl (k := 0) rfl (by decide) (by decide) rfl (fun ls hl => ?_)
  refine lv_goto (tgt := 3) hx hb dX11_tapeNumber_46 (by decide) ?_
  refine lv_iload_n hx hb dX11_tapeNumber_3 rfl (lv_at hl 0 rfl) ?_
  refine lv_if_lt (tgt := 49) hx hb dX11_tapeNumber_4 (by decide) (fun k7 => absurd k7 (by decide)) (fun _ => ?_)
  refine lv_aload_n hx hb dX11_tapeNumber_7 rfl (lv_at hl 1 rfl) ?_
  refine va_get (D := (dC, dI)) (ci := 14) (v := .int 3) (C := RX11) (T := TX11) (N := 12) hx hb ht itX11 hown hK hP 0 rfl rfl 1 (by decide) (ht _ tw_212) (fun _ h9 => h9) rfl dX11_tapeNumber_8 ?_
  refine lv_sipush (v := 4000) hx hb dX11_tapeNumber_11 (by decide) ?_
  refine lv_icmp_ge (tgt := 49) hx hb dX11_tapeNumber_14 (by decide) (fun k8 => absurd k8 (by decide)) (fun _ => ?_)
  refine lv_aload_n hx hb dX11_tapeNumber_17 rfl (lv_at hl 1 rfl) ?_
  refine va_get (D := (dC, dI)) (ci := 14) (v := .ref a1_) (C := RX11) (T := TX11) (N := 12) hx hb ht itX11 hown hK hP 0 rfl rfl 0 (by decide) (ht _ tw_85) (fun _ h9 => h9) rfl dX11_tapeNumber_18 ?_
  refine lv_aload_n hx hb dX11_tapeNumber_21 rfl (lv_at hl 1 rfl) ?_
  refine va_get (D := (dC, dI)) (ci := 14) (v := .int 3) (C := RX11) (T := TX11) (N := 12) hx hb ht itX11 hown hK hP 0 rfl rfl 1 (by decide) (ht _ tw_212) (fun _ h9 => h9) rfl dX11_tapeNumber_22 ?_
  refine lv_iload_n hx hb dX11_tapeNumber_25 rfl (lv_at hl 2 rfl) ?_
  refine lv_iload_n hx hb dX11_tapeNumber_26 rfl (lv_at hl 0 rfl) ?_
  refine lv_iushr hx hb dX11_tapeNumber_27 rfl ?_
  refine lv_sipush (v := 255) hx hb dX11_tapeNumber_28 (by decide) ?_
  refine lv_iand hx hb dX11_tapeNumber_31 ?_
  refine va_iast (D := (dC, dI)) hx hb hK hP hD hS 1 0 rfl rfl (vp_in_iff.mpr (by decide)) dX11_tapeNumber_32 (fun H locs hP hD hS => ?_)
  have hP : va_P (dC, dI) vwCl [(a0_, .inr (14, [.ref a1_, .int 3, .ref a2_, .ref a3_, .ref a4_, .ref a5_, .int 0, .int (-1), .ref a6_, .ref a7_, .ref a8_, .ref a9_])), (a1_, .inl (cI, 4000, .inl (upd (upd (upd (upd (fun _ => 0) 0 (((x0_.toUInt32 >>> ((24 : Int32).toUInt32 &&& Int32.toUInt32 31)).toInt32) &&& 255)) 1 (((x0_.toUInt32 >>> ((16 : Int32).toUInt32 &&& Int32.toUInt32 31)).toInt32) &&& 255)) 2 (((x0_.toUInt32 >>> ((8 : Int32).toUInt32 &&& Int32.toUInt32 31)).toInt32) &&& 255)) 3 (((x0_.toUInt32 >>> ((0 : Int32).toUInt32 &&& Int32.toUInt32 31)).toInt32) &&& 255))))] H := hP
  have hD : va_D A [(a0_, .inr (14, [.ref a1_, .int 3, .ref a2_, .ref a3_, .ref a4_, .ref a5_, .int 0, .int (-1), .ref a6_, .ref a7_, .ref a8_, .ref a9_])), (a1_, .inl (cI, 4000, .inl (upd (upd (upd (upd (fun _ => 0) 0 (((x0_.toUInt32 >>> ((24 : Int32).toUInt32 &&& Int32.toUInt32 31)).toInt32) &&& 255)) 1 (((x0_.toUInt32 >>> ((16 : Int32).toUInt32 &&& Int32.toUInt32 31)).toInt32) &&& 255)) 2 (((x0_.toUInt32 >>> ((8 : Int32).toUInt32 &&& Int32.toUInt32 31)).toInt32) &&& 255)) 3 (((x0_.toUInt32 >>> ((0 : Int32).toUInt32 &&& Int32.toUInt32 31)).toInt32) &&& 255))))] := hD
  refine lv_aload_n hx hb dX11_tapeNumber_33 rfl (lv_at hl 1 rfl) ?_
  refine lv_dup hx hb dX11_tapeNumber_34 rfl ?_
  refine va_get (D := (dC, dI)) (ci := 14) (v := .int 3) (C := RX11) (T := TX11) (N := 12) hx hb ht itX11 hown hK hP 0 rfl rfl 1 (by decide) (ht _ tw_212) (fun _ h9 => h9) rfl dX11_tapeNumber_35 ?_
  refine lv_iconst (v := 1) hx hb dX11_tapeNumber_38 (by decide) ?_
  refine lv_iadd hx hb dX11_tapeNumber_39 ?_
  refine tp_i (y := 4) (by decide) ?_
  refine va_put (D := (dC, dI)) (ci := 14) (v := .int 4) (ty := .int) (C := RX11) (T := TX11) (N := 12) hx hb ht itX11 tyX11 tyX11_ok nmX11 hown hK hP hD hS 0 rfl rfl 1 (by decide) (ht _ tw_212) (fun _ h9 => h9) rfl (by decide +kernel) rfl rfl (Nat.le_of_ble_eq_true rfl) dX11_tapeNumber_40 (fun H locs hP hD hS => ?_)
  have hP : va_P (dC, dI) vwCl [(a0_, .inr (14, [.ref a1_, .int 4, .ref a2_, .ref a3_, .ref a4_, .ref a5_, .int 0, .int (-1), .ref a6_, .ref a7_, .ref a8_, .ref a9_])), (a1_, .inl (cI, 4000, .inl (upd (upd (upd (upd (fun _ => 0) 0 (((x0_.toUInt32 >>> ((24 : Int32).toUInt32 &&& Int32.toUInt32 31)).toInt32) &&& 255)) 1 (((x0_.toUInt32 >>> ((16 : Int32).toUInt32 &&& Int32.toUInt32 31)).toInt32) &&& 255)) 2 (((x0_.toUInt32 >>> ((8 : Int32).toUInt32 &&& Int32.toUInt32 31)).toInt32) &&& 255)) 3 (((x0_.toUInt32 >>> ((0 : Int32).toUInt32 &&& Int32.toUInt32 31)).toInt32) &&& 255))))] H := hP
  have hD : va_D A [(a0_, .inr (14, [.ref a1_, .int 4, .ref a2_, .ref a3_, .ref a4_, .ref a5_, .int 0, .int (-1), .ref a6_, .ref a7_, .ref a8_, .ref a9_])), (a1_, .inl (cI, 4000, .inl (upd (upd (upd (upd (fun _ => 0) 0 (((x0_.toUInt32 >>> ((24 : Int32).toUInt32 &&& Int32.toUInt32 31)).toInt32) &&& 255)) 1 (((x0_.toUInt32 >>> ((16 : Int32).toUInt32 &&& Int32.toUInt32 31)).toInt32) &&& 255)) 2 (((x0_.toUInt32 >>> ((8 : Int32).toUInt32 &&& Int32.toUInt32 31)).toInt32) &&& 255)) 3 (((x0_.toUInt32 >>> ((0 : Int32).toUInt32 &&& Int32.toUInt32 31)).toInt32) &&& 255))))] := hD
  refine lv_iinc (v := (-8)) (lv' := [(2, .int (-8)), (0, .ref a0_), (1, .int x0_)]) hx hb dX11_tapeNumber_43 hl (k := 0) rfl (by decide) (by decide) rfl (fun ls hl => ?_)
  refine lv_goto (tgt := 3) hx hb dX11_tapeNumber_46 (by decide) ?_
  refine lv_iload_n hx hb dX11_tapeNumber_3 rfl (lv_at hl 0 rfl) ?_
  refine lv_if_lt (tgt := 49) hx hb dX11_tapeNumber_4 (by decide) (fun _ => ?_) (fun k9 => absurd k9 (by decide))
  have hP9 := hP.sub (ws' := [(a0_, .inr (14, [.ref a1_, .int 4, .ref a2_, .ref a3_, .ref a4_, .ref a5_, .int 0, .int (-1), .ref a6_, .ref a7_, .ref a8_, .ref a9_])), (a1_, .inl (cI, 4000, .inl (upd (upd (upd (upd (fun _ => 0) 0 (((x0_.toUInt32 >>> ((24 : Int32).toUInt32 &&& Int32.toUInt32 31)).toInt32) &&& 255)) 1 (((x0_.toUInt32 >>> ((16 : Int32).toUInt32 &&& Int32.toUInt32 31)).toInt32) &&& 255)) 2 (((x0_.toUInt32 >>> ((8 : Int32).toUInt32 &&& Int32.toUInt32 31)).toInt32) &&& 255)) 3 (((x0_.toUInt32 >>> ((0 : Int32).toUInt32 &&& Int32.toUInt32 31)).toInt32) &&& 255))))]) [0, 1] rfl
  have hD9 := hD.sub (ws' := [(a0_, .inr (14, [.ref a1_, .int 4, .ref a2_, .ref a3_, .ref a4_, .ref a5_, .int 0, .int (-1), .ref a6_, .ref a7_, .ref a8_, .ref a9_])), (a1_, .inl (cI, 4000, .inl (upd (upd (upd (upd (fun _ => 0) 0 (((x0_.toUInt32 >>> ((24 : Int32).toUInt32 &&& Int32.toUInt32 31)).toInt32) &&& 255)) 1 (((x0_.toUInt32 >>> ((16 : Int32).toUInt32 &&& Int32.toUInt32 31)).toInt32) &&& 255)) 2 (((x0_.toUInt32 >>> ((8 : Int32).toUInt32 &&& Int32.toUInt32 31)).toInt32) &&& 255)) 3 (((x0_.toUInt32 >>> ((0 : Int32).toUInt32 &&& Int32.toUInt32 31)).toInt32) &&& 255))))]) [0, 1] (by decide) rfl
  refine W.widen (k := 0) (n := 0) (by omega) (by omega) ?_
  exact W.vret hx hb hr (fun t ht9 hW => ⟨⟨(), rfl, trivial, by rw [ht9]; exact hP9, hD9⟩, hS.F ht9⟩) hS.2.2 dX11_tapeNumber_49
set_option maxHeartbeats 4000000 in
set_option maxRecDepth 100000 in
theorem c_X11_tapeNumber_2 (l : Launch) (dC : Nat → ClassId) (dI : Nat → Nat → Nat) (cI cB cZ cJ cR : ClassId) (tb : Nat → Nat) (sz : Nat) (a0_ : Nat) (x0_ : Int32) (a1_ : Nat) (a2_ : Nat) (a3_ : Nat) (a4_ : Nat) (a5_ : Nat) (a6_ : Nat) (a7_ : Nat) (a8_ : Nat) (a9_ : Nat) (x1_ : Int32)  : Met l yX11_tapeNumber (Cond.code yX11_tapeNumber cX11_tapeNumber 3 none :: tw_W) ({ frames := 0, cells := 0, slots := 0, locals := 0 }) (pc_ (dC, dI) (tyS cI cB cZ cJ cR) tb [(a0_, .inr (14, [.ref a1_, .int 4, .ref a2_, .ref a3_, .ref a4_, .ref a5_, .int 0, .int (-1), .ref a6_, .ref a7_, .ref a8_, .ref a9_])), (a1_, .inl (cI, 4000, .inl (upd (upd (upd (upd (fun _ => 0) 0 (((x1_.toUInt32 >>> ((24 : Int32).toUInt32 &&& Int32.toUInt32 31)).toInt32) &&& 255)) 1 (((x1_.toUInt32 >>> ((16 : Int32).toUInt32 &&& Int32.toUInt32 31)).toInt32) &&& 255)) 2 (((x1_.toUInt32 >>> ((8 : Int32).toUInt32 &&& Int32.toUInt32 31)).toInt32) &&& 255)) 3 (((x1_.toUInt32 >>> ((0 : Int32).toUInt32 &&& Int32.toUInt32 31)).toInt32) &&& 255))))] sz [.ref a0_, .int x0_]) (qv_ (dC, dI) [(a0_, .inr (14, [.ref a1_, .int 4, .ref a2_, .ref a3_, .ref a4_, .ref a5_, .int 0, .int (-1), .ref a6_, .ref a7_, .ref a8_, .ref a9_])), (a1_, .inl (cI, 4000, .inl (upd (upd (upd (upd (fun _ => 0) 0 (((x1_.toUInt32 >>> ((24 : Int32).toUInt32 &&& Int32.toUInt32 31)).toInt32) &&& 255)) 1 (((x1_.toUInt32 >>> ((16 : Int32).toUInt32 &&& Int32.toUInt32 31)).toInt32) &&& 255)) 2 (((x1_.toUInt32 >>> ((8 : Int32).toUInt32 &&& Int32.toUInt32 31)).toInt32) &&& 255)) 3 (((x1_.toUInt32 >>> ((0 : Int32).toUInt32 &&& Int32.toUInt32 31)).toInt32) &&& 255))))] sz (fun (u : Unit) => True) (fun (u : Unit) => [(a0_, .inr (14, [.ref a1_, .int 8, .ref a2_, .ref a3_, .ref a4_, .ref a5_, .int 0, .int (-1), .ref a6_, .ref a7_, .ref a8_, .ref a9_])), (a1_, .inl (cI, 4000, .inl (upd (upd (upd (upd (upd (upd (upd (upd (fun _ => 0) 0 (((x1_.toUInt32 >>> ((24 : Int32).toUInt32 &&& Int32.toUInt32 31)).toInt32) &&& 255)) 1 (((x1_.toUInt32 >>> ((16 : Int32).toUInt32 &&& Int32.toUInt32 31)).toInt32) &&& 255)) 2 (((x1_.toUInt32 >>> ((8 : Int32).toUInt32 &&& Int32.toUInt32 31)).toInt32) &&& 255)) 3 (((x1_.toUInt32 >>> ((0 : Int32).toUInt32 &&& Int32.toUInt32 31)).toInt32) &&& 255)) 4 (((x0_.toUInt32 >>> ((24 : Int32).toUInt32 &&& Int32.toUInt32 31)).toInt32) &&& 255)) 5 (((x0_.toUInt32 >>> ((16 : Int32).toUInt32 &&& Int32.toUInt32 31)).toInt32) &&& 255)) 6 (((x0_.toUInt32 >>> ((8 : Int32).toUInt32 &&& Int32.toUInt32 31)).toInt32) &&& 255)) 7 (((x0_.toUInt32 >>> ((0 : Int32).toUInt32 &&& Int32.toUInt32 31)).toInt32) &&& 255))))])) 0 0 (va_A [(a0_, .inr (14, [.ref a1_, .int 4, .ref a2_, .ref a3_, .ref a4_, .ref a5_, .int 0, .int (-1), .ref a6_, .ref a7_, .ref a8_, .ref a9_])), (a1_, .inl (cI, 4000, .inl (upd (upd (upd (upd (fun _ => 0) 0 (((x1_.toUInt32 >>> ((24 : Int32).toUInt32 &&& Int32.toUInt32 31)).toInt32) &&& 255)) 1 (((x1_.toUInt32 >>> ((16 : Int32).toUInt32 &&& Int32.toUInt32 31)).toInt32) &&& 255)) 2 (((x1_.toUInt32 >>> ((8 : Int32).toUInt32 &&& Int32.toUInt32 31)).toInt32) &&& 255)) 3 (((x1_.toUInt32 >>> ((0 : Int32).toUInt32 &&& Int32.toUInt32 31)).toInt32) &&& 255))))] sz) := by
  refine Met.ofW (cc := cX11_tapeNumber) (maxL := 3) (ret := none) (by decide) rfl ?_
  intro p e s m args below meth c s₁ B hml hv
  obtain ⟨rfl, hsz, hP, hKK, hD0, hFx⟩ := hv
  have hK := hKK.1
  have hx := B.exec
  have hb := B.bytes
  have hr := B.returns
  have ht : ∀ w ∈ tw_W, w.before _ s = true := fun w h => atoms_spec (ws := Cond.code yX11_tapeNumber cX11_tapeNumber 3 none :: tw_W) B.pre w (List.mem_cons_of_mem _ h)
  have hown : s.vm.findClass RX11 = some m.cls := findClass_of_methodNamed B.named
  have hlocks := B.notSynchronized
  subst hsz
  unfold qv_
  have hD := hD0.self (sz := s.heap.size)
  generalize hAe : va_A [(a0_, .inr (14, [.ref a1_, .int 4, .ref a2_, .ref a3_, .ref a4_, .ref a5_, .int 0, .int (-1), .ref a6_, .ref a7_, .ref a8_, .ref a9_])), (a1_, .inl (cI, 4000, .inl (upd (upd (upd (upd (fun _ => 0) 0 (((x1_.toUInt32 >>> ((24 : Int32).toUInt32 &&& Int32.toUInt32 31)).toInt32) &&& 255)) 1 (((x1_.toUInt32 >>> ((16 : Int32).toUInt32 &&& Int32.toUInt32 31)).toInt32) &&& 255)) 2 (((x1_.toUInt32 >>> ((8 : Int32).toUInt32 &&& Int32.toUInt32 31)).toInt32) &&& 255)) 3 (((x1_.toUInt32 >>> ((0 : Int32).toUInt32 &&& Int32.toUInt32 31)).toInt32) &&& 255))))] s.heap.size = A at hD hFx ⊢
  have hA : ∀ q : Nat, s.heap.size ≤ q → A q := fun q h => by rw [← hAe]; exact Or.inr h
  have hS : va_S A s.heap s.heap [] := va_S.rf
  have hP : va_P (dC, dI) vwCl [(a0_, .inr (14, [.ref a1_, .int 4, .ref a2_, .ref a3_, .ref a4_, .ref a5_, .int 0, .int (-1), .ref a6_, .ref a7_, .ref a8_, .ref a9_])), (a1_, .inl (cI, 4000, .inl (upd (upd (upd (upd (fun _ => 0) 0 (((x1_.toUInt32 >>> ((24 : Int32).toUInt32 &&& Int32.toUInt32 31)).toInt32) &&& 255)) 1 (((x1_.toUInt32 >>> ((16 : Int32).toUInt32 &&& Int32.toUInt32 31)).toInt32) &&& 255)) 2 (((x1_.toUInt32 >>> ((8 : Int32).toUInt32 &&& Int32.toUInt32 31)).toInt32) &&& 255)) 3 (((x1_.toUInt32 >>> ((0 : Int32).toUInt32 &&& Int32.toUInt32 31)).toInt32) &&& 255))))] s.heap := hP
  have hl := lv_entry ([.ref a0_, .int x0_]) (n := 3) (Nat.le_of_ble_eq_true rfl)
  rw [lg_entry_eq]
  generalize (lg_sl ([.ref a0_, .int x0_]) ++ List.replicate (3 - (lg_sl ([.ref a0_, .int x0_])).length) Slot.unset).toArray = ls at hl ⊢
  have hl : lv_has ls 3 [(0, .ref a0_), (1, .int x0_)] := hl
  refine lv_bipush (v := 24) hx hb dX11_tapeNumber_0 (by decide) ?_
  refine lv_istore_n (lv' := [(2, .int 24), (0, .ref a0_), (1, .int x0_)]) hx hb dX11_tapeNumber_2 rfl hl (by decide) rfl (fun ls hl => ?_)
  refine lv_iload_n hx hb dX11_tapeNumber_3 rfl (lv_at hl 0 rfl) ?_
  refine lv_if_lt (tgt := 49) hx hb dX11_tapeNumber_4 (by decide) (fun k1 => absurd k1 (by decide)) (fun _ => ?_)
  refine lv_aload_n hx hb dX11_tapeNumber_7 rfl (lv_at hl 1 rfl) ?_
  refine va_get (D := (dC, dI)) (ci := 14) (v := .int 4) (C := RX11) (T := TX11) (N := 12) hx hb ht itX11 hown hK hP 0 rfl rfl 1 (by decide) (ht _ tw_212) (fun _ h9 => h9) rfl dX11_tapeNumber_8 ?_
  refine lv_sipush (v := 4000) hx hb dX11_tapeNumber_11 (by decide) ?_
  refine lv_icmp_ge (tgt := 49) hx hb dX11_tapeNumber_14 (by decide) (fun k2 => absurd k2 (by decide)) (fun _ => ?_)
  refine lv_aload_n hx hb dX11_tapeNumber_17 rfl (lv_at hl 1 rfl) ?_
  refine va_get (D := (dC, dI)) (ci := 14) (v := .ref a1_) (C := RX11) (T := TX11) (N := 12) hx hb ht itX11 hown hK hP 0 rfl rfl 0 (by decide) (ht _ tw_85) (fun _ h9 => h9) rfl dX11_tapeNumber_18 ?_
  refine lv_aload_n hx hb dX11_tapeNumber_21 rfl (lv_at hl 1 rfl) ?_
  refine va_get (D := (dC, dI)) (ci := 14) (v := .int 4) (C := RX11) (T := TX11) (N := 12) hx hb ht itX11 hown hK hP 0 rfl rfl 1 (by decide) (ht _ tw_212) (fun _ h9 => h9) rfl dX11_tapeNumber_22 ?_
  refine lv_iload_n hx hb dX11_tapeNumber_25 rfl (lv_at hl 2 rfl) ?_
  refine lv_iload_n hx hb dX11_tapeNumber_26 rfl (lv_at hl 0 rfl) ?_
  refine lv_iushr hx hb dX11_tapeNumber_27 rfl ?_
  refine lv_sipush (v := 255) hx hb dX11_tapeNumber_28 (by decide) ?_
  refine lv_iand hx hb dX11_tapeNumber_31 ?_
  refine va_iast (D := (dC, dI)) hx hb hK hP hD hS 1 0 rfl rfl (vp_in_iff.mpr (by decide)) dX11_tapeNumber_32 (fun H locs hP hD hS => ?_)
  have hP : va_P (dC, dI) vwCl [(a0_, .inr (14, [.ref a1_, .int 4, .ref a2_, .ref a3_, .ref a4_, .ref a5_, .int 0, .int (-1), .ref a6_, .ref a7_, .ref a8_, .ref a9_])), (a1_, .inl (cI, 4000, .inl (upd (upd (upd (upd (upd (fun _ => 0) 0 (((x1_.toUInt32 >>> ((24 : Int32).toUInt32 &&& Int32.toUInt32 31)).toInt32) &&& 255)) 1 (((x1_.toUInt32 >>> ((16 : Int32).toUInt32 &&& Int32.toUInt32 31)).toInt32) &&& 255)) 2 (((x1_.toUInt32 >>> ((8 : Int32).toUInt32 &&& Int32.toUInt32 31)).toInt32) &&& 255)) 3 (((x1_.toUInt32 >>> ((0 : Int32).toUInt32 &&& Int32.toUInt32 31)).toInt32) &&& 255)) 4 (((x0_.toUInt32 >>> ((24 : Int32).toUInt32 &&& Int32.toUInt32 31)).toInt32) &&& 255))))] H := hP
  have hD : va_D A [(a0_, .inr (14, [.ref a1_, .int 4, .ref a2_, .ref a3_, .ref a4_, .ref a5_, .int 0, .int (-1), .ref a6_, .ref a7_, .ref a8_, .ref a9_])), (a1_, .inl (cI, 4000, .inl (upd (upd (upd (upd (upd (fun _ => 0) 0 (((x1_.toUInt32 >>> ((24 : Int32).toUInt32 &&& Int32.toUInt32 31)).toInt32) &&& 255)) 1 (((x1_.toUInt32 >>> ((16 : Int32).toUInt32 &&& Int32.toUInt32 31)).toInt32) &&& 255)) 2 (((x1_.toUInt32 >>> ((8 : Int32).toUInt32 &&& Int32.toUInt32 31)).toInt32) &&& 255)) 3 (((x1_.toUInt32 >>> ((0 : Int32).toUInt32 &&& Int32.toUInt32 31)).toInt32) &&& 255)) 4 (((x0_.toUInt32 >>> ((24 : Int32).toUInt32 &&& Int32.toUInt32 31)).toInt32) &&& 255))))] := hD
  refine lv_aload_n hx hb dX11_tapeNumber_33 rfl (lv_at hl 1 rfl) ?_
  refine lv_dup hx hb dX11_tapeNumber_34 rfl ?_
  refine va_get (D := (dC, dI)) (ci := 14) (v := .int 4) (C := RX11) (T := TX11) (N := 12) hx hb ht itX11 hown hK hP 0 rfl rfl 1 (by decide) (ht _ tw_212) (fun _ h9 => h9) rfl dX11_tapeNumber_35 ?_
  refine lv_iconst (v := 1) hx hb dX11_tapeNumber_38 (by decide) ?_
  refine lv_iadd hx hb dX11_tapeNumber_39 ?_
  refine tp_i (y := 5) (by decide) ?_
  refine va_put (D := (dC, dI)) (ci := 14) (v := .int 5) (ty := .int) (C := RX11) (T := TX11) (N := 12) hx hb ht itX11 tyX11 tyX11_ok nmX11 hown hK hP hD hS 0 rfl rfl 1 (by decide) (ht _ tw_212) (fun _ h9 => h9) rfl (by decide +kernel) rfl rfl (Nat.le_of_ble_eq_true rfl) dX11_tapeNumber_40 (fun H locs hP hD hS => ?_)
  have hP : va_P (dC, dI) vwCl [(a0_, .inr (14, [.ref a1_, .int 5, .ref a2_, .ref a3_, .ref a4_, .ref a5_, .int 0, .int (-1), .ref a6_, .ref a7_, .ref a8_, .ref a9_])), (a1_, .inl (cI, 4000, .inl (upd (upd (upd (upd (upd (fun _ => 0) 0 (((x1_.toUInt32 >>> ((24 : Int32).toUInt32 &&& Int32.toUInt32 31)).toInt32) &&& 255)) 1 (((x1_.toUInt32 >>> ((16 : Int32).toUInt32 &&& Int32.toUInt32 31)).toInt32) &&& 255)) 2 (((x1_.toUInt32 >>> ((8 : Int32).toUInt32 &&& Int32.toUInt32 31)).toInt32) &&& 255)) 3 (((x1_.toUInt32 >>> ((0 : Int32).toUInt32 &&& Int32.toUInt32 31)).toInt32) &&& 255)) 4 (((x0_.toUInt32 >>> ((24 : Int32).toUInt32 &&& Int32.toUInt32 31)).toInt32) &&& 255))))] H := hP
  have hD : va_D A [(a0_, .inr (14, [.ref a1_, .int 5, .ref a2_, .ref a3_, .ref a4_, .ref a5_, .int 0, .int (-1), .ref a6_, .ref a7_, .ref a8_, .ref a9_])), (a1_, .inl (cI, 4000, .inl (upd (upd (upd (upd (upd (fun _ => 0) 0 (((x1_.toUInt32 >>> ((24 : Int32).toUInt32 &&& Int32.toUInt32 31)).toInt32) &&& 255)) 1 (((x1_.toUInt32 >>> ((16 : Int32).toUInt32 &&& Int32.toUInt32 31)).toInt32) &&& 255)) 2 (((x1_.toUInt32 >>> ((8 : Int32).toUInt32 &&& Int32.toUInt32 31)).toInt32) &&& 255)) 3 (((x1_.toUInt32 >>> ((0 : Int32).toUInt32 &&& Int32.toUInt32 31)).toInt32) &&& 255)) 4 (((x0_.toUInt32 >>> ((24 : Int32).toUInt32 &&& Int32.toUInt32 31)).toInt32) &&& 255))))] := hD
  refine lv_iinc (v := 16) (lv' := [(2, .int 16), (0, .ref a0_), (1, .int x0_)]) hx hb dX11_tapeNumber_43 hl (k := 0) rfl (by decide) (by decide) rfl (fun ls hl => ?_)
  refine lv_goto (tgt := 3) hx hb dX11_tapeNumber_46 (by decide) ?_
  refine lv_iload_n hx hb dX11_tapeNumber_3 rfl (lv_at hl 0 rfl) ?_
  refine lv_if_lt (tgt := 49) hx hb dX11_tapeNumber_4 (by decide) (fun k3 => absurd k3 (by decide)) (fun _ => ?_)
  refine lv_aload_n hx hb dX11_tapeNumber_7 rfl (lv_at hl 1 rfl) ?_
  refine va_get (D := (dC, dI)) (ci := 14) (v := .int 5) (C := RX11) (T := TX11) (N := 12) hx hb ht itX11 hown hK hP 0 rfl rfl 1 (by decide) (ht _ tw_212) (fun _ h9 => h9) rfl dX11_tapeNumber_8 ?_
  refine lv_sipush (v := 4000) hx hb dX11_tapeNumber_11 (by decide) ?_
  refine lv_icmp_ge (tgt := 49) hx hb dX11_tapeNumber_14 (by decide) (fun k4 => absurd k4 (by decide)) (fun _ => ?_)
  refine lv_aload_n hx hb dX11_tapeNumber_17 rfl (lv_at hl 1 rfl) ?_
  refine va_get (D := (dC, dI)) (ci := 14) (v := .ref a1_) (C := RX11) (T := TX11) (N := 12) hx hb ht itX11 hown hK hP 0 rfl rfl 0 (by decide) (ht _ tw_85) (fun _ h9 => h9) rfl dX11_tapeNumber_18 ?_
  refine lv_aload_n hx hb dX11_tapeNumber_21 rfl (lv_at hl 1 rfl) ?_
  refine va_get (D := (dC, dI)) (ci := 14) (v := .int 5) (C := RX11) (T := TX11) (N := 12) hx hb ht itX11 hown hK hP 0 rfl rfl 1 (by decide) (ht _ tw_212) (fun _ h9 => h9) rfl dX11_tapeNumber_22 ?_
  refine lv_iload_n hx hb dX11_tapeNumber_25 rfl (lv_at hl 2 rfl) ?_
  refine lv_iload_n hx hb dX11_tapeNumber_26 rfl (lv_at hl 0 rfl) ?_
  refine lv_iushr hx hb dX11_tapeNumber_27 rfl ?_
  refine lv_sipush (v := 255) hx hb dX11_tapeNumber_28 (by decide) ?_
  refine lv_iand hx hb dX11_tapeNumber_31 ?_
  refine va_iast (D := (dC, dI)) hx hb hK hP hD hS 1 0 rfl rfl (vp_in_iff.mpr (by decide)) dX11_tapeNumber_32 (fun H locs hP hD hS => ?_)
  have hP : va_P (dC, dI) vwCl [(a0_, .inr (14, [.ref a1_, .int 5, .ref a2_, .ref a3_, .ref a4_, .ref a5_, .int 0, .int (-1), .ref a6_, .ref a7_, .ref a8_, .ref a9_])), (a1_, .inl (cI, 4000, .inl (upd (upd (upd (upd (upd (upd (fun _ => 0) 0 (((x1_.toUInt32 >>> ((24 : Int32).toUInt32 &&& Int32.toUInt32 31)).toInt32) &&& 255)) 1 (((x1_.toUInt32 >>> ((16 : Int32).toUInt32 &&& Int32.toUInt32 31)).toInt32) &&& 255)) 2 (((x1_.toUInt32 >>> ((8 : Int32).toUInt32 &&& Int32.toUInt32 31)).toInt32) &&& 255)) 3 (((x1_.toUInt32 >>> ((0 : Int32).toUInt32 &&& Int32.toUInt32 31)).toInt32) &&& 255)) 4 (((x0_.toUInt32 >>> ((24 : Int32).toUInt32 &&& Int32.toUInt32 31)).toInt32) &&& 255)) 5 (((x0_.toUInt32 >>> ((16 : Int32).toUInt32 &&& Int32.toUInt32 31)).toInt32) &&& 255))))] H := hP
  have hD : va_D A [(a0_, .inr (14, [.ref a1_, .int 5, .ref a2_, .ref a3_, .ref a4_, .ref a5_, .int 0, .int (-1), .ref a6_, .ref a7_, .ref a8_, .ref a9_])), (a1_, .inl (cI, 4000, .inl (upd (upd (upd (upd (upd (upd (fun _ => 0) 0 (((x1_.toUInt32 >>> ((24 : Int32).toUInt32 &&& Int32.toUInt32 31)).toInt32) &&& 255)) 1 (((x1_.toUInt32 >>> ((16 : Int32).toUInt32 &&& Int32.toUInt32 31)).toInt32) &&& 255)) 2 (((x1_.toUInt32 >>> ((8 : Int32).toUInt32 &&& Int32.toUInt32 31)).toInt32) &&& 255)) 3 (((x1_.toUInt32 >>> ((0 : Int32).toUInt32 &&& Int32.toUInt32 31)).toInt32) &&& 255)) 4 (((x0_.toUInt32 >>> ((24 : Int32).toUInt32 &&& Int32.toUInt32 31)).toInt32) &&& 255)) 5 (((x0_.toUInt32 >>> ((16 : Int32).toUInt32 &&& Int32.toUInt32 31)).toInt32) &&& 255))))] := hD
  refine lv_aload_n hx hb dX11_tapeNumber_33 rfl (lv_at hl 1 rfl) ?_
  refine lv_dup hx hb dX11_tapeNumber_34 rfl ?_
  refine va_get (D := (dC, dI)) (ci := 14) (v := .int 5) (C := RX11) (T := TX11) (N := 12) hx hb ht itX11 hown hK hP 0 rfl rfl 1 (by decide) (ht _ tw_212) (fun _ h9 => h9) rfl dX11_tapeNumber_35 ?_
  refine lv_iconst (v := 1) hx hb dX11_tapeNumber_38 (by decide) ?_
  refine lv_iadd hx hb dX11_tapeNumber_39 ?_
  refine tp_i (y := 6) (by decide) ?_
  refine va_put (D := (dC, dI)) (ci := 14) (v := .int 6) (ty := .int) (C := RX11) (T := TX11) (N := 12) hx hb ht itX11 tyX11 tyX11_ok nmX11 hown hK hP hD hS 0 rfl rfl 1 (by decide) (ht _ tw_212) (fun _ h9 => h9) rfl (by decide +kernel) rfl rfl (Nat.le_of_ble_eq_true rfl) dX11_tapeNumber_40 (fun H locs hP hD hS => ?_)
  have hP : va_P (dC, dI) vwCl [(a0_, .inr (14, [.ref a1_, .int 6, .ref a2_, .ref a3_, .ref a4_, .ref a5_, .int 0, .int (-1), .ref a6_, .ref a7_, .ref a8_, .ref a9_])), (a1_, .inl (cI, 4000, .inl (upd (upd (upd (upd (upd (upd (fun _ => 0) 0 (((x1_.toUInt32 >>> ((24 : Int32).toUInt32 &&& Int32.toUInt32 31)).toInt32) &&& 255)) 1 (((x1_.toUInt32 >>> ((16 : Int32).toUInt32 &&& Int32.toUInt32 31)).toInt32) &&& 255)) 2 (((x1_.toUInt32 >>> ((8 : Int32).toUInt32 &&& Int32.toUInt32 31)).toInt32) &&& 255)) 3 (((x1_.toUInt32 >>> ((0 : Int32).toUInt32 &&& Int32.toUInt32 31)).toInt32) &&& 255)) 4 (((x0_.toUInt32 >>> ((24 : Int32).toUInt32 &&& Int32.toUInt32 31)).toInt32) &&& 255)) 5 (((x0_.toUInt32 >>> ((16 : Int32).toUInt32 &&& Int32.toUInt32 31)).toInt32) &&& 255))))] H := hP
  have hD : va_D A [(a0_, .inr (14, [.ref a1_, .int 6, .ref a2_, .ref a3_, .ref a4_, .ref a5_, .int 0, .int (-1), .ref a6_, .ref a7_, .ref a8_, .ref a9_])), (a1_, .inl (cI, 4000, .inl (upd (upd (upd (upd (upd (upd (fun _ => 0) 0 (((x1_.toUInt32 >>> ((24 : Int32).toUInt32 &&& Int32.toUInt32 31)).toInt32) &&& 255)) 1 (((x1_.toUInt32 >>> ((16 : Int32).toUInt32 &&& Int32.toUInt32 31)).toInt32) &&& 255)) 2 (((x1_.toUInt32 >>> ((8 : Int32).toUInt32 &&& Int32.toUInt32 31)).toInt32) &&& 255)) 3 (((x1_.toUInt32 >>> ((0 : Int32).toUInt32 &&& Int32.toUInt32 31)).toInt32) &&& 255)) 4 (((x0_.toUInt32 >>> ((24 : Int32).toUInt32 &&& Int32.toUInt32 31)).toInt32) &&& 255)) 5 (((x0_.toUInt32 >>> ((16 : Int32).toUInt32 &&& Int32.toUInt32 31)).toInt32) &&& 255))))] := hD
  refine lv_iinc (v := 8) (lv' := [(2, .int 8), (0, .ref a0_), (1, .int x0_)]) hx hb dX11_tapeNumber_43 hl (k := 0) rfl (by decide) (by decide) rfl (fun ls hl => ?_)
  refine lv_goto (tgt := 3) hx hb dX11_tapeNumber_46 (by decide) ?_
  refine lv_iload_n hx hb dX11_tapeNumber_3 rfl (lv_at hl 0 rfl) ?_
  refine lv_if_lt (tgt := 49) hx hb dX11_tapeNumber_4 (by decide) (fun k5 => absurd k5 (by decide)) (fun _ => ?_)
  refine lv_aload_n hx hb dX11_tapeNumber_7 rfl (lv_at hl 1 rfl) ?_
  refine va_get (D := (dC, dI)) (ci := 14) (v := .int 6) (C := RX11) (T := TX11) (N := 12) hx hb ht itX11 hown hK hP 0 rfl rfl 1 (by decide) (ht _ tw_212) (fun _ h9 => h9) rfl dX11_tapeNumber_8 ?_
  refine lv_sipush (v := 4000) hx hb dX11_tapeNumber_11 (by decide) ?_
  refine lv_icmp_ge (tgt := 49) hx hb dX11_tapeNumber_14 (by decide) (fun k6 => absurd k6 (by decide)) (fun _ => ?_)
  refine lv_aload_n hx hb dX11_tapeNumber_17 rfl (lv_at hl 1 rfl) ?_
  refine va_get (D := (dC, dI)) (ci := 14) (v := .ref a1_) (C := RX11) (T := TX11) (N := 12) hx hb ht itX11 hown hK hP 0 rfl rfl 0 (by decide) (ht _ tw_85) (fun _ h9 => h9) rfl dX11_tapeNumber_18 ?_
  refine lv_aload_n hx hb dX11_tapeNumber_21 rfl (lv_at hl 1 rfl) ?_
  refine va_get (D := (dC, dI)) (ci := 14) (v := .int 6) (C := RX11) (T := TX11) (N := 12) hx hb ht itX11 hown hK hP 0 rfl rfl 1 (by decide) (ht _ tw_212) (fun _ h9 => h9) rfl dX11_tapeNumber_22 ?_
  refine lv_iload_n hx hb dX11_tapeNumber_25 rfl (lv_at hl 2 rfl) ?_
  refine lv_iload_n hx hb dX11_tapeNumber_26 rfl (lv_at hl 0 rfl) ?_
  refine lv_iushr hx hb dX11_tapeNumber_27 rfl ?_
  refine lv_sipush (v := 255) hx hb dX11_tapeNumber_28 (by decide) ?_
  refine lv_iand hx hb dX11_tapeNumber_31 ?_
  refine va_iast (D := (dC, dI)) hx hb hK hP hD hS 1 0 rfl rfl (vp_in_iff.mpr (by decide)) dX11_tapeNumber_32 (fun H locs hP hD hS => ?_)
  have hP : va_P (dC, dI) vwCl [(a0_, .inr (14, [.ref a1_, .int 6, .ref a2_, .ref a3_, .ref a4_, .ref a5_, .int 0, .int (-1), .ref a6_, .ref a7_, .ref a8_, .ref a9_])), (a1_, .inl (cI, 4000, .inl (upd (upd (upd (upd (upd (upd (upd (fun _ => 0) 0 (((x1_.toUInt32 >>> ((24 : Int32).toUInt32 &&& Int32.toUInt32 31)).toInt32) &&& 255)) 1 (((x1_.toUInt32 >>> ((16 : Int32).toUInt32 &&& Int32.toUInt32 31)).toInt32) &&& 255)) 2 (((x1_.toUInt32 >>> ((8 : Int32).toUInt32 &&& Int32.toUInt32 31)).toInt32) &&& 255)) 3 (((x1_.toUInt32 >>> ((0 : Int32).toUInt32 &&& Int32.toUInt32 31)).toInt32) &&& 255)) 4 (((x0_.toUInt32 >>> ((24 : Int32).toUInt32 &&& Int32.toUInt32 31)).toInt32) &&& 255)) 5 (((x0_.toUInt32 >>> ((16 : Int32).toUInt32 &&& Int32.toUInt32 31)).toInt32) &&& 255)) 6 (((x0_.toUInt32 >>> ((8 : Int32).toUInt32 &&& Int32.toUInt32 31)).toInt32) &&& 255))))] H := hP
  have hD : va_D A [(a0_, .inr (14, [.ref a1_, .int 6, .ref a2_, .ref a3_, .ref a4_, .ref a5_, .int 0, .int (-1), .ref a6_, .ref a7_, .ref a8_, .ref a9_])), (a1_, .inl (cI, 4000, .inl (upd (upd (upd (upd (upd (upd (upd (fun _ => 0) 0 (((x1_.toUInt32 >>> ((24 : Int32).toUInt32 &&& Int32.toUInt32 31)).toInt32) &&& 255)) 1 (((x1_.toUInt32 >>> ((16 : Int32).toUInt32 &&& Int32.toUInt32 31)).toInt32) &&& 255)) 2 (((x1_.toUInt32 >>> ((8 : Int32).toUInt32 &&& Int32.toUInt32 31)).toInt32) &&& 255)) 3 (((x1_.toUInt32 >>> ((0 : Int32).toUInt32 &&& Int32.toUInt32 31)).toInt32) &&& 255)) 4 (((x0_.toUInt32 >>> ((24 : Int32).toUInt32 &&& Int32.toUInt32 31)).toInt32) &&& 255)) 5 (((x0_.toUInt32 >>> ((16 : Int32).toUInt32 &&& Int32.toUInt32 31)).toInt32) &&& 255)) 6 (((x0_.toUInt32 >>> ((8 : Int32).toUInt32 &&& Int32.toUInt32 31)).toInt32) &&& 255))))] := hD
  refine lv_aload_n hx hb dX11_tapeNumber_33 rfl (lv_at hl 1 rfl) ?_
  refine lv_dup hx hb dX11_tapeNumber_34 rfl ?_
  refine va_get (D := (dC, dI)) (ci := 14) (v := .int 6) (C := RX11) (T := TX11) (N := 12) hx hb ht itX11 hown hK hP 0 rfl rfl 1 (by decide) (ht _ tw_212) (fun _ h9 => h9) rfl dX11_tapeNumber_35 ?_
  refine lv_iconst (v := 1) hx hb dX11_tapeNumber_38 (by decide) ?_
  refine lv_iadd hx hb dX11_tapeNumber_39 ?_
  refine tp_i (y := 7) (by decide) ?_
  refine va_put (D := (dC, dI)) (ci := 14) (v := .int 7) (ty := .int) (C := RX11) (T := TX11) (N := 12) hx hb ht itX11 tyX11 tyX11_ok nmX11 hown hK hP hD hS 0 rfl rfl 1 (by decide) (ht _ tw_212) (fun _ h9 => h9) rfl (by decide +kernel) rfl rfl (Nat.le_of_ble_eq_true rfl) dX11_tapeNumber_40 (fun H locs hP hD hS => ?_)
  have hP : va_P (dC, dI) vwCl [(a0_, .inr (14, [.ref a1_, .int 7, .ref a2_, .ref a3_, .ref a4_, .ref a5_, .int 0, .int (-1), .ref a6_, .ref a7_, .ref a8_, .ref a9_])), (a1_, .inl (cI, 4000, .inl (upd (upd (upd (upd (upd (upd (upd (fun _ => 0) 0 (((x1_.toUInt32 >>> ((24 : Int32).toUInt32 &&& Int32.toUInt32 31)).toInt32) &&& 255)) 1 (((x1_.toUInt32 >>> ((16 : Int32).toUInt32 &&& Int32.toUInt32 31)).toInt32) &&& 255)) 2 (((x1_.toUInt32 >>> ((8 : Int32).toUInt32 &&& Int32.toUInt32 31)).toInt32) &&& 255)) 3 (((x1_.toUInt32 >>> ((0 : Int32).toUInt32 &&& Int32.toUInt32 31)).toInt32) &&& 255)) 4 (((x0_.toUInt32 >>> ((24 : Int32).toUInt32 &&& Int32.toUInt32 31)).toInt32) &&& 255)) 5 (((x0_.toUInt32 >>> ((16 : Int32).toUInt32 &&& Int32.toUInt32 31)).toInt32) &&& 255)) 6 (((x0_.toUInt32 >>> ((8 : Int32).toUInt32 &&& Int32.toUInt32 31)).toInt32) &&& 255))))] H := hP
  have hD : va_D A [(a0_, .inr (14, [.ref a1_, .int 7, .ref a2_, .ref a3_, .ref a4_, .ref a5_, .int 0, .int (-1), .ref a6_, .ref a7_, .ref a8_, .ref a9_])), (a1_, .inl (cI, 4000, .inl (upd (upd (upd (upd (upd (upd (upd (fun _ => 0) 0 (((x1_.toUInt32 >>> ((24 : Int32).toUInt32 &&& Int32.toUInt32 31)).toInt32) &&& 255)) 1 (((x1_.toUInt32 >>> ((16 : Int32).toUInt32 &&& Int32.toUInt32 31)).toInt32) &&& 255)) 2 (((x1_.toUInt32 >>> ((8 : Int32).toUInt32 &&& Int32.toUInt32 31)).toInt32) &&& 255)) 3 (((x1_.toUInt32 >>> ((0 : Int32).toUInt32 &&& Int32.toUInt32 31)).toInt32) &&& 255)) 4 (((x0_.toUInt32 >>> ((24 : Int32).toUInt32 &&& Int32.toUInt32 31)).toInt32) &&& 255)) 5 (((x0_.toUInt32 >>> ((16 : Int32).toUInt32 &&& Int32.toUInt32 31)).toInt32) &&& 255)) 6 (((x0_.toUInt32 >>> ((8 : Int32).toUInt32 &&& Int32.toUInt32 31)).toInt32) &&& 255))))] := hD
  refine lv_iinc (v := 0) (lv' := [(2, .int 0), (0, .ref a0_), (1, .int x0_)]) hx hb dX11_tapeNumber_43 hl (k := 0) rfl (by decide) (by decide) rfl (fun ls hl => ?_)
  refine lv_goto (tgt := 3) hx hb dX11_tapeNumber_46 (by decide) ?_
  refine lv_iload_n hx hb dX11_tapeNumber_3 rfl (lv_at hl 0 rfl) ?_
  refine lv_if_lt (tgt := 49) hx hb dX11_tapeNumber_4 (by decide) (fun k7 => absurd k7 (by decide)) (fun _ => ?_)
  refine lv_aload_n hx hb dX11_tapeNumber_7 rfl (lv_at hl 1 rfl) ?_
  refine va_get (D := (dC, dI)) (ci := 14) (v := .int 7) (C := RX11) (T := TX11) (N := 12) hx hb ht itX11 hown hK hP 0 rfl rfl 1 (by decide) (ht _ tw_212) (fun _ h9 => h9) rfl dX11_tapeNumber_8 ?_
  refine lv_sipush (v := 4000) hx hb dX11_tapeNumber_11 (by decide) ?_
  refine lv_icmp_ge (tgt := 49) hx hb dX11_tapeNumber_14 (by decide) (fun k8 => absurd k8 (by decide)) (fun _ => ?_)
  refine lv_aload_n hx hb dX11_tapeNumber_17 rfl (lv_at hl 1 rfl) ?_
  refine va_get (D := (dC, dI)) (ci := 14) (v := .ref a1_) (C := RX11) (T := TX11) (N := 12) hx hb ht itX11 hown hK hP 0 rfl rfl 0 (by decide) (ht _ tw_85) (fun _ h9 => h9) rfl dX11_tapeNumber_18 ?_
  refine lv_aload_n hx hb dX11_tapeNumber_21 rfl (lv_at hl 1 rfl) ?_
  refine va_get (D := (dC, dI)) (ci := 14) (v := .int 7) (C := RX11) (T := TX11) (N := 12) hx hb ht itX11 hown hK hP 0 rfl rfl 1 (by decide) (ht _ tw_212) (fun _ h9 => h9) rfl dX11_tapeNumber_22 ?_
  refine lv_iload_n hx hb dX11_tapeNumber_25 rfl (lv_at hl 2 rfl) ?_
  refine lv_iload_n hx hb dX11_tapeNumber_26 rfl (lv_at hl 0 rfl) ?_
  refine lv_iushr hx hb dX11_tapeNumber_27 rfl ?_
  refine lv_sipush (v := 255) hx hb dX11_tapeNumber_28 (by decide) ?_
  refine lv_iand hx hb dX11_tapeNumber_31 ?_
  refine va_iast (D := (dC, dI)) hx hb hK hP hD hS 1 0 rfl rfl (vp_in_iff.mpr (by decide)) dX11_tapeNumber_32 (fun H locs hP hD hS => ?_)
  have hP : va_P (dC, dI) vwCl [(a0_, .inr (14, [.ref a1_, .int 7, .ref a2_, .ref a3_, .ref a4_, .ref a5_, .int 0, .int (-1), .ref a6_, .ref a7_, .ref a8_, .ref a9_])), (a1_, .inl (cI, 4000, .inl (upd (upd (upd (upd (upd (upd (upd (upd (fun _ => 0) 0 (((x1_.toUInt32 >>> ((24 : Int32).toUInt32 &&& Int32.toUInt32 31)).toInt32) &&& 255)) 1 (((x1_.toUInt32 >>> ((16 : Int32).toUInt32 &&& Int32.toUInt32 31)).toInt32) &&& 255)) 2 (((x1_.toUInt32 >>> ((8 : Int32).toUInt32 &&& Int32.toUInt32 31)).toInt32) &&& 255)) 3 (((x1_.toUInt32 >>> ((0 : Int32).toUInt32 &&& Int32.toUInt32 31)).toInt32) &&& 255)) 4 (((x0_.toUInt32 >>> ((24 : Int32).toUInt32 &&& Int32.toUInt32 31)).toInt32) &&& 255)) 5 (((x0_.toUInt32 >>> ((16 : Int32).toUInt32 &&& Int32.toUInt32 31)).toInt32) &&& 255)) 6 (((x0_.toUInt32 >>> ((8 : Int32).toUInt32 &&& Int32.toUInt32 31)).toInt32) &&& 255)) 7 (((x0_.toUInt32 >>> ((0 : Int32).toUInt32 &&& Int32.toUInt32 31)).toInt32) &&& 255))))] H := hP
  have hD : va_D A [(a0_, .inr (14, [.ref a1_, .int 7, .ref a2_, .ref a3_, .ref a4_, .ref a5_, .int 0, .int (-1), .ref a6_, .ref a7_, .ref a8_, .ref a9_])), (a1_, .inl (cI, 4000, .inl (upd (upd (upd (upd (upd (upd (upd (upd (fun _ => 0) 0 (((x1_.toUInt32 >>> ((24 : Int32).toUInt32 &&& Int32.toUInt32 31)).toInt32) &&& 255)) 1 (((x1_.toUInt32 >>> ((16 : Int32).toUInt32 &&& Int32.toUInt32 31)).toInt32) &&& 255)) 2 (((x1_.toUInt32 >>> ((8 : Int32).toUInt32 &&& Int32.toUInt32 31)).toInt32) &&& 255)) 3 (((x1_.toUInt32 >>> ((0 : Int32).toUInt32 &&& Int32.toUInt32 31)).toInt32) &&& 255)) 4 (((x0_.toUInt32 >>> ((24 : Int32).toUInt32 &&& Int32.toUInt32 31)).toInt32) &&& 255)) 5 (((x0_.toUInt32 >>> ((16 : Int32).toUInt32 &&& Int32.toUInt32 31)).toInt32) &&& 255)) 6 (((x0_.toUInt32 >>> ((8 : Int32).toUInt32 &&& Int32.toUInt32 31)).toInt32) &&& 255)) 7 (((x0_.toUInt32 >>> ((0 : Int32).toUInt32 &&& Int32.toUInt32 31)).toInt32) &&& 255))))] := hD
  refine lv_aload_n hx hb dX11_tapeNumber_33 rfl (lv_at hl 1 rfl) ?_
  refine lv_dup hx hb dX11_tapeNumber_34 rfl ?_
  refine va_get (D := (dC, dI)) (ci := 14) (v := .int 7) (C := RX11) (T := TX11) (N := 12) hx hb ht itX11 hown hK hP 0 rfl rfl 1 (by decide) (ht _ tw_212) (fun _ h9 => h9) rfl dX11_tapeNumber_35 ?_
  refine lv_iconst (v := 1) hx hb dX11_tapeNumber_38 (by decide) ?_
  refine lv_iadd hx hb dX11_tapeNumber_39 ?_
  refine tp_i (y := 8) (by decide) ?_
  refine va_put (D := (dC, dI)) (ci := 14) (v := .int 8) (ty := .int) (C := RX11) (T := TX11) (N := 12) hx hb ht itX11 tyX11 tyX11_ok nmX11 hown hK hP hD hS 0 rfl rfl 1 (by decide) (ht _ tw_212) (fun _ h9 => h9) rfl (by decide +kernel) rfl rfl (Nat.le_of_ble_eq_true rfl) dX11_tapeNumber_40 (fun H locs hP hD hS => ?_)
  have hP : va_P (dC, dI) vwCl [(a0_, .inr (14, [.ref a1_, .int 8, .ref a2_, .ref a3_, .ref a4_, .ref a5_, .int 0, .int (-1), .ref a6_, .ref a7_, .ref a8_, .ref a9_])), (a1_, .inl (cI, 4000, .inl (upd (upd (upd (upd (upd (upd (upd (upd (fun _ => 0) 0 (((x1_.toUInt32 >>> ((24 : Int32).toUInt32 &&& Int32.toUInt32 31)).toInt32) &&& 255)) 1 (((x1_.toUInt32 >>> ((16 : Int32).toUInt32 &&& Int32.toUInt32 31)).toInt32) &&& 255)) 2 (((x1_.toUInt32 >>> ((8 : Int32).toUInt32 &&& Int32.toUInt32 31)).toInt32) &&& 255)) 3 (((x1_.toUInt32 >>> ((0 : Int32).toUInt32 &&& Int32.toUInt32 31)).toInt32) &&& 255)) 4 (((x0_.toUInt32 >>> ((24 : Int32).toUInt32 &&& Int32.toUInt32 31)).toInt32) &&& 255)) 5 (((x0_.toUInt32 >>> ((16 : Int32).toUInt32 &&& Int32.toUInt32 31)).toInt32) &&& 255)) 6 (((x0_.toUInt32 >>> ((8 : Int32).toUInt32 &&& Int32.toUInt32 31)).toInt32) &&& 255)) 7 (((x0_.toUInt32 >>> ((0 : Int32).toUInt32 &&& Int32.toUInt32 31)).toInt32) &&& 255))))] H := hP
  have hD : va_D A [(a0_, .inr (14, [.ref a1_, .int 8, .ref a2_, .ref a3_, .ref a4_, .ref a5_, .int 0, .int (-1), .ref a6_, .ref a7_, .ref a8_, .ref a9_])), (a1_, .inl (cI, 4000, .inl (upd (upd (upd (upd (upd (upd (upd (upd (fun _ => 0) 0 (((x1_.toUInt32 >>> ((24 : Int32).toUInt32 &&& Int32.toUInt32 31)).toInt32) &&& 255)) 1 (((x1_.toUInt32 >>> ((16 : Int32).toUInt32 &&& Int32.toUInt32 31)).toInt32) &&& 255)) 2 (((x1_.toUInt32 >>> ((8 : Int32).toUInt32 &&& Int32.toUInt32 31)).toInt32) &&& 255)) 3 (((x1_.toUInt32 >>> ((0 : Int32).toUInt32 &&& Int32.toUInt32 31)).toInt32) &&& 255)) 4 (((x0_.toUInt32 >>> ((24 : Int32).toUInt32 &&& Int32.toUInt32 31)).toInt32) &&& 255)) 5 (((x0_.toUInt32 >>> ((16 : Int32).toUInt32 &&& Int32.toUInt32 31)).toInt32) &&& 255)) 6 (((x0_.toUInt32 >>> ((8 : Int32).toUInt32 &&& Int32.toUInt32 31)).toInt32) &&& 255)) 7 (((x0_.toUInt32 >>> ((0 : Int32).toUInt32 &&& Int32.toUInt32 31)).toInt32) &&& 255))))] := hD
  refine lv_iinc (v := (-8)) (lv' := [(2, .int (-8)), (0, .ref a0_), (1, .int x0_)]) hx hb dX11_tapeNumber_43 hl (k := 0) rfl (by decide) (by decide) rfl (fun ls hl => ?_)
  refine lv_goto (tgt := 3) hx hb dX11_tapeNumber_46 (by decide) ?_
  refine lv_iload_n hx hb dX11_tapeNumber_3 rfl (lv_at hl 0 rfl) ?_
  refine lv_if_lt (tgt := 49) hx hb dX11_tapeNumber_4 (by decide) (fun _ => ?_) (fun k9 => absurd k9 (by decide))
  have hP9 := hP.sub (ws' := [(a0_, .inr (14, [.ref a1_, .int 8, .ref a2_, .ref a3_, .ref a4_, .ref a5_, .int 0, .int (-1), .ref a6_, .ref a7_, .ref a8_, .ref a9_])), (a1_, .inl (cI, 4000, .inl (upd (upd (upd (upd (upd (upd (upd (upd (fun _ => 0) 0 (((x1_.toUInt32 >>> ((24 : Int32).toUInt32 &&& Int32.toUInt32 31)).toInt32) &&& 255)) 1 (((x1_.toUInt32 >>> ((16 : Int32).toUInt32 &&& Int32.toUInt32 31)).toInt32) &&& 255)) 2 (((x1_.toUInt32 >>> ((8 : Int32).toUInt32 &&& Int32.toUInt32 31)).toInt32) &&& 255)) 3 (((x1_.toUInt32 >>> ((0 : Int32).toUInt32 &&& Int32.toUInt32 31)).toInt32) &&& 255)) 4 (((x0_.toUInt32 >>> ((24 : Int32).toUInt32 &&& Int32.toUInt32 31)).toInt32) &&& 255)) 5 (((x0_.toUInt32 >>> ((16 : Int32).toUInt32 &&& Int32.toUInt32 31)).toInt32) &&& 255)) 6 (((x0_.toUInt32 >>> ((8 : Int32).toUInt32 &&& Int32.toUInt32 31)).toInt32) &&& 255)) 7 (((x0_.toUInt32 >>> ((0 : Int32).toUInt32 &&& Int32.toUInt32 31)).toInt32) &&& 255))))]) [0, 1] rfl
  have hD9 := hD.sub (ws' := [(a0_, .inr (14, [.ref a1_, .int 8, .ref a2_, .ref a3_, .ref a4_, .ref a5_, .int 0, .int (-1), .ref a6_, .ref a7_, .ref a8_, .ref a9_])), (a1_, .inl (cI, 4000, .inl (upd (upd (upd (upd (upd (upd (upd (upd (fun _ => 0) 0 (((x1_.toUInt32 >>> ((24 : Int32).toUInt32 &&& Int32.toUInt32 31)).toInt32) &&& 255)) 1 (((x1_.toUInt32 >>> ((16 : Int32).toUInt32 &&& Int32.toUInt32 31)).toInt32) &&& 255)) 2 (((x1_.toUInt32 >>> ((8 : Int32).toUInt32 &&& Int32.toUInt32 31)).toInt32) &&& 255)) 3 (((x1_.toUInt32 >>> ((0 : Int32).toUInt32 &&& Int32.toUInt32 31)).toInt32) &&& 255)) 4 (((x0_.toUInt32 >>> ((24 : Int32).toUInt32 &&& Int32.toUInt32 31)).toInt32) &&& 255)) 5 (((x0_.toUInt32 >>> ((16 : Int32).toUInt32 &&& Int32.toUInt32 31)).toInt32) &&& 255)) 6 (((x0_.toUInt32 >>> ((8 : Int32).toUInt32 &&& Int32.toUInt32 31)).toInt32) &&& 255)) 7 (((x0_.toUInt32 >>> ((0 : Int32).toUInt32 &&& Int32.toUInt32 31)).toInt32) &&& 255))))]) [0, 1] (by decide) rfl
  refine W.widen (k := 0) (n := 0) (by omega) (by omega) ?_
  exact W.vret hx hb hr (fun t ht9 hW => ⟨⟨(), rfl, trivial, by rw [ht9]; exact hP9, hD9⟩, hS.F ht9⟩) hS.2.2 dX11_tapeNumber_49
set_option maxHeartbeats 4000000 in
set_option maxRecDepth 100000 in
theorem c_X11_tapeNumber_3 (l : Launch) (dC : Nat → ClassId) (dI : Nat → Nat → Nat) (cI cB cZ cJ cR : ClassId) (tb : Nat → Nat) (sz : Nat) (a0_ : Nat) (x0_ : Int32) (a1_ : Nat) (a2_ : Nat) (a3_ : Nat) (a4_ : Nat) (a5_ : Nat) (a6_ : Nat) (a7_ : Nat) (a8_ : Nat) (a9_ : Nat) (x1_ : Int32) (x2_ : Int32)  : Met l yX11_tapeNumber (Cond.code yX11_tapeNumber cX11_tapeNumber 3 none :: tw_W) ({ frames := 0, cells := 0, slots := 0, locals := 0 }) (pc_ (dC, dI) (tyS cI cB cZ cJ cR) tb [(a0_, .inr (14, [.ref a1_, .int 8, .ref a2_, .ref a3_, .ref a4_, .ref a5_, .int 0, .int (-1), .ref a6_, .ref a7_, .ref a8_, .ref a9_])), (a1_, .inl (cI, 4000, .inl (upd (upd (upd (upd (upd (upd (upd (upd (fun _ => 0) 0 (((x1_.toUInt32 >>> ((24 : Int32).toUInt32 &&& Int32.toUInt32 31)).toInt32) &&& 255)) 1 (((x1_.toUInt32 >>> ((16 : Int32).toUInt32 &&& Int32.toUInt32 31)).toInt32) &&& 255)) 2 (((x1_.toUInt32 >>> ((8 : Int32).toUInt32 &&& Int32.toUInt32 31)).toInt32) &&& 255)) 3 (((x1_.toUInt32 >>> ((0 : Int32).toUInt32 &&& Int32.toUInt32 31)).toInt32) &&& 255)) 4 (((x2_.toUInt32 >>> ((24 : Int32).toUInt32 &&& Int32.toUInt32 31)).toInt32) &&& 255)) 5 (((x2_.toUInt32 >>> ((16 : Int32).toUInt32 &&& Int32.toUInt32 31)).toInt32) &&& 255)) 6 (((x2_.toUInt32 >>> ((8 : Int32).toUInt32 &&& Int32.toUInt32 31)).toInt32) &&& 255)) 7 (((x2_.toUInt32 >>> ((0 : Int32).toUInt32 &&& Int32.toUInt32 31)).toInt32) &&& 255))))] sz [.ref a0_, .int x0_]) (qv_ (dC, dI) [(a0_, .inr (14, [.ref a1_, .int 8, .ref a2_, .ref a3_, .ref a4_, .ref a5_, .int 0, .int (-1), .ref a6_, .ref a7_, .ref a8_, .ref a9_])), (a1_, .inl (cI, 4000, .inl (upd (upd (upd (upd (upd (upd (upd (upd (fun _ => 0) 0 (((x1_.toUInt32 >>> ((24 : Int32).toUInt32 &&& Int32.toUInt32 31)).toInt32) &&& 255)) 1 (((x1_.toUInt32 >>> ((16 : Int32).toUInt32 &&& Int32.toUInt32 31)).toInt32) &&& 255)) 2 (((x1_.toUInt32 >>> ((8 : Int32).toUInt32 &&& Int32.toUInt32 31)).toInt32) &&& 255)) 3 (((x1_.toUInt32 >>> ((0 : Int32).toUInt32 &&& Int32.toUInt32 31)).toInt32) &&& 255)) 4 (((x2_.toUInt32 >>> ((24 : Int32).toUInt32 &&& Int32.toUInt32 31)).toInt32) &&& 255)) 5 (((x2_.toUInt32 >>> ((16 : Int32).toUInt32 &&& Int32.toUInt32 31)).toInt32) &&& 255)) 6 (((x2_.toUInt32 >>> ((8 : Int32).toUInt32 &&& Int32.toUInt32 31)).toInt32) &&& 255)) 7 (((x2_.toUInt32 >>> ((0 : Int32).toUInt32 &&& Int32.toUInt32 31)).toInt32) &&& 255))))] sz (fun (u : Unit) => True) (fun (u : Unit) => [(a0_, .inr (14, [.ref a1_, .int 12, .ref a2_, .ref a3_, .ref a4_, .ref a5_, .int 0, .int (-1), .ref a6_, .ref a7_, .ref a8_, .ref a9_])), (a1_, .inl (cI, 4000, .inl (upd (upd (upd (upd (upd (upd (upd (upd (upd (upd (upd (upd (fun _ => 0) 0 (((x1_.toUInt32 >>> ((24 : Int32).toUInt32 &&& Int32.toUInt32 31)).toInt32) &&& 255)) 1 (((x1_.toUInt32 >>> ((16 : Int32).toUInt32 &&& Int32.toUInt32 31)).toInt32) &&& 255)) 2 (((x1_.toUInt32 >>> ((8 : Int32).toUInt32 &&& Int32.toUInt32 31)).toInt32) &&& 255)) 3 (((x1_.toUInt32 >>> ((0 : Int32).toUInt32 &&& Int32.toUInt32 31)).toInt32) &&& 255)) 4 (((x2_.toUInt32 >>> ((24 : Int32).toUInt32 &&& Int32.toUInt32 31)).toInt32) &&& 255)) 5 (((x2_.toUInt32 >>> ((16 : Int32).toUInt32 &&& Int32.toUInt32 31)).toInt32) &&& 255)) 6 (((x2_.toUInt32 >>> ((8 : Int32).toUInt32 &&& Int32.toUInt32 31)).toInt32) &&& 255)) 7 (((x2_.toUInt32 >>> ((0 : Int32).toUInt32 &&& Int32.toUInt32 31)).toInt32) &&& 255)) 8 (((x0_.toUInt32 >>> ((24 : Int32).toUInt32 &&& Int32.toUInt32 31)).toInt32) &&& 255)) 9 (((x0_.toUInt32 >>> ((16 : Int32).toUInt32 &&& Int32.toUInt32 31)).toInt32) &&& 255)) 10 (((x0_.toUInt32 >>> ((8 : Int32).toUInt32 &&& Int32.toUInt32 31)).toInt32) &&& 255)) 11 (((x0_.toUInt32 >>> ((0 : Int32).toUInt32 &&& Int32.toUInt32 31)).toInt32) &&& 255))))])) 0 0 (va_A [(a0_, .inr (14, [.ref a1_, .int 8, .ref a2_, .ref a3_, .ref a4_, .ref a5_, .int 0, .int (-1), .ref a6_, .ref a7_, .ref a8_, .ref a9_])), (a1_, .inl (cI, 4000, .inl (upd (upd (upd (upd (upd (upd (upd (upd (fun _ => 0) 0 (((x1_.toUInt32 >>> ((24 : Int32).toUInt32 &&& Int32.toUInt32 31)).toInt32) &&& 255)) 1 (((x1_.toUInt32 >>> ((16 : Int32).toUInt32 &&& Int32.toUInt32 31)).toInt32) &&& 255)) 2 (((x1_.toUInt32 >>> ((8 : Int32).toUInt32 &&& Int32.toUInt32 31)).toInt32) &&& 255)) 3 (((x1_.toUInt32 >>> ((0 : Int32).toUInt32 &&& Int32.toUInt32 31)).toInt32) &&& 255)) 4 (((x2_.toUInt32 >>> ((24 : Int32).toUInt32 &&& Int32.toUInt32 31)).toInt32) &&& 255)) 5 (((x2_.toUInt32 >>> ((16 : Int32).toUInt32 &&& Int32.toUInt32 31)).toInt32) &&& 255)) 6 (((x2_.toUInt32 >>> ((8 : Int32).toUInt32 &&& Int32.toUInt32 31)).toInt32) &&& 255)) 7 (((x2_.toUInt32 >>> ((0 : Int32).toUInt32 &&& Int32.toUInt32 31)).toInt32) &&& 255))))] sz) := by
  refine Met.ofW (cc := cX11_tapeNumber) (maxL := 3) (ret := none) (by decide) rfl ?_
  intro p e s m args below meth c s₁ B hml hv
  obtain ⟨rfl, hsz, hP, hKK, hD0, hFx⟩ := hv
  have hK := hKK.1
  have hx := B.exec
  have hb := B.bytes
  have hr := B.returns
  have ht : ∀ w ∈ tw_W, w.before _ s = true := fun w h => atoms_spec (ws := Cond.code yX11_tapeNumber cX11_tapeNumber 3 none :: tw_W) B.pre w (List.mem_cons_of_mem _ h)
  have hown : s.vm.findClass RX11 = some m.cls := findClass_of_methodNamed B.named
  have hlocks := B.notSynchronized
  subst hsz
  unfold qv_
  have hD := hD0.self (sz := s.heap.size)
  generalize hAe : va_A [(a0_, .inr (14, [.ref a1_, .int 8, .ref a2_, .ref a3_, .ref a4_, .ref a5_, .int 0, .int (-1), .ref a6_, .ref a7_, .ref a8_, .ref a9_])), (a1_, .inl (cI, 4000, .inl (upd (upd (upd (upd (upd (upd (upd (upd (fun _ => 0) 0 (((x1_.toUInt32 >>> ((24 : Int32).toUInt32 &&& Int32.toUInt32 31)).toInt32) &&& 255)) 1 (((x1_.toUInt32 >>> ((16 : Int32).toUInt32 &&& Int32.toUInt32 31)).toInt32) &&& 255)) 2 (((x1_.toUInt32 >>> ((8 : Int32).toUInt32 &&& Int32.toUInt32 31)).toInt32) &&& 255)) 3 (((x1_.toUInt32 >>> ((0 : Int32).toUInt32 &&& Int32.toUInt32 31)).toInt32) &&& 255)) 4 (((x2_.toUInt32 >>> ((24 : Int32).toUInt32 &&& Int32.toUInt32 31)).toInt32) &&& 255)) 5 (((x2_.toUInt32 >>> ((16 : Int32).toUInt32 &&& Int32.toUInt32 31)).toInt32) &&& 255)) 6 (((x2_.toUInt32 >>> ((8 : Int32).toUInt32 &&& Int32.toUInt32 31)).toInt32) &&& 255)) 7 (((x2_.toUInt32 >>> ((0 : Int32).toUInt32 &&& Int32.toUInt32 31)).toInt32) &&& 255))))] s.heap.size = A at hD hFx ⊢
  have hA : ∀ q : Nat, s.heap.size ≤ q → A q := fun q h => by rw [← hAe]; exact Or.inr h
  have hS : va_S A s.heap s.heap [] := va_S.rf
  have hP : va_P (dC, dI) vwCl [(a0_, .inr (14, [.ref a1_, .int 8, .ref a2_, .ref a3_, .ref a4_, .ref a5_, .int 0, .int (-1), .ref a6_, .ref a7_, .ref a8_, .ref a9_])), (a1_, .inl (cI, 4000, .inl (upd (upd (upd (upd (upd (upd (upd (upd (fun _ => 0) 0 (((x1_.toUInt32 >>> ((24 : Int32).toUInt32 &&& Int32.toUInt32 31)).toInt32) &&& 255)) 1 (((x1_.toUInt32 >>> ((16 : Int32).toUInt32 &&& Int32.toUInt32 31)).toInt32) &&& 255)) 2 (((x1_.toUInt32 >>> ((8 : Int32).toUInt32 &&& Int32.toUInt32 31)).toInt32) &&& 255)) 3 (((x1_.toUInt32 >>> ((0 : Int32).toUInt32 &&& Int32.toUInt32 31)).toInt32) &&& 255)) 4 (((x2_.toUInt32 >>> ((24 : Int32).toUInt32 &&& Int32.toUInt32 31)).toInt32) &&& 255)) 5 (((x2_.toUInt32 >>> ((16 : Int32).toUInt32 &&& Int32.toUInt32 31)).toInt32) &&& 255)) 6 (((x2_.toUInt32 >>> ((8 : Int32).toUInt32 &&& Int32.toUInt32 31)).toInt32) &&& 255)) 7 (((x2_.toUInt32 >>> ((0 : Int32).toUInt32 &&& Int32.toUInt32 31)).toInt32) &&& 255))))] s.heap := hP
  have hl := lv_entry ([.ref a0_, .int x0_]) (n := 3) (Nat.le_of_ble_eq_true rfl)
  rw [lg_entry_eq]
  generalize (lg_sl ([.ref a0_, .int x0_]) ++ List.replicate (3 - (lg_sl ([.ref a0_, .int x0_])).length) Slot.unset).toArray = ls at hl ⊢
  have hl : lv_has ls 3 [(0, .ref a0_), (1, .int x0_)] := hl
  refine lv_bipush (v := 24) hx hb dX11_tapeNumber_0 (by decide) ?_
  refine lv_istore_n (lv' := [(2, .int 24), (0, .ref a0_), (1, .int x0_)]) hx hb dX11_tapeNumber_2 rfl hl (by decide) rfl (fun ls hl => ?_)
  refine lv_iload_n hx hb dX11_tapeNumber_3 rfl (lv_at hl 0 rfl) ?_
  refine lv_if_lt (tgt := 49) hx hb dX11_tapeNumber_4 (by decide) (fun k1 => absurd k1 (by decide)) (fun _ => ?_)
  refine lv_aload_n hx hb dX11_tapeNumber_7 rfl (lv_at hl 1 rfl) ?_
  refine va_get (D := (dC, dI)) (ci := 14) (v := .int 8) (C := RX11) (T := TX11) (N := 12) hx hb ht itX11 hown hK hP 0 rfl rfl 1 (by decide) (ht _ tw_212) (fun _ h9 => h9) rfl dX11_tapeNumber_8 ?_
  refine lv_sipush (v := 4000) hx hb dX11_tapeNumber_11 (by decide) ?_
  refine lv_icmp_ge (tgt := 49) hx hb dX11_tapeNumber_14 (by decide) (fun k2 => absurd k2 (by decide)) (fun _ => ?_)
  refine lv_aload_n hx hb dX11_tapeNumber_17 rfl (lv_at hl 1 rfl) ?_
  refine va_get (D := (dC, dI)) (ci := 14) (v := .ref a1_) (C := RX11) (T := TX11) (N := 12) hx hb ht itX11 hown hK hP 0 rfl rfl 0 (by decide) (ht _ tw_85) (fun _ h9 => h9) rfl dX11_tapeNumber_18 ?_
  refine lv_aload_n hx hb dX11_tapeNumber_21 rfl (lv_at hl 1 rfl) ?_
  refine va_get (D := (dC, dI)) (ci := 14) (v := .int 8) (C := RX11) (T := TX11) (N := 12) hx hb ht itX11 hown hK hP 0 rfl rfl 1 (by decide) (ht _ tw_212) (fun _ h9 => h9) rfl dX11_tapeNumber_22 ?_
  refine lv_iload_n hx hb dX11_tapeNumber_25 rfl (lv_at hl 2 rfl) ?_
  refine lv_iload_n hx hb dX11_tapeNumber_26 rfl (lv_at hl 0 rfl) ?_
  refine lv_iushr hx hb dX11_tapeNumber_27 rfl ?_
  refine lv_sipush (v := 255) hx hb dX11_tapeNumber_28 (by decide) ?_
  refine lv_iand hx hb dX11_tapeNumber_31 ?_
  refine va_iast (D := (dC, dI)) hx hb hK hP hD hS 1 0 rfl rfl (vp_in_iff.mpr (by decide)) dX11_tapeNumber_32 (fun H locs hP hD hS => ?_)
  have hP : va_P (dC, dI) vwCl [(a0_, .inr (14, [.ref a1_, .int 8, .ref a2_, .ref a3_, .ref a4_, .ref a5_, .int 0, .int (-1), .ref a6_, .ref a7_, .ref a8_, .ref a9_])), (a1_, .inl (cI, 4000, .inl (upd (upd (upd (upd (upd (upd (upd (upd (upd (fun _ => 0) 0 (((x1_.toUInt32 >>> ((24 : Int32).toUInt32 &&& Int32.toUInt32 31)).toInt32) &&& 255)) 1 (((x1_.toUInt32 >>> ((16 : Int32).toUInt32 &&& Int32.toUInt32 31)).toInt32) &&& 255)) 2 (((x1_.toUInt32 >>> ((8 : Int32).toUInt32 &&& Int32.toUInt32 31)).toInt32) &&& 255)) 3 (((x1_.toUInt32 >>> ((0 : Int32).toUInt32 &&& Int32.toUInt32 31)).toInt32) &&& 255)) 4 (((x2_.toUInt32 >>> ((24 : Int32).toUInt32 &&& Int32.toUInt32 31)).toInt32) &&& 255)) 5 (((x2_.toUInt32 >>> ((16 : Int32).toUInt32 &&& Int32.toUInt32 31)).toInt32) &&& 255)) 6 (((x2_.toUInt32 >>> ((8 : Int32).toUInt32 &&& Int32.toUInt32 31)).toInt32) &&& 255)) 7 (((x2_.toUInt32 >>> ((0 : Int32).toUInt32 &&& Int32.toUInt32 31)).toInt32) &&& 255)) 8 (((x0_.toUInt32 >>> ((24 : Int32).toUInt32 &&& Int32.toUInt32 31)).toInt32) &&& 255))))] H := hP
  have hD : va_D A [(a0_, .inr (14, [.ref a1_, .int 8, .ref a2_, .ref a3_, .ref a4_, .ref a5_, .int 0, .int (-1), .ref a6_, .ref a7_, .ref a8_, .ref a9_])), (a1_, .inl (cI, 4000, .inl (upd (upd (upd (upd (upd (upd (upd (upd (upd (fun _ => 0) 0 (((x1_.toUInt32 >>> ((24 : Int32).toUInt32 &&& Int32.toUInt32 31)).toInt32) &&& 255)) 1 (((x1_.toUInt32 >>> ((16 : Int32).toUInt32 &&& Int32.toUInt32 31)).toInt32) &&& 255)) 2 (((x1_.toUInt32 >>> ((8 : Int32).toUInt32 &&& Int32.toUInt32 31)).toInt32) &&& 255)) 3 (((x1_.toUInt32 >>> ((0 : Int32).toUInt32 &&& Int32.toUInt32 31)).toInt32) &&& 255)) 4 (((x2_.toUInt32 >>> ((24 : Int32).toUInt32 &&& Int32.toUInt32 31)).toInt32) &&& 255)) 5 (((x2_.toUInt32 >>> ((16 : Int32).toUInt32 &&& Int32.toUInt32 31)).toInt32) &&& 255)) 6 (((x2_.toUInt32 >>> ((8 : Int32).toUInt32 &&& Int32.toUInt32 31)).toInt32) &&& 255)) 7 (((x2_.toUInt32 >>> ((0 : Int32).toUInt32 &&& Int32.toUInt32 31)).toInt32) &&& 255)) 8 (((x0_.toUInt32 >>> ((24 : Int32).toUInt32 &&& Int32.toUInt32 31)).toInt32) &&& 255))))] := hD
  refine lv_aload_n hx hb dX11_tapeNumber_33 rfl (lv_at hl 1 rfl) ?_
  refine lv_dup hx hb dX11_tapeNumber_34 rfl ?_
  refine va_get (D := (dC, dI)) (ci := 14) (v := .int 8) (C := RX11) (T := TX11) (N := 12) hx hb ht itX11 hown hK hP 0 rfl rfl 1 (by decide) (ht _ tw_212) (fun _ h9 => h9) rfl dX11_tapeNumber_35 ?_
  refine lv_iconst (v := 1) hx hb dX11_tapeNumber_38 (by decide) ?_
  refine lv_iadd hx hb dX11_tapeNumber_39 ?_
  refine tp_i (y := 9) (by decide) ?_
  refine va_put (D := (dC, dI)) (ci := 14) (v := .int 9) (ty := .int) (C := RX11) (T := TX11) (N := 12) hx hb ht itX11 tyX11 tyX11_ok nmX11 hown hK hP hD hS 0 rfl rfl 1 (by decide) (ht _ tw_212) (fun _ h9 => h9) rfl (by decide +kernel) rfl rfl (Nat.le_of_ble_eq_true rfl) dX11_tapeNumber_40 (fun H locs hP hD hS => ?_)
  have hP : va_P (dC, dI) vwCl [(a0_, .inr (14, [.ref a1_, .int 9, .ref a2_, .ref a3_, .ref a4_, .ref a5_, .int 0, .int (-1), .ref a6_, .ref a7_, .ref a8_, .ref a9_])), (a1_, .inl (cI, 4000, .inl (upd (upd (upd (upd (upd (upd (upd (upd (upd (fun _ => 0) 0 (((x1_.toUInt32 >>> ((24 : Int32).toUInt32 &&& Int32.toUInt32 31)).toInt32) &&& 255)) 1 (((x1_.toUInt32 >>> ((16 : Int32).toUInt32 &&& Int32.toUInt32 31)).toInt32) &&& 255)) 2 (((x1_.toUInt32 >>> ((8 : Int32).toUInt32 &&& Int32.toUInt32 31)).toInt32) &&& 255)) 3 (((x1_.toUInt32 >>> ((0 : Int32).toUInt32 &&& Int32.toUInt32 31)).toInt32) &&& 255)) 4 (((x2_.toUInt32 >>> ((24 : Int32).toUInt32 &&& Int32.toUInt32 31)).toInt32) &&& 255)) 5 (((x2_.toUInt32 >>> ((16 : Int32).toUInt32 &&& Int32.toUInt32 31)).toInt32) &&& 255)) 6 (((x2_.toUInt32 >>> ((8 : Int32).toUInt32 &&& Int32.toUInt32 31)).toInt32) &&& 255)) 7 (((x2_.toUInt32 >>> ((0 : Int32).toUInt32 &&& Int32.toUInt32 31)).toInt32) &&& 255)) 8 (((x0_.toUInt32 >>> ((24 : Int32).toUInt32 &&& Int32.toUInt32 31)).toInt32) &&& 255))))] H := hP
  have hD : va_D A [(a0_, .inr (14, [.ref a1_, .int 9, .ref a2_, .ref a3_, .ref a4_, .ref a5_, .int 0, .int (-1), .ref a6_, .ref a7_, .ref a8_, .ref a9_])), (a1_, .inl (cI, 4000, .inl (upd (upd (upd (upd (upd (upd (upd (upd (upd (fun _ => 0) 0 (((x1_.toUInt32 >>> ((24 : Int32).toUInt32 &&& Int32.toUInt32 31)).toInt32) &&& 255)) 1 (((x1_.toUInt32 >>> ((16 : Int32).toUInt32 &&& Int32.toUInt32 31)).toInt32) &&& 255)) 2 (((x1_.toUInt32 >>> ((8 : Int32).toUInt32 &&& Int32.toUInt32 31)).toInt32) &&& 255)) 3 (((x1_.toUInt32 >>> ((0 : Int32).toUInt32 &&& Int32.toUInt32 31)).toInt32) &&& 255)) 4 (((x2_.toUInt32 >>> ((24 : Int32).toUInt32 &&& Int32.toUInt32 31)).toInt32) &&& 255)) 5 (((x2_.toUInt32 >>> ((16 : Int32).toUInt32 &&& Int32.toUInt32 31)).toInt32) &&& 255)) 6 (((x2_.toUInt32 >>> ((8 : Int32).toUInt32 &&& Int32.toUInt32 31)).toInt32) &&& 255)) 7 (((x2_.toUInt32 >>> ((0 : Int32).toUInt32 &&& Int32.toUInt32 31)).toInt32) &&& 255)) 8 (((x0_.toUInt32 >>> ((24 : Int32).toUInt32 &&& Int32.toUInt32 31)).toInt32) &&& 255))))] := hD
  refine lv_iinc (v := 16) (lv' := [(2, .int 16), (0, .ref a0_), (1, .int x0_)]) hx hb dX11_tapeNumber_43 hl (k := 0) rfl (by decide) (by decide) rfl (fun ls hl => ?_)
  refine lv_goto (tgt := 3) hx hb dX11_tapeNumber_46 (by decide) ?_
  refine lv_iload_n hx hb dX11_tapeNumber_3 rfl (lv_at hl 0 rfl) ?_
  refine lv_if_lt (tgt := 49) hx hb dX11_tapeNumber_4 (by decide) (fun k3 => absurd k3 (by decide)) (fun _ => ?_)
  refine lv_aload_n hx hb dX11_tapeNumber_7 rfl (lv_at hl 1 rfl) ?_
  refine va_get (D := (dC, dI)) (ci := 14) (v := .int 9) (C := RX11) (T := TX11) (N := 12) hx hb ht itX11 hown hK hP 0 rfl rfl 1 (by decide) (ht _ tw_212) (fun _ h9 => h9) rfl dX11_tapeNumber_8 ?_
  refine lv_sipush (v := 4000) hx hb dX11_tapeNumber_11 (by decide) ?_
  refine lv_icmp_ge (tgt := 49) hx hb dX11_tapeNumber_14 (by decide) (fun k4 => absurd k4 (by decide)) (fun _ => ?_)
  refine lv_aload_n hx hb dX11_tapeNumber_17 rfl (lv_at hl 1 rfl) ?_
  refine va_get (D := (dC, dI)) (ci := 14) (v := .ref a1_) (C := RX11) (T := TX11) (N := 12) hx hb ht itX11 hown hK hP 0 rfl rfl 0 (by decide) (ht _ tw_85) (fun _ h9 => h9) rfl dX11_tapeNumber_18 ?_
  refine lv_aload_n hx hb dX11_tapeNumber_21 rfl (lv_at hl 1 rfl) ?_
  refine va_get (D := (dC, dI)) (ci := 14) (v := .int 9) (C := RX11) (T := TX11) (N := 12) hx hb ht itX11 hown hK hP 0 rfl rfl 1 (by decide) (ht _ tw_212) (fun _ h9 => h9) rfl dX11_tapeNumber_22 ?_
  refine lv_iload_n hx hb dX11_tapeNumber_25 rfl (lv_at hl 2 rfl) ?_
  refine lv_iload_n hx hb dX11_tapeNumber_26 rfl (lv_at hl 0 rfl) ?_
  refine lv_iushr hx hb dX11_tapeNumber_27 rfl ?_
  refine lv_sipush (v := 255) hx hb dX11_tapeNumber_28 (by decide) ?_
  refine lv_iand hx hb dX11_tapeNumber_31 ?_
  refine va_iast (D := (dC, dI)) hx hb hK hP hD hS 1 0 rfl rfl (vp_in_iff.mpr (by decide)) dX11_tapeNumber_32 (fun H locs hP hD hS => ?_)
  have hP : va_P (dC, dI) vwCl [(a0_, .inr (14, [.ref a1_, .int 9, .ref a2_, .ref a3_, .ref a4_, .ref a5_, .int 0, .int (-1), .ref a6_, .ref a7_, .ref a8_, .ref a9_])), (a1_, .inl (cI, 4000, .inl (upd (upd (upd (upd (upd (upd (upd (upd (upd (upd (fun _ => 0) 0 (((x1_.toUInt32 >>> ((24 : Int32).toUInt32 &&& Int32.toUInt32 31)).toInt32) &&& 255)) 1 (((x1_.toUInt32 >>> ((16 : Int32).toUInt32 &&& Int32.toUInt32 31)).toInt32) &&& 255)) 2 (((x1_.toUInt32 >>> ((8 : Int32).toUInt32 &&& Int32.toUInt32 31)).toInt32) &&& 255)) 3 (((x1_.toUInt32 >>> ((0 : Int32).toUInt32 &&& Int32.toUInt32 31)).toInt32) &&& 255)) 4 (((x2_.toUInt32 >>> ((24 : Int32).toUInt32 &&& Int32.toUInt32 31)).toInt32) &&& 255)) 5 (((x2_.toUInt32 >>> ((16 : Int32).toUInt32 &&& Int32.toUInt32 31)).toInt32) &&& 255)) 6 (((x2_.toUInt32 >>> ((8 : Int32).toUInt32 &&& Int32.toUInt32 31)).toInt32) &&& 255)) 7 (((x2_.toUInt32 >>> ((0 : Int32).toUInt32 &&& Int32.toUInt32 31)).toInt32) &&& 255)) 8 (((x0_.toUInt32 >>> ((24 : Int32).toUInt32 &&& Int32.toUInt32 31)).toInt32) &&& 255)) 9 (((x0_.toUInt32 >>> ((16 : Int32).toUInt32 &&& Int32.toUInt32 31)).toInt32) &&& 255))))] H := hP
  have hD : va_D A [(a0_, .inr (14, [.ref a1_, .int 9, .ref a2_, .ref a3_, .ref a4_, .ref a5_, .int 0, .int (-1), .ref a6_, .ref a7_, .ref a8_, .ref a9_])), (a1_, .inl (cI, 4000, .inl (upd (upd (upd (upd (upd (upd (upd (upd (upd (upd (fun _ => 0) 0 (((x1_.toUInt32 >>> ((24 : Int32).toUInt32 &&& Int32.toUInt32 31)).toInt32) &&& 255)) 1 (((x1_.toUInt32 >>> ((16 : Int32).toUInt32 &&& Int32.toUInt32 31)).toInt32) &&& 255)) 2 (((x1_.toUInt32 >>> ((8 : Int32).toUInt32 &&& Int32.toUInt32 31)).toInt32) &&& 255)) 3 (((x1_.toUInt32 >>> ((0 : Int32).toUInt32 &&& Int32.toUInt32 31)).toInt32) &&& 255)) 4 (((x2_.toUInt32 >>> ((24 : Int32).toUInt32 &&& Int32.toUInt32 31)).toInt32) &&& 255)) 5 (((x2_.toUInt32 >>> ((16 : Int32).toUInt32 &&& Int32.toUInt32 31)).toInt32) &&& 255)) 6 (((x2_.toUInt32 >>> ((8 : Int32).toUInt32 &&& Int32.toUInt32 31)).toInt32) &&& 255)) 7 (((x2_.toUInt32 >>> ((0 : Int32).toUInt32 &&& Int32.toUInt32 31)).toInt32) &&& 255)) 8 (((x0_.toUInt32 >>> ((24 : Int32).toUInt32 &&& Int32.toUInt32 31)).toInt32) &&& 255)) 9 (((x0_.toUInt32 >>> ((16 : Int32).toUInt32 &&& Int32.toUInt32 31)).toInt32) &&& 255))))] := hD
  refine lv_aload_n hx hb dX11_tapeNumber_33 rfl (lv_at hl 1 rfl) ?_
  refine lv_dup hx hb dX11_tapeNumber_34 rfl ?_
  refine va_get (D := (dC, dI)) (ci := 14) (v := .int 9) (C := RX11) (T := TX11) (N := 12) hx hb ht itX11 hown hK hP 0 rfl rfl 1 (by decide) (ht _ tw_212) (fun _ h9 => h9) rfl dX11_tapeNumber_35 ?_
  refine lv_iconst (v := 1) hx hb dX11_tapeNumber_38 (by decide) ?_
  refine lv_iadd hx hb dX11_tapeNumber_39 ?_
  refine tp_i (y := 10) (by decide) ?_
  refine va_put (D := (dC, dI)) (ci := 14) (v := .int 10) (ty := .int) (C := RX11) (T := TX11) (N := 12) hx hb ht itX11 tyX11 tyX11_ok nmX11 hown hK hP hD hS 0 rfl rfl 1 (by decide) (ht _ tw_212) (fun _ h9 => h9) rfl (by decide +kernel) rfl rfl (Nat.le_of_ble_eq_true rfl) dX11_tapeNumber_40 (fun H locs hP hD hS => ?_)
  have hP : va_P (dC, dI) vwCl [(a0_, .inr (14, [.ref a1_, .int 10, .ref a2_, .ref a3_, .ref a4_, .ref a5_, .int 0, .int (-1), .ref a6_, .ref a7_, .ref a8_, .ref a9_])), (a1_, .inl (cI, 4000, .inl (upd (upd (upd (upd (upd (upd (upd (upd (upd (upd (fun _ => 0) 0 (((x1_.toUInt32 >>> ((24 : Int32).toUInt32 &&& Int32.toUInt32 31)).toInt32) &&& 255)) 1 (((x1_.toUInt32 >>> ((16 : Int32).toUInt32 &&& Int32.toUInt32 31)).toInt32) &&& 255)) 2 (((x1_.toUInt32 >>> ((8 : Int32).toUInt32 &&& Int32.toUInt32 31)).toInt32) &&& 255)) 3 (((x1_.toUInt32 >>> ((0 : Int32).toUInt32 &&& Int32.toUInt32 31)).toInt32) &&& 255)) 4 (((x2_.toUInt32 >>> ((24 : Int32).toUInt32 &&& Int32.toUInt32 31)).toInt32) &&& 255)) 5 (((x2_.toUInt32 >>> ((16 : Int32).toUInt32 &&& Int32.toUInt32 31)).toInt32) &&& 255)) 6 (((x2_.toUInt32 >>> ((8 : Int32).toUInt32 &&& Int32.toUInt32 31)).toInt32) &&& 255)) 7 (((x2_.toUInt32 >>> ((0 : Int32).toUInt32 &&& Int32.toUInt32 31)).toInt32) &&& 255)) 8 (((x0_.toUInt32 >>> ((24 : Int32).toUInt32 &&& Int32.toUInt32 31)).toInt32) &&& 255)) 9 (((x0_.toUInt32 >>> ((16 : Int32).toUInt32 &&& Int32.toUInt32 31)).toInt32) &&& 255))))] H := hP
  have hD : va_D A [(a0_, .inr (14, [.ref a1_, .int 10, .ref a2_, .ref a3_, .ref a4_, .ref a5_, .int 0, .int (-1), .ref a6_, .ref a7_, .ref a8_, .ref a9_])), (a1_, .inl (cI, 4000, .inl (upd (upd (upd (upd (upd (upd (upd (upd (upd (upd (fun _ => 0) 0 (((x1_.toUInt32 >>> ((24 : Int32).toUInt32 &&& Int32.toUInt32 31)).toInt32) &&& 255)) 1 (((x1_.toUInt32 >>> ((16 : Int32).toUInt32 &&& Int32.toUInt32 31)).toInt32) &&& 255)) 2 (((x1_.toUInt32 >>> ((8 : Int32).toUInt32 &&& Int32.toUInt32 31)).toInt32) &&& 255)) 3 (((x1_.toUInt32 >>> ((0 : Int32).toUInt32 &&& Int32.toUInt32 31)).toInt32) &&& 255)) 4 (((x2_.toUInt32 >>> ((24 : Int32).toUInt32 &&& Int32.toUInt32 31)).toInt32) &&& 255)) 5 (((x2_.toUInt32 >>> ((16 : Int32).toUInt32 &&& Int32.toUInt32 31)).toInt32) &&& 255)) 6 (((x2_.toUInt32 >>> ((8 : Int32).toUInt32 &&& Int32.toUInt32 31)).toInt32) &&& 255)) 7 (((x2_.toUInt32 >>> ((0 : Int32).toUInt32 &&& Int32.toUInt32 31)).toInt32) &&& 255)) 8 (((x0_.toUInt32 >>> ((24 : Int32).toUInt32 &&& Int32.toUInt32 31)).toInt32) &&& 255)) 9 (((x0_.toUInt32 >>> ((16 : Int32).toUInt32 &&& Int32.toUInt32 31)).toInt32) &&& 255))))] := hD
  refine lv_iinc (v := 8) (lv' := [(2, .int 8), (0, .ref a0_), (1, .int x0_)]) hx hb dX11_tapeNumber_43 hl (k := 0) rfl (by decide) (by decide) rfl (fun ls hl => ?_)
  refine lv_goto (tgt := 3) hx hb dX11_tapeNumber_46 (by decide) ?_
  refine lv_iload_n hx hb dX11_tapeNumber_3 rfl (lv_at hl 0 rfl) ?_
  refine lv_if_lt (tgt := 49) hx hb dX11_tapeNumber_4 (by decide) (fun k5 => absurd k5 (by decide)) (fun _ => ?_)
  refine lv_aload_n hx hb dX11_tapeNumber_7 rfl (lv_at hl 1 rfl) ?_
  refine va_get (D := (dC, dI)) (ci := 14) (v := .int 10) (C := RX11) (T := TX11) (N := 12) hx hb ht itX11 hown hK hP 0 rfl rfl 1 (by decide) (ht _ tw_212) (fun _ h9 => h9) rfl dX11_tapeNumber_8 ?_
  refine lv_sipush (v := 4000) hx hb dX11_tapeNumber_11 (by decide) ?_
  refine lv_icmp_ge (tgt := 49) hx hb dX11_tapeNumber_14 (by decide) (fun k6 => absurd k6 (by decide)) (fun _ => ?_)
  refine lv_aload_n hx hb dX11_tapeNumber_17 rfl (lv_at hl 1 rfl) ?_
  refine va_get (D := (dC, dI)) (ci := 14) (v := .ref a1_) (C := RX11) (T := TX11) (N := 12) hx hb ht itX11 hown hK hP 0 rfl rfl 0 (by decide) (ht _ tw_85) (fun _ h9 => h9) rfl dX11_tapeNumber_18 ?_
  refine lv_aload_n hx hb dX11_tapeNumber_21 rfl (lv_at hl 1 rfl) ?_
  refine va_get (D := (dC, dI)) (ci := 14) (v := .int 10) (C := RX11) (T := TX11) (N := 12) hx hb ht itX11 hown hK hP 0 rfl rfl 1 (by decide) (ht _ tw_212) (fun _ h9 => h9) rfl dX11_tapeNumber_22 ?_
  refine lv_iload_n hx hb dX11_tapeNumber_25 rfl (lv_at hl 2 rfl) ?_
  refine lv_iload_n hx hb dX11_tapeNumber_26 rfl (lv_at hl 0 rfl) ?_
  refine lv_iushr hx hb dX11_tapeNumber_27 rfl ?_
  refine lv_sipush (v := 255) hx hb dX11_tapeNumber_28 (by decide) ?_
  refine lv_iand hx hb dX11_tapeNumber_31 ?_
  refine va_iast (D := (dC, dI)) hx hb hK hP hD hS 1 0 rfl rfl (vp_in_iff.mpr (by decide)) dX11_tapeNumber_32 (fun H locs hP hD hS => ?_)
  have hP : va_P (dC, dI) vwCl [(a0_, .inr (14, [.ref a1_, .int 10, .ref a2_, .ref a3_, .ref a4_, .ref a5_, .int 0, .int (-1), .ref a6_, .ref a7_, .ref a8_, .ref a9_])), (a1_, .inl (cI, 4000, .inl (upd (upd (upd (upd (upd (upd (upd (upd (upd (upd (upd (fun _ => 0) 0 (((x1_.toUInt32 >>> ((24 : Int32).toUInt32 &&& Int32.toUInt32 31)).toInt32) &&& 255)) 1 (((x1_.toUInt32 >>> ((16 : Int32).toUInt32 &&& Int32.toUInt32 31)).toInt32) &&& 255)) 2 (((x1_.toUInt32 >>> ((8 : Int32).toUInt32 &&& Int32.toUInt32 31)).toInt32) &&& 255)) 3 (((x1_.toUInt32 >>> ((0 : Int32).toUInt32 &&& Int32.toUInt32 31)).toInt32) &&& 255)) 4 (((x2_.toUInt32 >>> ((24 : Int32).toUInt32 &&& Int32.toUInt32 31)).toInt32) &&& 255)) 5 (((x2_.toUInt32 >>> ((16 : Int32).toUInt32 &&& Int32.toUInt32 31)).toInt32) &&& 255)) 6 (((x2_.toUInt32 >>> ((8 : Int32).toUInt32 &&& Int32.toUInt32 31)).toInt32) &&& 255)) 7 (((x2_.toUInt32 >>> ((0 : Int32).toUInt32 &&& Int32.toUInt32 31)).toInt32) &&& 255)) 8 (((x0_.toUInt32 >>> ((24 : Int32).toUInt32 &&& Int32.toUInt32 31)).toInt32) &&& 255)) 9 (((x0_.toUInt32 >>> ((16 : Int32).toUInt32 &&& Int32.toUInt32 31)).toInt32) &&& 255)) 10 (((x0_.toUInt32 >>> ((8 : Int32).toUInt32 &&& Int32.toUInt32 31)).toInt32) &&& 255))))] H := hP
  have hD : va_D A [(a0_, .inr (14, [.ref a1_, .int 10, .ref a2_, .ref a3_, .ref a4_, .ref a5_, .int 0, .int (-1), .ref a6_, .ref a7_, .ref a8_, .ref a9_])), (a1_, .inl (cI, 4000, .inl (upd (upd (upd (upd (upd (upd (upd (upd (upd (upd (upd (fun _ => 0) 0 (((x1_.toUInt32 >>> ((24 : Int32).toUInt32 &&& Int32.toUInt32 31)).toInt32) &&& 255)) 1 (((x1_.toUInt32 >>> ((16 : Int32).toUInt32 &&& Int32.toUInt32 31)).toInt32) &&& 255)) 2 (((x1_.toUInt32 >>> ((8 : Int32).toUInt32 &&& Int32.toUInt32 31)).toInt32) &&& 255)) 3 (((x1_.toUInt32 >>> ((0 : Int32).toUInt32 &&& Int32.toUInt32 31)).toInt32) &&& 255)) 4 (((x2_.toUInt32 >>> ((24 : Int32).toUInt32 &&& Int32.toUInt32 31)).toInt32) &&& 255)) 5 (((x2_.toUInt32 >>> ((16 : Int32).toUInt32 &&& Int32.toUInt32 31)).toInt32) &&& 255)) 6 (((x2_.toUInt32 >>> ((8 : Int32).toUInt32 &&& Int32.toUInt32 31)).toInt32) &&& 255)) 7 (((x2_.toUInt32 >>> ((0 : Int32).toUInt32 &&& Int32.toUInt32 31)).toInt32) &&& 255)) 8 (((x0_.toUInt32 >>> ((24 : Int32).toUInt32 &&& Int32.toUInt32 31)).toInt32) &&& 255)) 9 (((x0_.toUInt32 >>> ((16 : Int32).toUInt32 &&& Int32.toUInt32 31)).toInt32) &&& 255)) 10 (((x0_.toUInt32 >>> ((8 : Int32).toUInt32 &&& Int32.toUInt32 31)).toInt32) &&& 255))))] := hD
  refine lv_aload_n hx hb dX11_tapeNumber_33 rfl (lv_at hl 1 rfl) ?_
  refine lv_dup hx hb dX11_tapeNumber_34 rfl ?_
  refine va_get (D := (dC, dI)) (ci := 14) (v := .int 10) (C := RX11) (T := TX11) (N := 12) hx hb ht itX11 hown hK hP 0 rfl rfl 1 (by decide) (ht _ tw_212) (fun _ h9 => h9) rfl dX11_tapeNumber_35 ?_
  refine lv_iconst (v := 1) hx hb dX11_tapeNumber_38 (by decide) ?_
  refine lv_iadd hx hb dX11_tapeNumber_39 ?_
  refine tp_i (y := 11) (by decide) ?_
  refine va_put (D := (dC, dI)) (ci := 14) (v := .int 11) (ty := .int) (C := RX11) (T := TX11) (N := 12) hx hb ht itX11 tyX11 tyX11_ok nmX11 hown hK hP hD hS 0 rfl rfl 1 (by decide) (ht _ tw_212) (fun _ h9 => h9) rfl (by decide +kernel) rfl rfl (Nat.le_of_ble_eq_true rfl) dX11_tapeNumber_40 (fun H locs hP hD hS => ?_)
  have hP : va_P (dC, dI) vwCl [(a0_, .inr (14, [.ref a1_, .int 11, .ref a2_, .ref a3_, .ref a4_, .ref a5_, .int 0, .int (-1), .ref a6_, .ref a7_, .ref a8_, .ref a9_])), (a1_, .inl (cI, 4000, .inl (upd (upd (upd (upd (upd (upd (upd (upd (upd (upd (upd (fun _ => 0) 0 (((x1_.toUInt32 >>> ((24 : Int32).toUInt32 &&& Int32.toUInt32 31)).toInt32) &&& 255)) 1 (((x1_.toUInt32 >>> ((16 : Int32).toUInt32 &&& Int32.toUInt32 31)).toInt32) &&& 255)) 2 (((x1_.toUInt32 >>> ((8 : Int32).toUInt32 &&& Int32.toUInt32 31)).toInt32) &&& 255)) 3 (((x1_.toUInt32 >>> ((0 : Int32).toUInt32 &&& Int32.toUInt32 31)).toInt32) &&& 255)) 4 (((x2_.toUInt32 >>> ((24 : Int32).toUInt32 &&& Int32.toUInt32 31)).toInt32) &&& 255)) 5 (((x2_.toUInt32 >>> ((16 : Int32).toUInt32 &&& Int32.toUInt32 31)).toInt32) &&& 255)) 6 (((x2_.toUInt32 >>> ((8 : Int32).toUInt32 &&& Int32.toUInt32 31)).toInt32) &&& 255)) 7 (((x2_.toUInt32 >>> ((0 : Int32).toUInt32 &&& Int32.toUInt32 31)).toInt32) &&& 255)) 8 (((x0_.toUInt32 >>> ((24 : Int32).toUInt32 &&& Int32.toUInt32 31)).toInt32) &&& 255)) 9 (((x0_.toUInt32 >>> ((16 : Int32).toUInt32 &&& Int32.toUInt32 31)).toInt32) &&& 255)) 10 (((x0_.toUInt32 >>> ((8 : Int32).toUInt32 &&& Int32.toUInt32 31)).toInt32) &&& 255))))] H := hP
  have hD : va_D A [(a0_, .inr (14, [.ref a1_, .int 11, .ref a2_, .ref a3_, .ref a4_, .ref a5_, .int 0, .int (-1), .ref a6_, .ref a7_, .ref a8_, .ref a9_])), (a1_, .inl (cI, 4000, .inl (upd (upd (upd (upd (upd (upd (upd (upd (upd (upd (upd (fun _ => 0) 0 (((x1_.toUInt32 >>> ((24 : Int32).toUInt32 &&& Int32.toUInt32 31)).toInt32) &&& 255)) 1 (((x1_.toUInt32 >>> ((16 : Int32).toUInt32 &&& Int32.toUInt32 31)).toInt32) &&& 255)) 2 (((x1_.toUInt32 >>> ((8 : Int32).toUInt32 &&& Int32.toUInt32 31)).toInt32) &&& 255)) 3 (((x1_.toUInt32 >>> ((0 : Int32).toUInt32 &&& Int32.toUInt32 31)).toInt32) &&& 255)) 4 (((x2_.toUInt32 >>> ((24 : Int32).toUInt32 &&& Int32.toUInt32 31)).toInt32) &&& 255)) 5 (((x2_.toUInt32 >>> ((16 : Int32).toUInt32 &&& Int32.toUInt32 31)).toInt32) &&& 255)) 6 (((x2_.toUInt32 >>> ((8 : Int32).toUInt32 &&& Int32.toUInt32 31)).toInt32) &&& 255)) 7 (((x2_.toUInt32 >>> ((0 : Int32).toUInt32 &&& Int32.toUInt32 31)).toInt32) &&& 255)) 8 (((x0_.toUInt32 >>> ((24 : Int32).toUInt32 &&& Int32.toUInt32 31)).toInt32) &&& 255)) 9 (((x0_.toUInt32 >>> ((16 : Int32).toUInt32 &&& Int32.toUInt32 31)).toInt32) &&& 255)) 10 (((x0_.toUInt32 >>> ((8 : Int32).toUInt32 &&& Int32.toUInt32 31)).toInt32) &&& 255))))] := hD
  refine lv_iinc (v := 0) (lv' := [(2, .int 0), (0, .ref a0_), (1, .int x0_)]) hx hb dX11_tapeNumber_43 hl (k := 0) rfl (by decide) (by decide) rfl (fun ls hl => ?_)
  refine lv_goto (tgt := 3) hx hb dX11_tapeNumber_46 (by decide) ?_
  refine lv_iload_n hx hb dX11_tapeNumber_3 rfl (lv_at hl 0 rfl) ?_
  refine lv_if_lt (tgt := 49) hx hb dX11_tapeNumber_4 (by decide) (fun k7 => absurd k7 (by decide)) (fun _ => ?_)
  refine lv_aload_n hx hb dX11_tapeNumber_7 rfl (lv_at hl 1 rfl) ?_
  refine va_get (D := (dC, dI)) (ci := 14) (v := .int 11) (C := RX11) (T := TX11) (N := 12) hx hb ht itX11 hown hK hP 0 rfl rfl 1 (by decide) (ht _ tw_212) (fun _ h9 => h9) rfl dX11_tapeNumber_8 ?_
  refine lv_sipush (v := 4000) hx hb dX11_tapeNumber_11 (by decide) ?_
  refine lv_icmp_ge (tgt := 49) hx hb dX11_tapeNumber_14 (by decide) (fun k8 => absurd k8 (by decide)) (fun _ => ?_)
  refine lv_aload_n hx hb dX11_tapeNumber_17 rfl (lv_at hl 1 rfl) ?_
  refine va_get (D := (dC, dI)) (ci := 14) (v := .ref a1_) (C := RX11) (T := TX11) (N := 12) hx hb ht itX11 hown hK hP 0 rfl rfl 0 (by decide) (ht _ tw_85) (fun _ h9 => h9) rfl dX11_tapeNumber_18 ?_
  refine lv_aload_n hx hb dX11_tapeNumber_21 rfl (lv_at hl 1 rfl) ?_
  refine va_get (D := (dC, dI)) (ci := 14) (v := .int 11) (C := RX11) (T := TX11) (N := 12) hx hb ht itX11 hown hK hP 0 rfl rfl 1 (by decide) (ht _ tw_212) (fun _ h9 => h9) rfl dX11_tapeNumber_22 ?_
  refine lv_iload_n hx hb dX11_tapeNumber_25 rfl (lv_at hl 2 rfl) ?_
  refine lv_iload_n hx hb dX11_tapeNumber_26 rfl (lv_at hl 0 rfl) ?_
  refine lv_iushr hx hb dX11_tapeNumber_27 rfl ?_
  refine lv_sipush (v := 255) hx hb dX11_tapeNumber_28 (by decide) ?_
  refine lv_iand hx hb dX11_tapeNumber_31 ?_
  refine va_iast (D := (dC, dI)) hx hb hK hP hD hS 1 0 rfl rfl (vp_in_iff.mpr (by decide)) dX11_tapeNumber_32 (fun H locs hP hD hS => ?_)
  have hP : va_P (dC, dI) vwCl [(a0_, .inr (14, [.ref a1_, .int 11, .ref a2_, .ref a3_, .ref a4_, .ref a5_, .int 0, .int (-1), .ref a6_, .ref a7_, .ref a8_, .ref a9_])), (a1_, .inl (cI, 4000, .inl (upd (upd (upd (upd (upd (upd (upd (upd (upd (upd (upd (upd (fun _ => 0) 0 (((x1_.toUInt32 >>> ((24 : Int32).toUInt32 &&& Int32.toUInt32 31)).toInt32) &&& 255)) 1 (((x1_.toUInt32 >>> ((16 : Int32).toUInt32 &&& Int32.toUInt32 31)).toInt32) &&& 255)) 2 (((x1_.toUInt32 >>> ((8 : Int32).toUInt32 &&& Int32.toUInt32 31)).toInt32) &&& 255)) 3 (((x1_.toUInt32 >>> ((0 : Int32).toUInt32 &&& Int32.toUInt32 31)).toInt32) &&& 255)) 4 (((x2_.toUInt32 >>> ((24 : Int32).toUInt32 &&& Int32.toUInt32 31)).toInt32) &&& 255)) 5 (((x2_.toUInt32 >>> ((16 : Int32).toUInt32 &&& Int32.toUInt32 31)).toInt32) &&& 255)) 6 (((x2_.toUInt32 >>> ((8 : Int32).toUInt32 &&& Int32.toUInt32 31)).toInt32) &&& 255)) 7 (((x2_.toUInt32 >>> ((0 : Int32).toUInt32 &&& Int32.toUInt32 31)).toInt32) &&& 255)) 8 (((x0_.toUInt32 >>> ((24 : Int32).toUInt32 &&& Int32.toUInt32 31)).toInt32) &&& 255)) 9 (((x0_.toUInt32 >>> ((16 : Int32).toUInt32 &&& Int32.toUInt32 31)).toInt32) &&& 255)) 10 (((x0_.toUInt32 >>> ((8 : Int32).toUInt32 &&& Int32.toUInt32 31)).toInt32) &&& 255)) 11 (((x0_.toUInt32 >>> ((0 : Int32).toUInt32 &&& Int32.toUInt32 31)).toInt32) &&& 255))))] H := hP
  have hD : va_D A [(a0_, .inr (14, [.ref a1_, .int 11, .ref a2_, .ref a3_, .ref a4_, .ref a5_, .int 0, .int (-1), .ref a6_, .ref a7_, .ref a8_, .ref a9_])), (a1_, .inl (cI, 4000, .inl (upd (upd (upd (upd (upd (upd (upd (upd (upd (upd (upd (upd (fun _ => 0) 0 (((x1_.toUInt32 >>> ((24 : Int32).toUInt32 &&& Int32.toUInt32 31)).toInt32) &&& 255)) 1 (((x1_.toUInt32 >>> ((16 : Int32).toUInt32 &&& Int32.toUInt32 31)).toInt32) &&& 255)) 2 (((x1_.toUInt32 >>> ((8 : Int32).toUInt32 &&& Int32.toUInt32 31)).toInt32) &&& 255)) 3 (((x1_.toUInt32 >>> ((0 : Int32).toUInt32 &&& Int32.toUInt32 31)).toInt32) &&& 255)) 4 (((x2_.toUInt32 >>> ((24 : Int32).toUInt32 &&& Int32.toUInt32 31)).toInt32) &&& 255)) 5 (((x2_.toUInt32 >>> ((16 : Int32).toUInt32 &&& Int32.toUInt32 31)).toInt32) &&& 255)) 6 (((x2_.toUInt32 >>> ((8 : Int32).toUInt32 &&& Int32.toUInt32 31)).toInt32) &&& 255)) 7 (((x2_.toUInt32 >>> ((0 : Int32).toUInt32 &&& Int32.toUInt32 31)).toInt32) &&& 255)) 8 (((x0_.toUInt32 >>> ((24 : Int32).toUInt32 &&& Int32.toUInt32 31)).toInt32) &&& 255)) 9 (((x0_.toUInt32 >>> ((16 : Int32).toUInt32 &&& Int32.toUInt32 31)).toInt32) &&& 255)) 10 (((x0_.toUInt32 >>> ((8 : Int32).toUInt32 &&& Int32.toUInt32 31)).toInt32) &&& 255)) 11 (((x0_.toUInt32 >>> ((0 : Int32).toUInt32 &&& Int32.toUInt32 31)).toInt32) &&& 255))))] := hD
  refine lv_aload_n hx hb dX11_tapeNumber_33 rfl (lv_at hl 1 rfl) ?_
  refine lv_dup hx hb dX11_tapeNumber_34 rfl ?_
  refine va_get (D := (dC, dI)) (ci := 14) (v := .int 11) (C := RX11) (T := TX11) (N := 12) hx hb ht itX11 hown hK hP 0 rfl rfl 1 (by decide) (ht _ tw_212) (fun _ h9 => h9) rfl dX11_tapeNumber_35 ?_
  refine lv_iconst (v := 1) hx hb dX11_tapeNumber_38 (by decide) ?_
  refine lv_iadd hx hb dX11_tapeNumber_39 ?_
  refine tp_i (y := 12) (by decide) ?_
  refine va_put (D := (dC, dI)) (ci := 14) (v := .int 12) (ty := .int) (C := RX11) (T := TX11) (N := 12) hx hb ht itX11 tyX11 tyX11_ok nmX11 hown hK hP hD hS 0 rfl rfl 1 (by decide) (ht _ tw_212) (fun _ h9 => h9) rfl (by decide +kernel) rfl rfl (Nat.le_of_ble_eq_true rfl) dX11_tapeNumber_40 (fun H locs hP hD hS => ?_)
  have hP : va_P (dC, dI) vwCl [(a0_, .inr (14, [.ref a1_, .int 12, .ref a2_, .ref a3_, .ref a4_, .ref a5_, .int 0, .int (-1), .ref a6_, .ref a7_, .ref a8_, .ref a9_])), (a1_, .inl (cI, 4000, .inl (upd (upd (upd (upd (upd (upd (upd (upd (upd (upd (upd (upd (fun _ => 0) 0 (((x1_.toUInt32 >>> ((24 : Int32).toUInt32 &&& Int32.toUInt32 31)).toInt32) &&& 255)) 1 (((x1_.toUInt32 >>> ((16 : Int32).toUInt32 &&& Int32.toUInt32 31)).toInt32) &&& 255)) 2 (((x1_.toUInt32 >>> ((8 : Int32).toUInt32 &&& Int32.toUInt32 31)).toInt32) &&& 255)) 3 (((x1_.toUInt32 >>> ((0 : Int32).toUInt32 &&& Int32.toUInt32 31)).toInt32) &&& 255)) 4 (((x2_.toUInt32 >>> ((24 : Int32).toUInt32 &&& Int32.toUInt32 31)).toInt32) &&& 255)) 5 (((x2_.toUInt32 >>> ((16 : Int32).toUInt32 &&& Int32.toUInt32 31)).toInt32) &&& 255)) 6 (((x2_.toUInt32 >>> ((8 : Int32).toUInt32 &&& Int32.toUInt32 31)).toInt32) &&& 255)) 7 (((x2_.toUInt32 >>> ((0 : Int32).toUInt32 &&& Int32.toUInt32 31)).toInt32) &&& 255)) 8 (((x0_.toUInt32 >>> ((24 : Int32).toUInt32 &&& Int32.toUInt32 31)).toInt32) &&& 255)) 9 (((x0_.toUInt32 >>> ((16 : Int32).toUInt32 &&& Int32.toUInt32 31)).toInt32) &&& 255)) 10 (((x0_.toUInt32 >>> ((8 : Int32).toUInt32 &&& Int32.toUInt32 31)).toInt32) &&& 255)) 11 (((x0_.toUInt32 >>> ((0 : Int32).toUInt32 &&& Int32.toUInt32 31)).toInt32) &&& 255))))] H := hP
  have hD : va_D A [(a0_, .inr (14, [.ref a1_, .int 12, .ref a2_, .ref a3_, .ref a4_, .ref a5_, .int 0, .int (-1), .ref a6_, .ref a7_, .ref a8_, .ref a9_])), (a1_, .inl (cI, 4000, .inl (upd (upd (upd (upd (upd (upd (upd (upd (upd (upd (upd (upd (fun _ => 0) 0 (((x1_.toUInt32 >>> ((24 : Int32).toUInt32 &&& Int32.toUInt32 31)).toInt32) &&& 255)) 1 (((x1_.toUInt32 >>> ((16 : Int32).toUInt32 &&& Int32.toUInt32 31)).toInt32) &&& 255)) 2 (((x1_.toUInt32 >>> ((8 : Int32).toUInt32 &&& Int32.toUInt32 31)).toInt32) &&& 255)) 3 (((x1_.toUInt32 >>> ((0 : Int32).toUInt32 &&& Int32.toUInt32 31)).toInt32) &&& 255)) 4 (((x2_.toUInt32 >>> ((24 : Int32).toUInt32 &&& Int32.toUInt32 31)).toInt32) &&& 255)) 5 (((x2_.toUInt32 >>> ((16 : Int32).toUInt32 &&& Int32.toUInt32 31)).toInt32) &&& 255)) 6 (((x2_.toUInt32 >>> ((8 : Int32).toUInt32 &&& Int32.toUInt32 31)).toInt32) &&& 255)) 7 (((x2_.toUInt32 >>> ((0 : Int32).toUInt32 &&& Int32.toUInt32 31)).toInt32) &&& 255)) 8 (((x0_.toUInt32 >>> ((24 : Int32).toUInt32 &&& Int32.toUInt32 31)).toInt32) &&& 255)) 9 (((x0_.toUInt32 >>> ((16 : Int32).toUInt32 &&& Int32.toUInt32 31)).toInt32) &&& 255)) 10 (((x0_.toUInt32 >>> ((8 : Int32).toUInt32 &&& Int32.toUInt32 31)).toInt32) &&& 255)) 11 (((x0_.toUInt32 >>> ((0 : Int32).toUInt32 &&& Int32.toUInt32 31)).toInt32) &&& 255))))] := hD
  refine lv_iinc (v := (-8)) (lv' := [(2, .int (-8)), (0, .ref a0_), (1, .int x0_)]) hx hb dX11_tapeNumber_43 hl (k := 0) rfl (by decide) (by decide) rfl (fun ls hl => ?_)
  refine lv_goto (tgt := 3) hx hb dX11_tapeNumber_46 (by decide) ?_
  refine lv_iload_n hx hb dX11_tapeNumber_3 rfl (lv_at hl 0 rfl) ?_
  refine lv_if_lt (tgt := 49) hx hb dX11_tapeNumber_4 (by decide) (fun _ => ?_) (fun k9 => absurd k9 (by decide))
  have hP9 := hP.sub (ws' := [(a0_, .inr (14, [.ref a1_, .int 12, .ref a2_, .ref a3_, .ref a4_, .ref a5_, .int 0, .int (-1), .ref a6_, .ref a7_, .ref a8_, .ref a9_])), (a1_, .inl (cI, 4000, .inl (upd (upd (upd (upd (upd (upd (upd (upd (upd (upd (upd (upd (fun _ => 0) 0 (((x1_.toUInt32 >>> ((24 : Int32).toUInt32 &&& Int32.toUInt32 31)).toInt32) &&& 255)) 1 (((x1_.toUInt32 >>> ((16 : Int32).toUInt32 &&& Int32.toUInt32 31)).toInt32) &&& 255)) 2 (((x1_.toUInt32 >>> ((8 : Int32).toUInt32 &&& Int32.toUInt32 31)).toInt32) &&& 255)) 3 (((x1_.toUInt32 >>> ((0 : Int32).toUInt32 &&& Int32.toUInt32 31)).toInt32) &&& 255)) 4 (((x2_.toUInt32 >>> ((24 : Int32).toUInt32 &&& Int32.toUInt32 31)).toInt32) &&& 255)) 5 (((x2_.toUInt32 >>> ((16 : Int32).toUInt32 &&& Int32.toUInt32 31)).toInt32) &&& 255)) 6 (((x2_.toUInt32 >>> ((8 : Int32).toUInt32 &&& Int32.toUInt32 31)).toInt32) &&& 255)) 7 (((x2_.toUInt32 >>> ((0 : Int32).toUInt32 &&& Int32.toUInt32 31)).toInt32) &&& 255)) 8 (((x0_.toUInt32 >>> ((24 : Int32).toUInt32 &&& Int32.toUInt32 31)).toInt32) &&& 255)) 9 (((x0_.toUInt32 >>> ((16 : Int32).toUInt32 &&& Int32.toUInt32 31)).toInt32) &&& 255)) 10 (((x0_.toUInt32 >>> ((8 : Int32).toUInt32 &&& Int32.toUInt32 31)).toInt32) &&& 255)) 11 (((x0_.toUInt32 >>> ((0 : Int32).toUInt32 &&& Int32.toUInt32 31)).toInt32) &&& 255))))]) [0, 1] rfl
  have hD9 := hD.sub (ws' := [(a0_, .inr (14, [.ref a1_, .int 12, .ref a2_, .ref a3_, .ref a4_, .ref a5_, .int 0, .int (-1), .ref a6_, .ref a7_, .ref a8_, .ref a9_])), (a1_, .inl (cI, 4000, .inl (upd (upd (upd (upd (upd (upd (upd (upd (upd (upd (upd (upd (fun _ => 0) 0 (((x1_.toUInt32 >>> ((24 : Int32).toUInt32 &&& Int32.toUInt32 31)).toInt32) &&& 255)) 1 (((x1_.toUInt32 >>> ((16 : Int32).toUInt32 &&& Int32.toUInt32 31)).toInt32) &&& 255)) 2 (((x1_.toUInt32 >>> ((8 : Int32).toUInt32 &&& Int32.toUInt32 31)).toInt32) &&& 255)) 3 (((x1_.toUInt32 >>> ((0 : Int32).toUInt32 &&& Int32.toUInt32 31)).toInt32) &&& 255)) 4 (((x2_.toUInt32 >>> ((24 : Int32).toUInt32 &&& Int32.toUInt32 31)).toInt32) &&& 255)) 5 (((x2_.toUInt32 >>> ((16 : Int32).toUInt32 &&& Int32.toUInt32 31)).toInt32) &&& 255)) 6 (((x2_.toUInt32 >>> ((8 : Int32).toUInt32 &&& Int32.toUInt32 31)).toInt32) &&& 255)) 7 (((x2_.toUInt32 >>> ((0 : Int32).toUInt32 &&& Int32.toUInt32 31)).toInt32) &&& 255)) 8 (((x0_.toUInt32 >>> ((24 : Int32).toUInt32 &&& Int32.toUInt32 31)).toInt32) &&& 255)) 9 (((x0_.toUInt32 >>> ((16 : Int32).toUInt32 &&& Int32.toUInt32 31)).toInt32) &&& 255)) 10 (((x0_.toUInt32 >>> ((8 : Int32).toUInt32 &&& Int32.toUInt32 31)).toInt32) &&& 255)) 11 (((x0_.toUInt32 >>> ((0 : Int32).toUInt32 &&& Int32.toUInt32 31)).toInt32) &&& 255))))]) [0, 1] (by decide) rfl
  refine W.widen (k := 0) (n := 0) (by omega) (by omega) ?_
  exact W.vret hx hb hr (fun t ht9 hW => ⟨⟨(), rfl, trivial, by rw [ht9]; exact hP9, hD9⟩, hS.F ht9⟩) hS.2.2 dX11_tapeNumber_49
set_option maxHeartbeats 4000000 in
set_option maxRecDepth 100000 in
theorem c_X11_tapeNumber_4 (l : Launch) (dC : Nat → ClassId) (dI : Nat → Nat → Nat) (cI cB cZ cJ cR : ClassId) (tb : Nat → Nat) (sz : Nat) (a0_ : Nat) (x0_ : Int32) (a1_ : Nat) (a2_ : Nat) (a3_ : Nat) (a4_ : Nat) (a5_ : Nat) (a6_ : Nat) (a7_ : Nat) (a8_ : Nat) (a9_ : Nat) (x1_ : Int32) (x2_ : Int32) (x3_ : Int32)  : Met l yX11_tapeNumber (Cond.code yX11_tapeNumber cX11_tapeNumber 3 none :: tw_W) ({ frames := 0, cells := 0, slots := 0, locals := 0 }) (pc_ (dC, dI) (tyS cI cB cZ cJ cR) tb [(a0_, .inr (14, [.ref a1_, .int 12, .ref a2_, .ref a3_, .ref a4_, .ref a5_, .int 0, .int (-1), .ref a6_, .ref a7_, .ref a8_, .ref a9_])), (a1_, .inl (cI, 4000, .inl (upd (upd (upd (upd (upd (upd (upd (upd (upd (upd (upd (upd (fun _ => 0) 0 (((x1_.toUInt32 >>> ((24 : Int32).toUInt32 &&& Int32.toUInt32 31)).toInt32) &&& 255)) 1 (((x1_.toUInt32 >>> ((16 : Int32).toUInt32 &&& Int32.toUInt32 31)).toInt32) &&& 255)) 2 (((x1_.toUInt32 >>> ((8 : Int32).toUInt32 &&& Int32.toUInt32 31)).toInt32) &&& 255)) 3 (((x1_.toUInt32 >>> ((0 : Int32).toUInt32 &&& Int32.toUInt32 31)).toInt32) &&& 255)) 4 (((x2_.toUInt32 >>> ((24 : Int32).toUInt32 &&& Int32.toUInt32 31)).toInt32) &&& 255)) 5 (((x2_.toUInt32 >>> ((16 : Int32).toUInt32 &&& Int32.toUInt32 31)).toInt32) &&& 255)) 6 (((x2_.toUInt32 >>> ((8 : Int32).toUInt32 &&& Int32.toUInt32 31)).toInt32) &&& 255)) 7 (((x2_.toUInt32 >>> ((0 : Int32).toUInt32 &&& Int32.toUInt32 31)).toInt32) &&& 255)) 8 (((x3_.toUInt32 >>> ((24 : Int32).toUInt32 &&& Int32.toUInt32 31)).toInt32) &&& 255)) 9 (((x3_.toUInt32 >>> ((16 : Int32).toUInt32 &&& Int32.toUInt32 31)).toInt32) &&& 255)) 10 (((x3_.toUInt32 >>> ((8 : Int32).toUInt32 &&& Int32.toUInt32 31)).toInt32) &&& 255)) 11 (((x3_.toUInt32 >>> ((0 : Int32).toUInt32 &&& Int32.toUInt32 31)).toInt32) &&& 255))))] sz [.ref a0_, .int x0_]) (qv_ (dC, dI) [(a0_, .inr (14, [.ref a1_, .int 12, .ref a2_, .ref a3_, .ref a4_, .ref a5_, .int 0, .int (-1), .ref a6_, .ref a7_, .ref a8_, .ref a9_])), (a1_, .inl (cI, 4000, .inl (upd (upd (upd (upd (upd (upd (upd (upd (upd (upd (upd (upd (fun _ => 0) 0 (((x1_.toUInt32 >>> ((24 : Int32).toUInt32 &&& Int32.toUInt32 31)).toInt32) &&& 255)) 1 (((x1_.toUInt32 >>> ((16 : Int32).toUInt32 &&& Int32.toUInt32 31)).toInt32) &&& 255)) 2 (((x1_.toUInt32 >>> ((8 : Int32).toUInt32 &&& Int32.toUInt32 31)).toInt32) &&& 255)) 3 (((x1_.toUInt32 >>> ((0 : Int32).toUInt32 &&& Int32.toUInt32 31)).toInt32) &&& 255)) 4 (((x2_.toUInt32 >>> ((24 : Int32).toUInt32 &&& Int32.toUInt32 31)).toInt32) &&& 255)) 5 (((x2_.toUInt32 >>> ((16 : Int32).toUInt32 &&& Int32.toUInt32 31)).toInt32) &&& 255)) 6 (((x2_.toUInt32 >>> ((8 : Int32).toUInt32 &&& Int32.toUInt32 31)).toInt32) &&& 255)) 7 (((x2_.toUInt32 >>> ((0 : Int32).toUInt32 &&& Int32.toUInt32 31)).toInt32) &&& 255)) 8 (((x3_.toUInt32 >>> ((24 : Int32).toUInt32 &&& Int32.toUInt32 31)).toInt32) &&& 255)) 9 (((x3_.toUInt32 >>> ((16 : Int32).toUInt32 &&& Int32.toUInt32 31)).toInt32) &&& 255)) 10 (((x3_.toUInt32 >>> ((8 : Int32).toUInt32 &&& Int32.toUInt32 31)).toInt32) &&& 255)) 11 (((x3_.toUInt32 >>> ((0 : Int32).toUInt32 &&& Int32.toUInt32 31)).toInt32) &&& 255))))] sz (fun (u : Unit) => True) (fun (u : Unit) => [(a0_, .inr (14, [.ref a1_, .int 16, .ref a2_, .ref a3_, .ref a4_, .ref a5_, .int 0, .int (-1), .ref a6_, .ref a7_, .ref a8_, .ref a9_])), (a1_, .inl (cI, 4000, .inl (upd (upd (upd (upd (upd (upd (upd (upd (upd (upd (upd (upd (upd (upd (upd (upd (fun _ => 0) 0 (((x1_.toUInt32 >>> ((24 : Int32).toUInt32 &&& Int32.toUInt32 31)).toInt32) &&& 255)) 1 (((x1_.toUInt32 >>> ((16 : Int32).toUInt32 &&& Int32.toUInt32 31)).toInt32) &&& 255)) 2 (((x1_.toUInt32 >>> ((8 : Int32).toUInt32 &&& Int32.toUInt32 31)).toInt32) &&& 255)) 3 (((x1_.toUInt32 >>> ((0 : Int32).toUInt32 &&& Int32.toUInt32 31)).toInt32) &&& 255)) 4 (((x2_.toUInt32 >>> ((24 : Int32).toUInt32 &&& Int32.toUInt32 31)).toInt32) &&& 255)) 5 (((x2_.toUInt32 >>> ((16 : Int32).toUInt32 &&& Int32.toUInt32 31)).toInt32) &&& 255)) 6 (((x2_.toUInt32 >>> ((8 : Int32).toUInt32 &&& Int32.toUInt32 31)).toInt32) &&& 255)) 7 (((x2_.toUInt32 >>> ((0 : Int32).toUInt32 &&& Int32.toUInt32 31)).toInt32) &&& 255)) 8 (((x3_.toUInt32 >>> ((24 : Int32).toUInt32 &&& Int32.toUInt32 31)).toInt32) &&& 255)) 9 (((x3_.toUInt32 >>> ((16 : Int32).toUInt32 &&& Int32.toUInt32 31)).toInt32) &&& 255)) 10 (((x3_.toUInt32 >>> ((8 : Int32).toUInt32 &&& Int32.toUInt32 31)).toInt32) &&& 255)) 11 (((x3_.toUInt32 >>> ((0 : Int32).toUInt32 &&& Int32.toUInt32 31)).toInt32) &&& 255)) 12 (((x0_.toUInt32 >>> ((24 : Int32).toUInt32 &&& Int32.toUInt32 31)).toInt32) &&& 255)) 13 (((x0_.toUInt32 >>> ((16 : Int32).toUInt32 &&& Int32.toUInt32 31)).toInt32) &&& 255)) 14 (((x0_.toUInt32 >>> ((8 : Int32).toUInt32 &&& Int32.toUInt32 31)).toInt32) &&& 255)) 15 (((x0_.toUInt32 >>> ((0 : Int32).toUInt32 &&& Int32.toUInt32 31)).toInt32) &&& 255))))])) 0 0 (va_A [(a0_, .inr (14, [.ref a1_, .int 12, .ref a2_, .ref a3_, .ref a4_, .ref a5_, .int 0, .int (-1), .ref a6_, .ref a7_, .ref a8_, .ref a9_])), (a1_, .inl (cI, 4000, .inl (upd (upd (upd (upd (upd (upd (upd (upd (upd (upd (upd (upd (fun _ => 0) 0 (((x1_.toUInt32 >>> ((24 : Int32).toUInt32 &&& Int32.toUInt32 31)).toInt32) &&& 255)) 1 (((x1_.toUInt32 >>> ((16 : Int32).toUInt32 &&& Int32.toUInt32 31)).toInt32) &&& 255)) 2 (((x1_.toUInt32 >>> ((8 : Int32).toUInt32 &&& Int32.toUInt32 31)).toInt32) &&& 255)) 3 (((x1_.toUInt32 >>> ((0 : Int32).toUInt32 &&& Int32.toUInt32 31)).toInt32) &&& 255)) 4 (((x2_.toUInt32 >>> ((24 : Int32).toUInt32 &&& Int32.toUInt32 31)).toInt32) &&& 255)) 5 (((x2_.toUInt32 >>> ((16 : Int32).toUInt32 &&& Int32.toUInt32 31)).toInt32) &&& 255)) 6 (((x2_.toUInt32 >>> ((8 : Int32).toUInt32 &&& Int32.toUInt32 31)).toInt32) &&& 255)) 7 (((x2_.toUInt32 >>> ((0 : Int32).toUInt32 &&& Int32.toUInt32 31)).toInt32) &&& 255)) 8 (((x3_.toUInt32 >>> ((24 : Int32).toUInt32 &&& Int32.toUInt32 31)).toInt32) &&& 255)) 9 (((x3_.toUInt32 >>> ((16 : Int32).toUInt32 &&& Int32.toUInt32 31)).toInt32) &&& 255)) 10 (((x3_.toUInt32 >>> ((8 : Int32).toUInt32 &&& Int32.toUInt32 31)).toInt32) &&& 255)) 11 (((x3_.toUInt32 >>> ((0 : Int32).toUInt32 &&& Int32.toUInt32 31)).toInt32) &&& 255))))] sz) := by
  refine Met.ofW (cc := cX11_tapeNumber) (maxL := 3) (ret := none) (by decide) rfl ?_
  intro p e s m args below meth c s₁ B hml hv
  obtain ⟨rfl, hsz, hP, hKK, hD0, hFx⟩ := hv
  have hK := hKK.1
  have hx := B.exec
  have hb := B.bytes
  have hr := B.returns
  have ht : ∀ w ∈ tw_W, w.before _ s = true := fun w h => atoms_spec (ws := Cond.code yX11_tapeNumber cX11_tapeNumber 3 none :: tw_W) B.pre w (List.mem_cons_of_mem _ h)
  have hown : s.vm.findClass RX11 = some m.cls := findClass_of_methodNamed B.named
  have hlocks := B.notSynchronized
  subst hsz
  unfold qv_
  have hD := hD0.self (sz := s.heap.size)
  generalize hAe : va_A [(a0_, .inr (14, [.ref a1_, .int 12, .ref a2_, .ref a3_, .ref a4_, .ref a5_, .int 0, .int (-1), .ref a6_, .ref a7_, .ref a8_, .ref a9_])), (a1_, .inl (cI, 4000, .inl (upd (upd (upd (upd (upd (upd (upd (upd (upd (upd (upd (upd (fun _ => 0) 0 (((x1_.toUInt32 >>> ((24 : Int32).toUInt32 &&& Int32.toUInt32 31)).toInt32) &&& 255)) 1 (((x1_.toUInt32 >>> ((16 : Int32).toUInt32 &&& Int32.toUInt32 31)).toInt32) &&& 255)) 2 (((x1_.toUInt32 >>> ((8 : Int32).toUInt32 &&& Int32.toUInt32 31)).toInt32) &&& 255)) 3 (((x1_.toUInt32 >>> ((0 : Int32).toUInt32 &&& Int32.toUInt32 31)).toInt32) &&& 255)) 4 (((x2_.toUInt32 >>> ((24 : Int32).toUInt32 &&& Int32.toUInt32 31)).toInt32) &&& 255)) 5 (((x2_.toUInt32 >>> ((16 : Int32).toUInt32 &&& Int32.toUInt32 31)).toInt32) &&& 255)) 6 (((x2_.toUInt32 >>> ((8 : Int32).toUInt32 &&& Int32.toUInt32 31)).toInt32) &&& 255)) 7 (((x2_.toUInt32 >>> ((0 : Int32).toUInt32 &&& Int32.toUInt32 31)).toInt32) &&& 255)) 8 (((x3_.toUInt32 >>> ((24 : Int32).toUInt32 &&& Int32.toUInt32 31)).toInt32) &&& 255)) 9 (((x3_.toUInt32 >>> ((16 : Int32).toUInt32 &&& Int32.toUInt32 31)).toInt32) &&& 255)) 10 (((x3_.toUInt32 >>> ((8 : Int32).toUInt32 &&& Int32.toUInt32 31)).toInt32) &&& 255)) 11 (((x3_.toUInt32 >>> ((0 : Int32).toUInt32 &&& Int32.toUInt32 31)).toInt32) &&& 255))))] s.heap.size = A at hD hFx ⊢
  have hA : ∀ q : Nat, s.heap.size ≤ q → A q := fun q h => by rw [← hAe]; exact Or.inr h
  have hS : va_S A s.heap s.heap [] := va_S.rf
  have hP : va_P (dC, dI) vwCl [(a0_, .inr (14, [.ref a1_, .int 12, .ref a2_, .ref a3_, .ref a4_, .ref a5_, .int 0, .int (-1), .ref a6_, .ref a7_, .ref a8_, .ref a9_])), (a1_, .inl (cI, 4000, .inl (upd (upd (upd (upd (upd (upd (upd (upd (upd (upd (upd (upd (fun _ => 0) 0 (((x1_.toUInt32 >>> ((24 : Int32).toUInt32 &&& Int32.toUInt32 31)).toInt32) &&& 255)) 1 (((x1_.toUInt32 >>> ((16 : Int32).toUInt32 &&& Int32.toUInt32 31)).toInt32) &&& 255)) 2 (((x1_.toUInt32 >>> ((8 : Int32).toUInt32 &&& Int32.toUInt32 31)).toInt32) &&& 255)) 3 (((x1_.toUInt32 >>> ((0 : Int32).toUInt32 &&& Int32.toUInt32 31)).toInt32) &&& 255)) 4 (((x2_.toUInt32 >>> ((24 : Int32).toUInt32 &&& Int32.toUInt32 31)).toInt32) &&& 255)) 5 (((x2_.toUInt32 >>> ((16 : Int32).toUInt32 &&& Int32.toUInt32 31)).toInt32) &&& 255)) 6 (((x2_.toUInt32 >>> ((8 : Int32).toUInt32 &&& Int32.toUInt32 31)).toInt32) &&& 255)) 7 (((x2_.toUInt32 >>> ((0 : Int32).toUInt32 &&& Int32.toUInt32 31)).toInt32) &&& 255)) 8 (((x3_.toUInt32 >>> ((24 : Int32).toUInt32 &&& Int32.toUInt32 31)).toInt32) &&& 255)) 9 (((x3_.toUInt32 >>> ((16 : Int32).toUInt32 &&& Int32.toUInt32 31)).toInt32) &&& 255)) 10 (((x3_.toUInt32 >>> ((8 : Int32).toUInt32 &&& Int32.toUInt32 31)).toInt32) &&& 255)) 11 (((x3_.toUInt32 >>> ((0 : Int32).toUInt32 &&& Int32.toUInt32 31)).toInt32) &&& 255))))] s.heap := hP
  have hl := lv_entry ([.ref a0_, .int x0_]) (n := 3) (Nat.le_of_ble_eq_true rfl)
  rw [lg_entry_eq]
  generalize (lg_sl ([.ref a0_, .int x0_]) ++ List.replicate (3 - (lg_sl ([.ref a0_, .int x0_])).length) Slot.unset).toArray = ls at hl ⊢
  have hl : lv_has ls 3 [(0, .ref a0_), (1, .int x0_)] := hl
  refine lv_bipush (v := 24) hx hb dX11_tapeNumber_0 (by decide) ?_
  refine lv_istore_n (lv' := [(2, .int 24), (0, .ref a0_), (1, .int x0_)]) hx hb dX11_tapeNumber_2 rfl hl (by decide) rfl (fun ls hl => ?_)
  refine lv_iload_n hx hb dX11_tapeNumber_3 rfl (lv_at hl 0 rfl) ?_
  refine lv_if_lt (tgt := 49) hx hb dX11_tapeNumber_4 (by decide) (fun k1 => absurd k1 (by decide)) (fun _ => ?_)
  refine lv_aload_n hx hb dX11_tapeNumber_7 rfl (lv_at hl 1 rfl) ?_
  refine va_get (D := (dC, dI)) (ci := 14) (v := .int 12) (C := RX11) (T := TX11) (N := 12) hx hb ht itX11 hown hK hP 0 rfl rfl 1 (by decide) (ht _ tw_212) (fun _ h9 => h9) rfl dX11_tapeNumber_8 ?_
  refine lv_sipush (v := 4000) hx hb dX11_tapeNumber_11 (by decide) ?_
  refine lv_icmp_ge (tgt := 49) hx hb dX11_tapeNumber_14 (by decide) (fun k2 => absurd k2 (by decide)) (fun _ => ?_)
  refine lv_aload_n hx hb dX11_tapeNumber_17 rfl (lv_at hl 1 rfl) ?_
  refine va_get (D := (dC, dI)) (ci := 14) (v := .ref a1_) (C := RX11) (T := TX11) (N := 12) hx hb ht itX11 hown hK hP 0 rfl rfl 0 (by decide) (ht _ tw_85) (fun _ h9 => h9) rfl dX11_tapeNumber_18 ?_
  refine lv_aload_n hx hb dX11_tapeNumber_21 rfl (lv_at hl 1 rfl) ?_
  refine va_get (D := (dC, dI)) (ci := 14) (v := .int 12) (C := RX11) (T := TX11) (N := 12) hx hb ht itX11 hown hK hP 0 rfl rfl 1 (by decide) (ht _ tw_212) (fun _ h9 => h9) rfl dX11_tapeNumber_22 ?_
  refine lv_iload_n hx hb dX11_tapeNumber_25 rfl (lv_at hl 2 rfl) ?_
  refine lv_iload_n hx hb dX11_tapeNumber_26 rfl (lv_at hl 0 rfl) ?_
  refine lv_iushr hx hb dX11_tapeNumber_27 rfl ?_
  refine lv_sipush (v := 255) hx hb dX11_tapeNumber_28 (by decide) ?_
  refine lv_iand hx hb dX11_tapeNumber_31 ?_
  refine va_iast (D := (dC, dI)) hx hb hK hP hD hS 1 0 rfl rfl (vp_in_iff.mpr (by decide)) dX11_tapeNumber_32 (fun H locs hP hD hS => ?_)
  have hP : va_P (dC, dI) vwCl [(a0_, .inr (14, [.ref a1_, .int 12, .ref a2_, .ref a3_, .ref a4_, .ref a5_, .int 0, .int (-1), .ref a6_, .ref a7_, .ref a8_, .ref a9_])), (a1_, .inl (cI, 4000, .inl (upd (upd (upd (upd (upd (upd (upd (upd (upd (upd (upd (upd (upd (fun _ => 0) 0 (((x1_.toUInt32 >>> ((24 : Int32).toUInt32 &&& Int32.toUInt32 31)).toInt32) &&& 255)) 1 (((x1_.toUInt32 >>> ((16 : Int32).toUInt32 &&& Int32.toUInt32 31)).toInt32) &&& 255)) 2 (((x1_.toUInt32 >>> ((8 : Int32).toUInt32 &&& Int32.toUInt32 31)).toInt32) &&& 255)) 3 (((x1_.toUInt32 >>> ((0 : Int32).toUInt32 &&& Int32.toUInt32 31)).toInt32) &&& 255)) 4 (((x2_.toUInt32 >>> ((24 : Int32).toUInt32 &&& Int32.toUInt32 31)).toInt32) &&& 255)) 5 (((x2_.toUInt32 >>> ((16 : Int32).toUInt32 &&& Int32.toUInt32 31)).toInt32) &&& 255)) 6 (((x2_.toUInt32 >>> ((8 : Int32).toUInt32 &&& Int32.toUInt32 31)).toInt32) &&& 255)) 7 (((x2_.toUInt32 >>> ((0 : Int32).toUInt32 &&& Int32.toUInt32 31)).toInt32) &&& 255)) 8 (((x3_.toUInt32 >>> ((24 : Int32).toUInt32 &&& Int32.toUInt32 31)).toInt32) &&& 255)) 9 (((x3_.toUInt32 >>> ((16 : Int32).toUInt32 &&& Int32.toUInt32 31)).toInt32) &&& 255)) 10 (((x3_.toUInt32 >>> ((8 : Int32).toUInt32 &&& Int32.toUInt32 31)).toInt32) &&& 255)) 11 (((x3_.toUInt32 >>> ((0 : Int32).toUInt32 &&& Int32.toUInt32 31)).toInt32) &&& 255)) 12 (((x0_.toUInt32 >>> ((24 : Int32).toUInt32 &&& Int32.toUInt32 31)).toInt32) &&& 255))))] H := hP
  have hD : va_D A [(a0_, .inr (14, [.ref a1_, .int 12, .ref a2_, .ref a3_, .ref a4_, .ref a5_, .int 0, .int (-1), .ref a6_, .ref a7_, .ref a8_, .ref a9_])), (a1_, .inl (cI, 4000, .inl (upd (upd (upd (upd (upd (upd (upd (upd (upd (upd (upd (upd (upd (fun _ => 0) 0 (((x1_.toUInt32 >>> ((24 : Int32).toUInt32 &&& Int32.toUInt32 31)).toInt32) &&& 255)) 1 (((x1_.toUInt32 >>> ((16 : Int32).toUInt32 &&& Int32.toUInt32 31)).toInt32) &&& 255)) 2 (((x1_.toUInt32 >>> ((8 : Int32).toUInt32 &&& Int32.toUInt32 31)).toInt32) &&& 255)) 3 (((x1_.toUInt32 >>> ((0 : Int32).toUInt32 &&& Int32.toUInt32 31)).toInt32) &&& 255)) 4 (((x2_.toUInt32 >>> ((24 : Int32).toUInt32 &&& Int32.toUInt32 31)).toInt32) &&& 255)) 5 (((x2_.toUInt32 >>> ((16 : Int32).toUInt32 &&& Int32.toUInt32 31)).toInt32) &&& 255)) 6 (((x2_.toUInt32 >>> ((8 : Int32).toUInt32 &&& Int32.toUInt32 31)).toInt32) &&& 255)) 7 (((x2_.toUInt32 >>> ((0 : Int32).toUInt32 &&& Int32.toUInt32 31)).toInt32) &&& 255)) 8 (((x3_.toUInt32 >>> ((24 : Int32).toUInt32 &&& Int32.toUInt32 31)).toInt32) &&& 255)) 9 (((x3_.toUInt32 >>> ((16 : Int32).toUInt32 &&& Int32.toUInt32 31)).toInt32) &&& 255)) 10 (((x3_.toUInt32 >>> ((8 : Int32).toUInt32 &&& Int32.toUInt32 31)).toInt32) &&& 255)) 11 (((x3_.toUInt32 >>> ((0 : Int32).toUInt32 &&& Int32.toUInt32 31)).toInt32) &&& 255)) 12 (((x0_.toUInt32 >>> ((24 : Int32).toUInt32 &&& Int32.toUInt32 31)).toInt32) &&& 255))))] := hD
  refine lv_aload_n hx hb dX11_tapeNumber_33 rfl (lv_at hl 1 rfl) ?_
  refine lv_dup hx hb dX11_tapeNumber_34 rfl ?_
  refine va_get (D := (dC, dI)) (ci := 14) (v := .int 12) (C := RX11) (T := TX11) (N := 12) hx hb ht itX11 hown hK hP 0 rfl rfl 1 (by decide) (ht _ tw_212) (fun _ h9 => h9) rfl dX11_tapeNumber_35 ?_
  refine lv_iconst (v := 1) hx hb dX11_tapeNumber_38 (by decide) ?_
  refine lv_iadd hx hb dX11_tapeNumber_39 ?_
  refine tp_i (y := 13) (by decide) ?_
  refine va_put (D := (dC, dI)) (ci := 14) (v := .int 13) (ty := .int) (C := RX11) (T := TX11) (N := 12) hx hb ht itX11 tyX11 tyX11_ok nmX11 hown hK hP hD hS 0 rfl rfl 1 (by decide) (ht _ tw_212) (fun _ h9 => h9) rfl (by decide +kernel) rfl rfl (Nat.le_of_ble_eq_true rfl) dX11_tapeNumber_40 (fun H locs hP hD hS => ?_)
  have hP : va_P (dC, dI) vwCl [(a0_, .inr (14, [.ref a1_, .int 13, .ref a2_, .ref a3_, .ref a4_, .ref a5_, .int 0, .int (-1), .ref a6_, .ref a7_, .ref a8_, .ref a9_])), (a1_, .inl (cI, 4000, .inl (upd (upd (upd (upd (upd (upd (upd (upd (upd (upd (upd (upd (upd (fun _ => 0) 0 (((x1_.toUInt32 >>> ((24 : Int32).toUInt32 &&& Int32.toUInt32 31)).toInt32) &&& 255)) 1 (((x1_.toUInt32 >>> ((16 : Int32).toUInt32 &&& Int32.toUInt32 31)).toInt32) &&& 255)) 2 (((x1_.toUInt32 >>> ((8 : Int32).toUInt32 &&& Int32.toUInt32 31)).toInt32) &&& 255)) 3 (((x1_.toUInt32 >>> ((0 : Int32).toUInt32 &&& Int32.toUInt32 31)).toInt32) &&& 255)) 4 (((x2_.toUInt32 >>> ((24 : Int32).toUInt32 &&& Int32.toUInt32 31)).toInt32) &&& 255)) 5 (((x2_.toUInt32 >>> ((16 : Int32).toUInt32 &&& Int32.toUInt32 31)).toInt32) &&& 255)) 6 (((x2_.toUInt32 >>> ((8 : Int32).toUInt32 &&& Int32.toUInt32 31)).toInt32) &&& 255)) 7 (((x2_.toUInt32 >>> ((0 : Int32).toUInt32 &&& Int32.toUInt32 31)).toInt32) &&& 255)) 8 (((x3_.toUInt32 >>> ((24 : Int32).toUInt32 &&& Int32.toUInt32 31)).toInt32) &&& 255)) 9 (((x3_.toUInt32 >>> ((16 : Int32).toUInt32 &&& Int32.toUInt32 31)).toInt32) &&& 255)) 10 (((x3_.toUInt32 >>> ((8 : Int32).toUInt32 &&& Int32.toUInt32 31)).toInt32) &&& 255)) 11 (((x3_.toUInt32 >>> ((0 : Int32).toUInt32 &&& Int32.toUInt32 31)).toInt32) &&& 255)) 12 (((x0_.toUInt32 >>> ((24 : Int32).toUInt32 &&& Int32.toUInt32 31)).toInt32) &&& 255))))] H := hP
  have hD : va_D A [(a0_, .inr (14, [.ref a1_, .int 13, .ref a2_, .ref a3_, .ref a4_, .ref a5_, .int 0, .int (-1), .ref a6_, .ref a7_, .ref a8_, .ref a9_])), (a1_, .inl (cI, 4000, .inl (upd (upd (upd (upd (upd (upd (upd (upd (upd (upd (upd (upd (upd (fun _ => 0) 0 (((x1_.toUInt32 >>> ((24 : Int32).toUInt32 &&& Int32.toUInt32 31)).toInt32) &&& 255)) 1 (((x1_.toUInt32 >>> ((16 : Int32).toUInt32 &&& Int32.toUInt32 31)).toInt32) &&& 255)) 2 (((x1_.toUInt32 >>> ((8 : Int32).toUInt32 &&& Int32.toUInt32 31)).toInt32) &&& 255)) 3 (((x1_.toUInt32 >>> ((0 : Int32).toUInt32 &&& Int32.toUInt32 31)).toInt32) &&& 255)) 4 (((x2_.toUInt32 >>> ((24 : Int32).toUInt32 &&& Int32.toUInt32 31)).toInt32) &&& 255)) 5 (((x2_.toUInt32 >>> ((16 : Int32).toUInt32 &&& Int32.toUInt32 31)).toInt32) &&& 255)) 6 (((x2_.toUInt32 >>> ((8 : Int32).toUInt32 &&& Int32.toUInt32 31)).toInt32) &&& 255)) 7 (((x2_.toUInt32 >>> ((0 : Int32).toUInt32 &&& Int32.toUInt32 31)).toInt32) &&& 255)) 8 (((x3_.toUInt32 >>> ((24 : Int32).toUInt32 &&& Int32.toUInt32 31)).toInt32) &&& 255)) 9 (((x3_.toUInt32 >>> ((16 : Int32).toUInt32 &&& Int32.toUInt32 31)).toInt32) &&& 255)) 10 (((x3_.toUInt32 >>> ((8 : Int32).toUInt32 &&& Int32.toUInt32 31)).toInt32) &&& 255)) 11 (((x3_.toUInt32 >>> ((0 : Int32).toUInt32 &&& Int32.toUInt32 31)).toInt32) &&& 255)) 12 (((x0_.toUInt32 >>> ((24 : Int32).toUInt32 &&& Int32.toUInt32 31)).toInt32) &&& 255))))] := hD
  refine lv_iinc (v := 16) (lv' := [(2, .int 16), (0, .ref a0_), (1, .int x0_)]) hx hb dX11_tapeNumber_43 hl (k := 0) rfl (by decide) (by decide) rfl (fun ls hl => ?_)
  refine lv_goto (tgt := 3) hx hb dX11_tapeNumber_46 (by decide) ?_
  refine lv_iload_n hx hb dX11_tapeNumber_3 rfl (lv_at hl 0 rfl) ?_
  refine lv_if_lt (tgt := 49) hx hb dX11_tapeNumber_4 (by decide) (fun k3 => absurd k3 (by decide)) (fun _ => ?_)
  refine lv_aload_n hx hb dX11_tapeNumber_7 rfl (lv_at hl 1 rfl) ?_
  refine va_get (D := (dC, dI)) (ci := 14) (v := .int 13) (C := RX11) (T := TX11) (N := 12) hx hb ht itX11 hown hK hP 0 rfl rfl 1 (by decide) (ht _ tw_212) (fun _ h9 => h9) rfl dX11_tapeNumber_8 ?_
  refine lv_sipush (v := 4000) hx hb dX11_tapeNumber_11 (by decide) ?_
  refine lv_icmp_ge (tgt := 49) hx hb dX11_tapeNumber_14 (by decide) (fun k4 => absurd k4 (by decide)) (fun _ => ?_)
  refine lv_aload_n hx hb dX11_tapeNumber_17 rfl (lv_at hl 1 rfl) ?_
  refine va_get (D := (dC, dI)) (ci := 14) (v := .ref a1_) (C := RX11) (T := TX11) (N := 12) hx hb ht itX11 hown hK hP 0 rfl rfl 0 (by decide) (ht _ tw_85) (fun _ h9 => h9) rfl dX11_tapeNumber_18 ?_
  refine lv_aload_n hx hb dX11_tapeNumber_21 rfl (lv_at hl 1 rfl) ?_
  refine va_get (D := (dC, dI)) (ci := 14) (v := .int 13) (C := RX11) (T := TX11) (N := 12) hx hb ht itX11 hown hK hP 0 rfl rfl 1 (by decide) (ht _ tw_212) (fun _ h9 => h9) rfl dX11_tapeNumber_22 ?_
  refine lv_iload_n hx hb dX11_tapeNumber_25 rfl (lv_at hl 2 rfl) ?_
  refine lv_iload_n hx hb dX11_tapeNumber_26 rfl (lv_at hl 0 rfl) ?_
  refine lv_iushr hx hb dX11_tapeNumber_27 rfl ?_
  refine lv_sipush (v := 255) hx hb dX11_tapeNumber_28 (by decide) ?_
  refine lv_iand hx hb dX11_tapeNumber_31 ?_
  refine va_iast (D := (dC, dI)) hx hb hK hP hD hS 1 0 rfl rfl (vp_in_iff.mpr (by decide)) dX11_tapeNumber_32 (fun H locs hP hD hS => ?_)
  have hP : va_P (dC, dI) vwCl [(a0_, .inr (14, [.ref a1_, .int 13, .ref a2_, .ref a3_, .ref a4_, .ref a5_, .int 0, .int (-1), .ref a6_, .ref a7_, .ref a8_, .ref a9_])), (a1_, .inl (cI, 4000, .inl (upd (upd (upd (upd (upd (upd (upd (upd (upd (upd (upd (upd (upd (upd (fun _ => 0) 0 (((x1_.toUInt32 >>> ((24 : Int32).toUInt32 &&& Int32.toUInt32 31)).toInt32) &&& 255)) 1 (((x1_.toUInt32 >>> ((16 : Int32).toUInt32 &&& Int32.toUInt32 31)).toInt32) &&& 255)) 2 (((x1_.toUInt32 >>> ((8 : Int32).toUInt32 &&& Int32.toUInt32 31)).toInt32) &&& 255)) 3 (((x1_.toUInt32 >>> ((0 : Int32).toUInt32 &&& Int32.toUInt32 31)).toInt32) &&& 255)) 4 (((x2_.toUInt32 >>> ((24 : Int32).toUInt32 &&& Int32.toUInt32 31)).toInt32) &&& 255)) 5 (((x2_.toUInt32 >>> ((16 : Int32).toUInt32 &&& Int32.toUInt32 31)).toInt32) &&& 255)) 6 (((x2_.toUInt32 >>> ((8 : Int32).toUInt32 &&& Int32.toUInt32 31)).toInt32) &&& 255)) 7 (((x2_.toUInt32 >>> ((0 : Int32).toUInt32 &&& Int32.toUInt32 31)).toInt32) &&& 255)) 8 (((x3_.toUInt32 >>> ((24 : Int32).toUInt32 &&& Int32.toUInt32 31)).toInt32) &&& 255)) 9 (((x3_.toUInt32 >>> ((16 : Int32).toUInt32 &&& Int32.toUInt32 31)).toInt32) &&& 255)) 10 (((x3_.toUInt32 >>> ((8 : Int32).toUInt32 &&& Int32.toUInt32 31)).toInt32) &&& 255)) 11 (((x3_.toUInt32 >>> ((0 : Int32).toUInt32 &&& Int32.toUInt32 31)).toInt32) &&& 255)) 12 (((x0_.toUInt32 >>> ((24 : Int32).toUInt32 &&& Int32.toUInt32 31)).toInt32) &&& 255)) 13 (((x0_.toUInt32 >>> ((16 : Int32).toUInt32 &&& Int32.toUInt32 31)).toInt32) &&& 255))))] H := hP
  have hD : va_D A [(a0_, .inr (14, [.ref a1_, .int 13, .ref a2_, .ref a3_, .ref a4_, .ref a5_, .int 0, .int (-1), .ref a6_, .ref a7_, .ref a8_, .ref a9_])), (a1_, .inl (cI, 4000, .inl (upd (upd (upd (upd (upd (upd (upd (upd (upd (upd (upd (upd (upd (upd (fun _ => 0) 0 (((x1_.toUInt32 >>> ((24 : Int32).toUInt32 &&& Int32.toUInt32 31)).toInt32) &&& 255)) 1 (((x1_.toUInt32 >>> ((16 : Int32).toUInt32 &&& Int32.toUInt32 31)).toInt32) &&& 255)) 2 (((x1_.toUInt32 >>> ((8 : Int32).toUInt32 &&& Int32.toUInt32 31)).toInt32) &&& 255)) 3 (((x1_.toUInt32 >>> ((0 : Int32).toUInt32 &&& Int32.toUInt32 31)).toInt32) &&& 255)) 4 (((x2_.toUInt32 >>> ((24 : Int32).toUInt32 &&& Int32.toUInt32 31)).toInt32) &&& 255)) 5 (((x2_.toUInt32 >>> ((16 : Int32).toUInt32 &&& Int32.toUInt32 31)).toInt32) &&& 255)) 6 (((x2_.toUInt32 >>> ((8 : Int32).toUInt32 &&& Int32.toUInt32 31)).toInt32) &&& 255)) 7 (((x2_.toUInt32 >>> ((0 : Int32).toUInt32 &&& Int32.toUInt32 31)).toInt32) &&& 255)) 8 (((x3_.toUInt32 >>> ((24 : Int32).toUInt32 &&& Int32.toUInt32 31)).toInt32) &&& 255)) 9 (((x3_.toUInt32 >>> ((16 : Int32).toUInt32 &&& Int32.toUInt32 31)).toInt32) &&& 255)) 10 (((x3_.toUInt32 >>> ((8 : Int32).toUInt32 &&& Int32.toUInt32 31)).toInt32) &&& 255)) 11 (((x3_.toUInt32 >>> ((0 : Int32).toUInt32 &&& Int32.toUInt32 31)).toInt32) &&& 255)) 12 (((x0_.toUInt32 >>> ((24 : Int32).toUInt32 &&& Int32.toUInt32 31)).toInt32) &&& 255)) 13 (((x0_.toUInt32 >>> ((16 : Int32).toUInt32 &&& Int32.toUInt32 31)).toInt32) &&& 255))))] := hD
  refine lv_aload_n hx hb dX11_tapeNumber_33 rfl (lv_at hl 1 rfl) ?_
  refine lv_dup hx hb dX11_tapeNumber_34 rfl ?_
  refine va_get (D := (dC, dI)) (ci := 14) (v := .int 13) (C := RX11) (T := TX11) (N := 12) hx hb ht itX11 hown hK hP 0 rfl rfl 1 (by decide) (ht _ tw_212) (fun _ h9 => h9) rfl dX11_tapeNumber_35 ?_
  refine lv_iconst (v := 1) hx hb dX11_tapeNumber_38 (by decide) ?_
  refine lv_iadd hx hb dX11_tapeNumber_39 ?_
  refine tp_i (y := 14) (by decide) ?_
  refine va_put (D := (dC, dI)) (ci := 14) (v := .int 14) (ty := .int) (C := RX11) (T := TX11) (N := 12) hx hb ht itX11 tyX11 tyX11_ok nmX11 hown hK hP hD hS 0 rfl rfl 1 (by decide) (ht _ tw_212) (fun _ h9 => h9) rfl (by decide +kernel) rfl rfl (Nat.le_of_ble_eq_true rfl) dX11_tapeNumber_40 (fun H locs hP hD hS => ?_)
  have hP : va_P (dC, dI) vwCl [(a0_, .inr (14, [.ref a1_, .int 14, .ref a2_, .ref a3_, .ref a4_, .ref a5_, .int 0, .int (-1), .ref a6_, .ref a7_, .ref a8_, .ref a9_])), (a1_, .inl (cI, 4000, .inl (upd (upd (upd (upd (upd (upd (upd (upd (upd (upd (upd (upd (upd (upd (fun _ => 0) 0 (((x1_.toUInt32 >>> ((24 : Int32).toUInt32 &&& Int32.toUInt32 31)).toInt32) &&& 255)) 1 (((x1_.toUInt32 >>> ((16 : Int32).toUInt32 &&& Int32.toUInt32 31)).toInt32) &&& 255)) 2 (((x1_.toUInt32 >>> ((8 : Int32).toUInt32 &&& Int32.toUInt32 31)).toInt32) &&& 255)) 3 (((x1_.toUInt32 >>> ((0 : Int32).toUInt32 &&& Int32.toUInt32 31)).toInt32) &&& 255)) 4 (((x2_.toUInt32 >>> ((24 : Int32).toUInt32 &&& Int32.toUInt32 31)).toInt32) &&& 255)) 5 (((x2_.toUInt32 >>> ((16 : Int32).toUInt32 &&& Int32.toUInt32 31)).toInt32) &&& 255)) 6 (((x2_.toUInt32 >>> ((8 : Int32).toUInt32 &&& Int32.toUInt32 31)).toInt32) &&& 255)) 7 (((x2_.toUInt32 >>> ((0 : Int32).toUInt32 &&& Int32.toUInt32 31)).toInt32) &&& 255)) 8 (((x3_.toUInt32 >>> ((24 : Int32).toUInt32 &&& Int32.toUInt32 31)).toInt32) &&& 255)) 9 (((x3_.toUInt32 >>> ((16 : Int32).toUInt32 &&& Int32.toUInt32 31)).toInt32) &&& 255)) 10 (((x3_.toUInt32 >>> ((8 : Int32).toUInt32 &&& Int32.toUInt32 31)).toInt32) &&& 255)) 11 (((x3_.toUInt32 >>> ((0 : Int32).toUInt32 &&& Int32.toUInt32 31)).toInt32) &&& 255)) 12 (((x0_.toUInt32 >>> ((24 : Int32).toUInt32 &&& Int32.toUInt32 31)).toInt32) &&& 255)) 13 (((x0_.toUInt32 >>> ((16 : Int32).toUInt32 &&& Int32.toUInt32 31)).toInt32) &&& 255))))] H := hP
  have hD : va_D A [(a0_, .inr (14, [.ref a1_, .int 14, .ref a2_, .ref a3_, .ref a4_, .ref a5_, .int 0, .int (-1), .ref a6_, .ref a7_, .ref a8_, .ref a9_])), (a1_, .inl (cI, 4000, .inl (upd (upd (upd (upd (upd (upd (upd (upd (upd (upd (upd (upd (upd (upd (fun _ => 0) 0 (((x1_.toUInt32 >>> ((24 : Int32).toUInt32 &&& Int32.toUInt32 31)).toInt32) &&& 255)) 1 (((x1_.toUInt32 >>> ((16 : Int32).toUInt32 &&& Int32.toUInt32 31)).toInt32) &&& 255)) 2 (((x1_.toUInt32 >>> ((8 : Int32).toUInt32 &&& Int32.toUInt32 31)).toInt32) &&& 255)) 3 (((x1_.toUInt32 >>> ((0 : Int32).toUInt32 &&& Int32.toUInt32 31)).toInt32) &&& 255)) 4 (((x2_.toUInt32 >>> ((24 : Int32).toUInt32 &&& Int32.toUInt32 31)).toInt32) &&& 255)) 5 (((x2_.toUInt32 >>> ((16 : Int32).toUInt32 &&& Int32.toUInt32 31)).toInt32) &&& 255)) 6 (((x2_.toUInt32 >>> ((8 : Int32).toUInt32 &&& Int32.toUInt32 31)).toInt32) &&& 255)) 7 (((x2_.toUInt32 >>> ((0 : Int32).toUInt32 &&& Int32.toUInt32 31)).toInt32) &&& 255)) 8 (((x3_.toUInt32 >>> ((24 : Int32).toUInt32 &&& Int32.toUInt32 31)).toInt32) &&& 255)) 9 (((x3_.toUInt32 >>> ((16 : Int32).toUInt32 &&& Int32.toUInt32 31)).toInt32) &&& 255)) 10 (((x3_.toUInt32 >>> ((8 : Int32).toUInt32 &&& Int32.toUInt32 31)).toInt32) &&& 255)) 11 (((x3_.toUInt32 >>> ((0 : Int32).toUInt32 &&& Int32.toUInt32 31)).toInt32) &&& 255)) 12 (((x0_.toUInt32 >>> ((24 : Int32).toUInt32 &&& Int32.toUInt32 31)).toInt32) &&& 255)) 13 (((x0_.toUInt32 >>> ((16 : Int32).toUInt32 &&& Int32.toUInt32 31)).toInt32) &&& 255))))] := hD
  refine lv_iinc (v := 8) (lv' := [(2, .int 8), (0, .ref a0_), (1, .int x0_)]) hx hb dX11_tapeNumber_43 hl (k := 0) rfl (by decide) (by decide) rfl (fun ls hl => ?_)
  refine lv_goto (tgt := 3) hx hb dX11_tapeNumber_46 (by decide) ?_
  refine lv_iload_n hx hb dX11_tapeNumber_3 rfl (lv_at hl 0 rfl) ?_
  refine lv_if_lt (tgt := 49) hx hb dX11_tapeNumber_4 (by decide) (fun k5 => absurd k5 (by decide)) (fun _ => ?_)
  refine lv_aload_n hx hb dX11_tapeNumber_7 rfl (lv_at hl 1 rfl) ?_
  refine va_get (D := (dC, dI)) (ci := 14) (v := .int 14) (C := RX11) (T := TX11) (N := 12) hx hb ht itX11 hown hK hP 0 rfl rfl 1 (by decide) (ht _ tw_212) (fun _ h9 => h9) rfl dX11_tapeNumber_8 ?_
  refine lv_sipush (v := 4000) hx hb dX11_tapeNumber_11 (by decide) ?_
  refine lv_icmp_ge (tgt := 49) hx hb dX11_tapeNumber_14 (by decide) (fun k6 => absurd k6 (by decide)) (fun _ => ?_)
  refine lv_aload_n hx hb dX11_tapeNumber_17 rfl (lv_at hl 1 rfl) ?_
  refine va_get (D := (dC, dI)) (ci := 14) (v := .ref a1_) (C := RX11) (T := TX11) (N := 12) hx hb ht itX11 hown hK hP 0 rfl rfl 0 (by decide) (ht _ tw_85) (fun _ h9 => h9) rfl dX11_tapeNumber_18 ?_
  refine lv_aload_n hx hb dX11_tapeNumber_21 rfl (lv_at hl 1 rfl) ?_
  refine va_get (D := (dC, dI)) (ci := 14) (v := .int 14) (C := RX11) (T := TX11) (N := 12) hx hb ht itX11 hown hK hP 0 rfl rfl 1 (by decide) (ht _ tw_212) (fun _ h9 => h9) rfl dX11_tapeNumber_22 ?_
  refine lv_iload_n hx hb dX11_tapeNumber_25 rfl (lv_at hl 2 rfl) ?_
  refine lv_iload_n hx hb dX11_tapeNumber_26 rfl (lv_at hl 0 rfl) ?_
  refine lv_iushr hx hb dX11_tapeNumber_27 rfl ?_
  refine lv_sipush (v := 255) hx hb dX11_tapeNumber_28 (by decide) ?_
  refine lv_iand hx hb dX11_tapeNumber_31 ?_
  refine va_iast (D := (dC, dI)) hx hb hK hP hD hS 1 0 rfl rfl (vp_in_iff.mpr (by decide)) dX11_tapeNumber_32 (fun H locs hP hD hS => ?_)
  have hP : va_P (dC, dI) vwCl [(a0_, .inr (14, [.ref a1_, .int 14, .ref a2_, .ref a3_, .ref a4_, .ref a5_, .int 0, .int (-1), .ref a6_, .ref a7_, .ref a8_, .ref a9_])), (a1_, .inl (cI, 4000, .inl (upd (upd (upd (upd (upd (upd (upd (upd (upd (upd (upd (upd (upd (upd (upd (fun _ => 0) 0 (((x1_.toUInt32 >>> ((24 : Int32).toUInt32 &&& Int32.toUInt32 31)).toInt32) &&& 255)) 1 (((x1_.toUInt32 >>> ((16 : Int32).toUInt32 &&& Int32.toUInt32 31)).toInt32) &&& 255)) 2 (((x1_.toUInt32 >>> ((8 : Int32).toUInt32 &&& Int32.toUInt32 31)).toInt32) &&& 255)) 3 (((x1_.toUInt32 >>> ((0 : Int32).toUInt32 &&& Int32.toUInt32 31)).toInt32) &&& 255)) 4 (((x2_.toUInt32 >>> ((24 : Int32).toUInt32 &&& Int32.toUInt32 31)).toInt32) &&& 255)) 5 (((x2_.toUInt32 >>> ((16 : Int32).toUInt32 &&& Int32.toUInt32 31)).toInt32) &&& 255)) 6 (((x2_.toUInt32 >>> ((8 : Int32).toUInt32 &&& Int32.toUInt32 31)).toInt32) &&& 255)) 7 (((x2_.toUInt32 >>> ((0 : Int32).toUInt32 &&& Int32.toUInt32 31)).toInt32) &&& 255)) 8 (((x3_.toUInt32 >>> ((24 : Int32).toUInt32 &&& Int32.toUInt32 31)).toInt32) &&& 255)) 9 (((x3_.toUInt32 >>> ((16 : Int32).toUInt32 &&& Int32.toUInt32 31)).toInt32) &&& 255)) 10 (((x3_.toUInt32 >>> ((8 : Int32).toUInt32 &&& Int32.toUInt32 31)).toInt32) &&& 255)) 11 (((x3_.toUInt32 >>> ((0 : Int32).toUInt32 &&& Int32.toUInt32 31)).toInt32) &&& 255)) 12 (((x0_.toUInt32 >>> ((24 : Int32).toUInt32 &&& Int32.toUInt32 31)).toInt32) &&& 255)) 13 (((x0_.toUInt32 >>> ((16 : Int32).toUInt32 &&& Int32.toUInt32 31)).toInt32) &&& 255)) 14 (((x0_.toUInt32 >>> ((8 : Int32).toUInt32 &&& Int32.toUInt32 31)).toInt32) &&& 255))))] H := hP
  have hD : va_D A [(a0_, .inr (14, [.ref a1_, .int 14, .ref a2_, .ref a3_, .ref a4_, .ref a5_, .int 0, .int (-1), .ref a6_, .ref a7_, .ref a8_, .ref a9_])), (a1_, .inl (cI, 4000, .inl (upd (upd (upd (upd (upd (upd (upd (upd (upd (upd (upd (upd (upd (upd (upd (fun _ => 0) 0 (((x1_.toUInt32 >>> ((24 : Int32).toUInt32 &&& Int32.toUInt32 31)).toInt32) &&& 255)) 1 (((x1_.toUInt32 >>> ((16 : Int32).toUInt32 &&& Int32.toUInt32 31)).toInt32) &&& 255)) 2 (((x1_.toUInt32 >>> ((8 : Int32).toUInt32 &&& Int32.toUInt32 31)).toInt32) &&& 255)) 3 (((x1_.toUInt32 >>> ((0 : Int32).toUInt32 &&& Int32.toUInt32 31)).toInt32) &&& 255)) 4 (((x2_.toUInt32 >>> ((24 : Int32).toUInt32 &&& Int32.toUInt32 31)).toInt32) &&& 255)) 5 (((x2_.toUInt32 >>> ((16 : Int32).toUInt32 &&& Int32.toUInt32 31)).toInt32) &&& 255)) 6 (((x2_.toUInt32 >>> ((8 : Int32).toUInt32 &&& Int32.toUInt32 31)).toInt32) &&& 255)) 7 (((x2_.toUInt32 >>> ((0 : Int32).toUInt32 &&& Int32.toUInt32 31)).toInt32) &&& 255)) 8 (((x3_.toUInt32 >>> ((24 : Int32).toUInt32 &&& Int32.toUInt32 31)).toInt32) &&& 255)) 9 (((x3_.toUInt32 >>> ((16 : Int32).toUInt32 &&& Int32.toUInt32 31)).toInt32) &&& 255)) 10 (((x3_.toUInt32 >>> ((8 : Int32).toUInt32 &&& Int32.toUInt32 31)).toInt32) &&& 255)) 11 (((x3_.toUInt32 >>> ((0 : Int32).toUInt32 &&& Int32.toUInt32 31)).toInt32) &&& 255)) 12 (((x0_.toUInt32 >>> ((24 : Int32).toUInt32 &&& Int32.toUInt32 31)).toInt32) &&& 255)) 13 (((x0_.toUInt32 >>> ((16 : Int32).toUInt32 &&& Int32.toUInt32 31)).toInt32) &&& 255)) 14 (((x0_.toUInt32 >>> ((8 : Int32).toUInt32 &&& Int32.toUInt32 31)).toInt32) &&& 255))))] := hD
  refine lv_aload_n hx hb dX11_tapeNumber_33 rfl (lv_at hl 1 rfl) ?_
  refine lv_dup hx hb dX11_tapeNumber_34 rfl ?_
  refine va_get (D := (dC, dI)) (ci := 14) (v := .int 14) (C := RX11) (T := TX11) (N := 12) hx hb ht itX11 hown hK hP 0 rfl rfl 1 (by decide) (ht _ tw_212) (fun _ h9 => h9) rfl dX11_tapeNumber_35 ?_
  refine lv_iconst (v := 1) hx hb dX11_tapeNumber_38 (by decide) ?_
  refine lv_iadd hx hb dX11_tapeNumber_39 ?_
  refine tp_i (y := 15) (by decide) ?_
  refine va_put (D := (dC, dI)) (ci := 14) (v := .int 15) (ty := .int) (C := RX11) (T := TX11) (N := 12) hx hb ht itX11 tyX11 tyX11_ok nmX11 hown hK hP hD hS 0 rfl rfl 1 (by decide) (ht _ tw_212) (fun _ h9 => h9) rfl (by decide +kernel) rfl rfl (Nat.le_of_ble_eq_true rfl) dX11_tapeNumber_40 (fun H locs hP hD hS => ?_)
  have hP : va_P (dC, dI) vwCl [(a0_, .inr (14, [.ref a1_, .int 15, .ref a2_, .ref a3_, .ref a4_, .ref a5_, .int 0, .int (-1), .ref a6_, .ref a7_, .ref a8_, .ref a9_])), (a1_, .inl (cI, 4000, .inl (upd (upd (upd (upd (upd (upd (upd (upd (upd (upd (upd (upd (upd (upd (upd (fun _ => 0) 0 (((x1_.toUInt32 >>> ((24 : Int32).toUInt32 &&& Int32.toUInt32 31)).toInt32) &&& 255)) 1 (((x1_.toUInt32 >>> ((16 : Int32).toUInt32 &&& Int32.toUInt32 31)).toInt32) &&& 255)) 2 (((x1_.toUInt32 >>> ((8 : Int32).toUInt32 &&& Int32.toUInt32 31)).toInt32) &&& 255)) 3 (((x1_.toUInt32 >>> ((0 : Int32).toUInt32 &&& Int32.toUInt32 31)).toInt32) &&& 255)) 4 (((x2_.toUInt32 >>> ((24 : Int32).toUInt32 &&& Int32.toUInt32 31)).toInt32) &&& 255)) 5 (((x2_.toUInt32 >>> ((16 : Int32).toUInt32 &&& Int32.toUInt32 31)).toInt32) &&& 255)) 6 (((x2_.toUInt32 >>> ((8 : Int32).toUInt32 &&& Int32.toUInt32 31)).toInt32) &&& 255)) 7 (((x2_.toUInt32 >>> ((0 : Int32).toUInt32 &&& Int32.toUInt32 31)).toInt32) &&& 255)) 8 (((x3_.toUInt32 >>> ((24 : Int32).toUInt32 &&& Int32.toUInt32 31)).toInt32) &&& 255)) 9 (((x3_.toUInt32 >>> ((16 : Int32).toUInt32 &&& Int32.toUInt32 31)).toInt32) &&& 255)) 10 (((x3_.toUInt32 >>> ((8 : Int32).toUInt32 &&& Int32.toUInt32 31)).toInt32) &&& 255)) 11 (((x3_.toUInt32 >>> ((0 : Int32).toUInt32 &&& Int32.toUInt32 31)).toInt32) &&& 255)) 12 (((x0_.toUInt32 >>> ((24 : Int32).toUInt32 &&& Int32.toUInt32 31)).toInt32) &&& 255)) 13 (((x0_.toUInt32 >>> ((16 : Int32).toUInt32 &&& Int32.toUInt32 31)).toInt32) &&& 255)) 14 (((x0_.toUInt32 >>> ((8 : Int32).toUInt32 &&& Int32.toUInt32 31)).toInt32) &&& 255))))] H := hP
  have hD : va_D A [(a0_, .inr (14, [.ref a1_, .int 15, .ref a2_, .ref a3_, .ref a4_, .ref a5_, .int 0, .int (-1), .ref a6_, .ref a7_, .ref a8_, .ref a9_])), (a1_, .inl (cI, 4000, .inl (upd (upd (upd (upd (upd (upd (upd (upd (upd (upd (upd (upd (upd (upd (upd (fun _ => 0) 0 (((x1_.toUInt32 >>> ((24 : Int32).toUInt32 &&& Int32.toUInt32 31)).toInt32) &&& 255)) 1 (((x1_.toUInt32 >>> ((16 : Int32).toUInt32 &&& Int32.toUInt32 31)).toInt32) &&& 255)) 2 (((x1_.toUInt32 >>> ((8 : Int32).toUInt32 &&& Int32.toUInt32 31)).toInt32) &&& 255)) 3 (((x1_.toUInt32 >>> ((0 : Int32).toUInt32 &&& Int32.toUInt32 31)).toInt32) &&& 255)) 4 (((x2_.toUInt32 >>> ((24 : Int32).toUInt32 &&& Int32.toUInt32 31)).toInt32) &&& 255)) 5 (((x2_.toUInt32 >>> ((16 : Int32).toUInt32 &&& Int32.toUInt32 31)).toInt32) &&& 255)) 6 (((x2_.toUInt32 >>> ((8 : Int32).toUInt32 &&& Int32.toUInt32 31)).toInt32) &&& 255)) 7 (((x2_.toUInt32 >>> ((0 : Int32).toUInt32 &&& Int32.toUInt32 31)).toInt32) &&& 255)) 8 (((x3_.toUInt32 >>> ((24 : Int32).toUInt32 &&& Int32.toUInt32 31)).toInt32) &&& 255)) 9 (((x3_.toUInt32 >>> ((16 : Int32).toUInt32 &&& Int32.toUInt32 31)).toInt32) &&& 255)) 10 (((x3_.toUInt32 >>> ((8 : Int32).toUInt32 &&& Int32.toUInt32 31)).toInt32) &&& 255)) 11 (((x3_.toUInt32 >>> ((0 : Int32).toUInt32 &&& Int32.toUInt32 31)).toInt32) &&& 255)) 12 (((x0_.toUInt32 >>> ((24 : Int32).toUInt32 &&& Int32.toUInt32 31)).toInt32) &&& 255)) 13 (((x0_.toUInt32 >>> ((16 : Int32).toUInt32 &&& Int32.toUInt32 31)).toInt32) &&& 255)) 14 (((x0_.toUInt32 >>> ((8 : Int32).toUInt32 &&& Int32.toUInt32 31)).toInt32) &&& 255))))] := hD
  refine lv_iinc (v := 0) (lv' := [(2, .int 0), (0, .ref a0_), (1, .int x0_)]) hx hb dX11_tapeNumber_43 hl (k := 0) rfl (by decide) (by decide) rfl (fun ls hl => ?_)
  refine lv_goto (tgt := 3) hx hb dX11_tapeNumber_46 (by decide) ?_
  refine lv_iload_n hx hb dX11_tapeNumber_3 rfl (lv_at hl 0 rfl) ?_
  refine lv_if_lt (tgt := 49) hx hb dX11_tapeNumber_4 (by decide) (fun k7 => absurd k7 (by decide)) (fun _ => ?_)
  refine lv_aload_n hx hb dX11_tapeNumber_7 rfl (lv_at hl 1 rfl) ?_
  refine va_get (D := (dC, dI)) (ci := 14) (v := .int 15) (C := RX11) (T := TX11) (N := 12) hx hb ht itX11 hown hK hP 0 rfl rfl 1 (by decide) (ht _ tw_212) (fun _ h9 => h9) rfl dX11_tapeNumber_8 ?_
  refine lv_sipush (v := 4000) hx hb dX11_tapeNumber_11 (by decide) ?_
  refine lv_icmp_ge (tgt := 49) hx hb dX11_tapeNumber_14 (by decide) (fun k8 => absurd k8 (by decide)) (fun _ => ?_)
  refine lv_aload_n hx hb dX11_tapeNumber_17 rfl (lv_at hl 1 rfl) ?_
  refine va_get (D := (dC, dI)) (ci := 14) (v := .ref a1_) (C := RX11) (T := TX11) (N := 12) hx hb ht itX11 hown hK hP 0 rfl rfl 0 (by decide) (ht _ tw_85) (fun _ h9 => h9) rfl dX11_tapeNumber_18 ?_
  refine lv_aload_n hx hb dX11_tapeNumber_21 rfl (lv_at hl 1 rfl) ?_
  refine va_get (D := (dC, dI)) (ci := 14) (v := .int 15) (C := RX11) (T := TX11) (N := 12) hx hb ht itX11 hown hK hP 0 rfl rfl 1 (by decide) (ht _ tw_212) (fun _ h9 => h9) rfl dX11_tapeNumber_22 ?_
  refine lv_iload_n hx hb dX11_tapeNumber_25 rfl (lv_at hl 2 rfl) ?_
  refine lv_iload_n hx hb dX11_tapeNumber_26 rfl (lv_at hl 0 rfl) ?_
  refine lv_iushr hx hb dX11_tapeNumber_27 rfl ?_
  refine lv_sipush (v := 255) hx hb dX11_tapeNumber_28 (by decide) ?_
  refine lv_iand hx hb dX11_tapeNumber_31 ?_
  refine va_iast (D := (dC, dI)) hx hb hK hP hD hS 1 0 rfl rfl (vp_in_iff.mpr (by decide)) dX11_tapeNumber_32 (fun H locs hP hD hS => ?_)
  have hP : va_P (dC, dI) vwCl [(a0_, .inr (14, [.ref a1_, .int 15, .ref a2_, .ref a3_, .ref a4_, .ref a5_, .int 0, .int (-1), .ref a6_, .ref a7_, .ref a8_, .ref a9_])), (a1_, .inl (cI, 4000, .inl (upd (upd (upd (upd (upd (upd (upd (upd (upd (upd (upd (upd (upd (upd (upd (upd (fun _ => 0) 0 (((x1_.toUInt32 >>> ((24 : Int32).toUInt32 &&& Int32.toUInt32 31)).toInt32) &&& 255)) 1 (((x1_.toUInt32 >>> ((16 : Int32).toUInt32 &&& Int32.toUInt32 31)).toInt32) &&& 255)) 2 (((x1_.toUInt32 >>> ((8 : Int32).toUInt32 &&& Int32.toUInt32 31)).toInt32) &&& 255)) 3 (((x1_.toUInt32 >>> ((0 : Int32).toUInt32 &&& Int32.toUInt32 31)).toInt32) &&& 255)) 4 (((x2_.toUInt32 >>> ((24 : Int32).toUInt32 &&& Int32.toUInt32 31)).toInt32) &&& 255)) 5 (((x2_.toUInt32 >>> ((16 : Int32).toUInt32 &&& Int32.toUInt32 31)).toInt32) &&& 255)) 6 (((x2_.toUInt32 >>> ((8 : Int32).toUInt32 &&& Int32.toUInt32 31)).toInt32) &&& 255)) 7 (((x2_.toUInt32 >>> ((0 : Int32).toUInt32 &&& Int32.toUInt32 31)).toInt32) &&& 255)) 8 (((x3_.toUInt32 >>> ((24 : Int32).toUInt32 &&& Int32.toUInt32 31)).toInt32) &&& 255)) 9 (((x3_.toUInt32 >>> ((16 : Int32).toUInt32 &&& Int32.toUInt32 31)).toInt32) &&& 255)) 10 (((x3_.toUInt32 >>> ((8 : Int32).toUInt32 &&& Int32.toUInt32 31)).toInt32) &&& 255)) 11 (((x3_.toUInt32 >>> ((0 : Int32).toUInt32 &&& Int32.toUInt32 31)).toInt32) &&& 255)) 12 (((x0_.toUInt32 >>> ((24 : Int32).toUInt32 &&& Int32.toUInt32 31)).toInt32) &&& 255)) 13 (((x0_.toUInt32 >>> ((16 : Int32).toUInt32 &&& Int32.toUInt32 31)).toInt32) &&& 255)) 14 (((x0_.toUInt32 >>> ((8 : Int32).toUInt32 &&& Int32.toUInt32 31)).toInt32) &&& 255)) 15 (((x0_.toUInt32 >>> ((0 : Int32).toUInt32 &&& Int32.toUInt32 31)).toInt32) &&& 255))))] H := hP
  have hD : va_D A [(a0_, .inr (14, [.ref a1_, .int 15, .ref a2_, .ref a3_, .ref a4_, .ref a5_, .int 0, .int (-1), .ref a6_, .ref a7_, .ref a8_, .ref a9_])), (a1_, .inl (cI, 4000, .inl (upd (upd (upd (upd (upd (upd (upd (upd (upd (upd (upd (upd (upd (upd (upd (upd (fun _ => 0) 0 (((x1_.toUInt32 >>> ((24 : Int32).toUInt32 &&& Int32.toUInt32 31)).toInt32) &&& 255)) 1 (((x1_.toUInt32 >>> ((16 : Int32).toUInt32 &&& Int32.toUInt32 31)).toInt32) &&& 255)) 2 (((x1_.toUInt32 >>> ((8 : Int32).toUInt32 &&& Int32.toUInt32 31)).toInt32) &&& 255)) 3 (((x1_.toUInt32 >>> ((0 : Int32).toUInt32 &&& Int32.toUInt32 31)).toInt32) &&& 255)) 4 (((x2_.toUInt32 >>> ((24 : Int32).toUInt32 &&& Int32.toUInt32 31)).toInt32) &&& 255)) 5 (((x2_.toUInt32 >>> ((16 : Int32).toUInt32 &&& Int32.toUInt32 31)).toInt32) &&& 255)) 6 (((x2_.toUInt32 >>> ((8 : Int32).toUInt32 &&& Int32.toUInt32 31)).toInt32) &&& 255)) 7 (((x2_.toUInt32 >>> ((0 : Int32).toUInt32 &&& Int32.toUInt32 31)).toInt32) &&& 255)) 8 (((x3_.toUInt32 >>> ((24 : Int32).toUInt32 &&& Int32.toUInt32 31)).toInt32) &&& 255)) 9 (((x3_.toUInt32 >>> ((16 : Int32).toUInt32 &&& Int32.toUInt32 31)).toInt32) &&& 255)) 10 (((x3_.toUInt32 >>> ((8 : Int32).toUInt32 &&& Int32.toUInt32 31)).toInt32) &&& 255)) 11 (((x3_.toUInt32 >>> ((0 : Int32).toUInt32 &&& Int32.toUInt32 31)).toInt32) &&& 255)) 12 (((x0_.toUInt32 >>> ((24 : Int32).toUInt32 &&& Int32.toUInt32 31)).toInt32) &&& 255)) 13 (((x0_.toUInt32 >>> ((16 : Int32).toUInt32 &&& Int32.toUInt32 31)).toInt32) &&& 255)) 14 (((x0_.toUInt32 >>> ((8 : Int32).toUInt32 &&& Int32.toUInt32 31)).toInt32) &&& 255)) 15 (((x0_.toUInt32 >>> ((0 : Int32).toUInt32 &&& Int32.toUInt32 31)).toInt32) &&& 255))))] := hD
  refine lv_aload_n hx hb dX11_tapeNumber_33 rfl (lv_at hl 1 rfl) ?_
  refine lv_dup hx hb dX11_tapeNumber_34 rfl ?_
  refine va_get (D := (dC, dI)) (ci := 14) (v := .int 15) (C := RX11) (T := TX11) (N := 12) hx hb ht itX11 hown hK hP 0 rfl rfl 1 (by decide) (ht _ tw_212) (fun _ h9 => h9) rfl dX11_tapeNumber_35 ?_
  refine lv_iconst (v := 1) hx hb dX11_tapeNumber_38 (by decide) ?_
  refine lv_iadd hx hb dX11_tapeNumber_39 ?_
  refine tp_i (y := 16) (by decide) ?_
  refine va_put (D := (dC, dI)) (ci := 14) (v := .int 16) (ty := .int) (C := RX11) (T := TX11) (N := 12) hx hb ht itX11 tyX11 tyX11_ok nmX11 hown hK hP hD hS 0 rfl rfl 1 (by decide) (ht _ tw_212) (fun _ h9 => h9) rfl (by decide +kernel) rfl rfl (Nat.le_of_ble_eq_true rfl) dX11_tapeNumber_40 (fun H locs hP hD hS => ?_)
  have hP : va_P (dC, dI) vwCl [(a0_, .inr (14, [.ref a1_, .int 16, .ref a2_, .ref a3_, .ref a4_, .ref a5_, .int 0, .int (-1), .ref a6_, .ref a7_, .ref a8_, .ref a9_])), (a1_, .inl (cI, 4000, .inl (upd (upd (upd (upd (upd (upd (upd (upd (upd (upd (upd (upd (upd (upd (upd (upd (fun _ => 0) 0 (((x1_.toUInt32 >>> ((24 : Int32).toUInt32 &&& Int32.toUInt32 31)).toInt32) &&& 255)) 1 (((x1_.toUInt32 >>> ((16 : Int32).toUInt32 &&& Int32.toUInt32 31)).toInt32) &&& 255)) 2 (((x1_.toUInt32 >>> ((8 : Int32).toUInt32 &&& Int32.toUInt32 31)).toInt32) &&& 255)) 3 (((x1_.toUInt32 >>> ((0 : Int32).toUInt32 &&& Int32.toUInt32 31)).toInt32) &&& 255)) 4 (((x2_.toUInt32 >>> ((24 : Int32).toUInt32 &&& Int32.toUInt32 31)).toInt32) &&& 255)) 5 (((x2_.toUInt32 >>> ((16 : Int32).toUInt32 &&& Int32.toUInt32 31)).toInt32) &&& 255)) 6 (((x2_.toUInt32 >>> ((8 : Int32).toUInt32 &&& Int32.toUInt32 31)).toInt32) &&& 255)) 7 (((x2_.toUInt32 >>> ((0 : Int32).toUInt32 &&& Int32.toUInt32 31)).toInt32) &&& 255)) 8 (((x3_.toUInt32 >>> ((24 : Int32).toUInt32 &&& Int32.toUInt32 31)).toInt32) &&& 255)) 9 (((x3_.toUInt32 >>> ((16 : Int32).toUInt32 &&& Int32.toUInt32 31)).toInt32) &&& 255)) 10 (((x3_.toUInt32 >>> ((8 : Int32).toUInt32 &&& Int32.toUInt32 31)).toInt32) &&& 255)) 11 (((x3_.toUInt32 >>> ((0 : Int32).toUInt32 &&& Int32.toUInt32 31)).toInt32) &&& 255)) 12 (((x0_.toUInt32 >>> ((24 : Int32).toUInt32 &&& Int32.toUInt32 31)).toInt32) &&& 255)) 13 (((x0_.toUInt32 >>> ((16 : Int32).toUInt32 &&& Int32.toUInt32 31)).toInt32) &&& 255)) 14 (((x0_.toUInt32 >>> ((8 : Int32).toUInt32 &&& Int32.toUInt32 31)).toInt32) &&& 255)) 15 (((x0_.toUInt32 >>> ((0 : Int32).toUInt32 &&& Int32.toUInt32 31)).toInt32) &&& 255))))] H := hP
  have hD : va_D A [(a0_, .inr (14, [.ref a1_, .int 16, .ref a2_, .ref a3_, .ref a4_, .ref a5_, .int 0, .int (-1), .ref a6_, .ref a7_, .ref a8_, .ref a9_])), (a1_, .inl (cI, 4000, .inl (upd (upd (upd (upd (upd (upd (upd (upd (upd (upd (upd (upd (upd (upd (upd (upd (fun _ => 0) 0 (((x1_.toUInt32 >>> ((24 : Int32).toUInt32 &&& Int32.toUInt32 31)).toInt32) &&& 255)) 1 (((x1_.toUInt32 >>> ((16 : Int32).toUInt32 &&& Int32.toUInt32 31)).toInt32) &&& 255)) 2 (((x1_.toUInt32 >>> ((8 : Int32).toUInt32 &&& Int32.toUInt32 31)).toInt32) &&& 255)) 3 (((x1_.toUInt32 >>> ((0 : Int32).toUInt32 &&& Int32.toUInt32 31)).toInt32) &&& 255)) 4 (((x2_.toUInt32 >>> ((24 : Int32).toUInt32 &&& Int32.toUInt32 31)).toInt32) &&& 255)) 5 (((x2_.toUInt32 >>> ((16 : Int32).toUInt32 &&& Int32.toUInt32 31)).toInt32) &&& 255)) 6 (((x2_.toUInt32 >>> ((8 : Int32).toUInt32 &&& Int32.toUInt32 31)).toInt32) &&& 255)) 7 (((x2_.toUInt32 >>> ((0 : Int32).toUInt32 &&& Int32.toUInt32 31)).toInt32) &&& 255)) 8 (((x3_.toUInt32 >>> ((24 : Int32).toUInt32 &&& Int32.toUInt32 31)).toInt32) &&& 255)) 9 (((x3_.toUInt32 >>> ((16 : Int32).toUInt32 &&& Int32.toUInt32 31)).toInt32) &&& 255)) 10 (((x3_.toUInt32 >>> ((8 : Int32).toUInt32 &&& Int32.toUInt32 31)).toInt32) &&& 255)) 11 (((x3_.toUInt32 >>> ((0 : Int32).toUInt32 &&& Int32.toUInt32 31)).toInt32) &&& 255)) 12 (((x0_.toUInt32 >>> ((24 : Int32).toUInt32 &&& Int32.toUInt32 31)).toInt32) &&& 255)) 13 (((x0_.toUInt32 >>> ((16 : Int32).toUInt32 &&& Int32.toUInt32 31)).toInt32) &&& 255)) 14 (((x0_.toUInt32 >>> ((8 : Int32).toUInt32 &&& Int32.toUInt32 31)).toInt32) &&& 255)) 15 (((x0_.toUInt32 >>> ((0 : Int32).toUInt32 &&& Int32.toUInt32 31)).toInt32) &&& 255))))] := hD
  refine lv_iinc (v := (-8)) (lv' := [(2, .int (-8)), (0, .ref a0_), (1, .int x0_)]) hx hb dX11_tapeNumber_43 hl (k := 0) rfl (by decide) (by decide) rfl (fun ls hl => ?_)
  refine lv_goto (tgt := 3) hx hb dX11_tapeNumber_46 (by decide) ?_
  refine lv_iload_n hx hb dX11_tapeNumber_3 rfl (lv_at hl 0 rfl) ?_
  refine lv_if_lt (tgt := 49) hx hb dX11_tapeNumber_4 (by decide) (fun _ => ?_) (fun k9 => absurd k9 (by decide))
  have hP9 := hP.sub (ws' := [(a0_, .inr (14, [.ref a1_, .int 16, .ref a2_, .ref a3_, .ref a4_, .ref a5_, .int 0, .int (-1), .ref a6_, .ref a7_, .ref a8_, .ref a9_])), (a1_, .inl (cI, 4000, .inl (upd (upd (upd (upd (upd (upd (upd (upd (upd (upd (upd (upd (upd (upd (upd (upd (fun _ => 0) 0 (((x1_.toUInt32 >>> ((24 : Int32).toUInt32 &&& Int32.toUInt32 31)).toInt32) &&& 255)) 1 (((x1_.toUInt32 >>> ((16 : Int32).toUInt32 &&& Int32.toUInt32 31)).toInt32) &&& 255)) 2 (((x1_.toUInt32 >>> ((8 : Int32).toUInt32 &&& Int32.toUInt32 31)).toInt32) &&& 255)) 3 (((x1_.toUInt32 >>> ((0 : Int32).toUInt32 &&& Int32.toUInt32 31)).toInt32) &&& 255)) 4 (((x2_.toUInt32 >>> ((24 : Int32).toUInt32 &&& Int32.toUInt32 31)).toInt32) &&& 255)) 5 (((x2_.toUInt32 >>> ((16 : Int32).toUInt32 &&& Int32.toUInt32 31)).toInt32) &&& 255)) 6 (((x2_.toUInt32 >>> ((8 : Int32).toUInt32 &&& Int32.toUInt32 31)).toInt32) &&& 255)) 7 (((x2_.toUInt32 >>> ((0 : Int32).toUInt32 &&& Int32.toUInt32 31)).toInt32) &&& 255)) 8 (((x3_.toUInt32 >>> ((24 : Int32).toUInt32 &&& Int32.toUInt32 31)).toInt32) &&& 255)) 9 (((x3_.toUInt32 >>> ((16 : Int32).toUInt32 &&& Int32.toUInt32 31)).toInt32) &&& 255)) 10 (((x3_.toUInt32 >>> ((8 : Int32).toUInt32 &&& Int32.toUInt32 31)).toInt32) &&& 255)) 11 (((x3_.toUInt32 >>> ((0 : Int32).toUInt32 &&& Int32.toUInt32 31)).toInt32) &&& 255)) 12 (((x0_.toUInt32 >>> ((24 : Int32).toUInt32 &&& Int32.toUInt32 31)).toInt32) &&& 255)) 13 (((x0_.toUInt32 >>> ((16 : Int32).toUInt32 &&& Int32.toUInt32 31)).toInt32) &&& 255)) 14 (((x0_.toUInt32 >>> ((8 : Int32).toUInt32 &&& Int32.toUInt32 31)).toInt32) &&& 255)) 15 (((x0_.toUInt32 >>> ((0 : Int32).toUInt32 &&& Int32.toUInt32 31)).toInt32) &&& 255))))]) [0, 1] rfl
  have hD9 := hD.sub (ws' := [(a0_, .inr (14, [.ref a1_, .int 16, .ref a2_, .ref a3_, .ref a4_, .ref a5_, .int 0, .int (-1), .ref a6_, .ref a7_, .ref a8_, .ref a9_])), (a1_, .inl (cI, 4000, .inl (upd (upd (upd (upd (upd (upd (upd (upd (upd (upd (upd (upd (upd (upd (upd (upd (fun _ => 0) 0 (((x1_.toUInt32 >>> ((24 : Int32).toUInt32 &&& Int32.toUInt32 31)).toInt32) &&& 255)) 1 (((x1_.toUInt32 >>> ((16 : Int32).toUInt32 &&& Int32.toUInt32 31)).toInt32) &&& 255)) 2 (((x1_.toUInt32 >>> ((8 : Int32).toUInt32 &&& Int32.toUInt32 31)).toInt32) &&& 255)) 3 (((x1_.toUInt32 >>> ((0 : Int32).toUInt32 &&& Int32.toUInt32 31)).toInt32) &&& 255)) 4 (((x2_.toUInt32 >>> ((24 : Int32).toUInt32 &&& Int32.toUInt32 31)).toInt32) &&& 255)) 5 (((x2_.toUInt32 >>> ((16 : Int32).toUInt32 &&& Int32.toUInt32 31)).toInt32) &&& 255)) 6 (((x2_.toUInt32 >>> ((8 : Int32).toUInt32 &&& Int32.toUInt32 31)).toInt32) &&& 255)) 7 (((x2_.toUInt32 >>> ((0 : Int32).toUInt32 &&& Int32.toUInt32 31)).toInt32) &&& 255)) 8 (((x3_.toUInt32 >>> ((24 : Int32).toUInt32 &&& Int32.toUInt32 31)).toInt32) &&& 255)) 9 (((x3_.toUInt32 >>> ((16 : Int32).toUInt32 &&& Int32.toUInt32 31)).toInt32) &&& 255)) 10 (((x3_.toUInt32 >>> ((8 : Int32).toUInt32 &&& Int32.toUInt32 31)).toInt32) &&& 255)) 11 (((x3_.toUInt32 >>> ((0 : Int32).toUInt32 &&& Int32.toUInt32 31)).toInt32) &&& 255)) 12 (((x0_.toUInt32 >>> ((24 : Int32).toUInt32 &&& Int32.toUInt32 31)).toInt32) &&& 255)) 13 (((x0_.toUInt32 >>> ((16 : Int32).toUInt32 &&& Int32.toUInt32 31)).toInt32) &&& 255)) 14 (((x0_.toUInt32 >>> ((8 : Int32).toUInt32 &&& Int32.toUInt32 31)).toInt32) &&& 255)) 15 (((x0_.toUInt32 >>> ((0 : Int32).toUInt32 &&& Int32.toUInt32 31)).toInt32) &&& 255))))]) [0, 1] (by decide) rfl
  refine W.widen (k := 0) (n := 0) (by omega) (by omega) ?_
  exact W.vret hx hb hr (fun t ht9 hW => ⟨⟨(), rfl, trivial, by rw [ht9]; exact hP9, hD9⟩, hS.F ht9⟩) hS.2.2 dX11_tapeNumber_49
set_option maxHeartbeats 4000000 in
set_option maxRecDepth 100000 in
theorem c_X11_tapeNumber_5 (l : Launch) (dC : Nat → ClassId) (dI : Nat → Nat → Nat) (cI cB cZ cJ cR : ClassId) (tb : Nat → Nat) (sz : Nat) (a0_ : Nat) (x0_ : Int32) (a1_ : Nat) (a2_ : Nat) (a3_ : Nat) (a4_ : Nat) (a5_ : Nat) (a6_ : Nat) (a7_ : Nat) (a8_ : Nat) (a9_ : Nat) (x1_ : Int32) (x2_ : Int32) (x3_ : Int32) (x4_ : Int32)  : Met l yX11_tapeNumber (Cond.code yX11_tapeNumber cX11_tapeNumber 3 none :: tw_W) ({ frames := 0, cells := 0, slots := 0, locals := 0 }) (pc_ (dC, dI) (tyS cI cB cZ cJ cR) tb [(a0_, .inr (14, [.ref a1_, .int 16, .ref a2_, .ref a3_, .ref a4_, .ref a5_, .int 0, .int (-1), .ref a6_, .ref a7_, .ref a8_, .ref a9_])), (a1_, .inl (cI, 4000, .inl (upd (upd (upd (upd (upd (upd (upd (upd (upd (upd (upd (upd (upd (upd (upd (upd (fun _ => 0) 0 (((x1_.toUInt32 >>> ((24 : Int32).toUInt32 &&& Int32.toUInt32 31)).toInt32) &&& 255)) 1 (((x1_.toUInt32 >>> ((16 : Int32).toUInt32 &&& Int32.toUInt32 31)).toInt32) &&& 255)) 2 (((x1_.toUInt32 >>> ((8 : Int32).toUInt32 &&& Int32.toUInt32 31)).toInt32) &&& 255)) 3 (((x1_.toUInt32 >>> ((0 : Int32).toUInt32 &&& Int32.toUInt32 31)).toInt32) &&& 255)) 4 (((x2_.toUInt32 >>> ((24 : Int32).toUInt32 &&& Int32.toUInt32 31)).toInt32) &&& 255)) 5 (((x2_.toUInt32 >>> ((16 : Int32).toUInt32 &&& Int32.toUInt32 31)).toInt32) &&& 255)) 6 (((x2_.toUInt32 >>> ((8 : Int32).toUInt32 &&& Int32.toUInt32 31)).toInt32) &&& 255)) 7 (((x2_.toUInt32 >>> ((0 : Int32).toUInt32 &&& Int32.toUInt32 31)).toInt32) &&& 255)) 8 (((x3_.toUInt32 >>> ((24 : Int32).toUInt32 &&& Int32.toUInt32 31)).toInt32) &&& 255)) 9 (((x3_.toUInt32 >>> ((16 : Int32).toUInt32 &&& Int32.toUInt32 31)).toInt32) &&& 255)) 10 (((x3_.toUInt32 >>> ((8 : Int32).toUInt32 &&& Int32.toUInt32 31)).toInt32) &&& 255)) 11 (((x3_.toUInt32 >>> ((0 : Int32).toUInt32 &&& Int32.toUInt32 31)).toInt32) &&& 255)) 12 (((x4_.toUInt32 >>> ((24 : Int32).toUInt32 &&& Int32.toUInt32 31)).toInt32) &&& 255)) 13 (((x4_.toUInt32 >>> ((16 : Int32).toUInt32 &&& Int32.toUInt32 31)).toInt32) &&& 255)) 14 (((x4_.toUInt32 >>> ((8 : Int32).toUInt32 &&& Int32.toUInt32 31)).toInt32) &&& 255)) 15 (((x4_.toUInt32 >>> ((0 : Int32).toUInt32 &&& Int32.toUInt32 31)).toInt32) &&& 255))))] sz [.ref a0_, .int x0_]) (qv_ (dC, dI) [(a0_, .inr (14, [.ref a1_, .int 16, .ref a2_, .ref a3_, .ref a4_, .ref a5_, .int 0, .int (-1), .ref a6_, .ref a7_, .ref a8_, .ref a9_])), (a1_, .inl (cI, 4000, .inl (upd (upd (upd (upd (upd (upd (upd (upd (upd (upd (upd (upd (upd (upd (upd (upd (fun _ => 0) 0 (((x1_.toUInt32 >>> ((24 : Int32).toUInt32 &&& Int32.toUInt32 31)).toInt32) &&& 255)) 1 (((x1_.toUInt32 >>> ((16 : Int32).toUInt32 &&& Int32.toUInt32 31)).toInt32) &&& 255)) 2 (((x1_.toUInt32 >>> ((8 : Int32).toUInt32 &&& Int32.toUInt32 31)).toInt32) &&& 255)) 3 (((x1_.toUInt32 >>> ((0 : Int32).toUInt32 &&& Int32.toUInt32 31)).toInt32) &&& 255)) 4 (((x2_.toUInt32 >>> ((24 : Int32).toUInt32 &&& Int32.toUInt32 31)).toInt32) &&& 255)) 5 (((x2_.toUInt32 >>> ((16 : Int32).toUInt32 &&& Int32.toUInt32 31)).toInt32) &&& 255)) 6 (((x2_.toUInt32 >>> ((8 : Int32).toUInt32 &&& Int32.toUInt32 31)).toInt32) &&& 255)) 7 (((x2_.toUInt32 >>> ((0 : Int32).toUInt32 &&& Int32.toUInt32 31)).toInt32) &&& 255)) 8 (((x3_.toUInt32 >>> ((24 : Int32).toUInt32 &&& Int32.toUInt32 31)).toInt32) &&& 255)) 9 (((x3_.toUInt32 >>> ((16 : Int32).toUInt32 &&& Int32.toUInt32 31)).toInt32) &&& 255)) 10 (((x3_.toUInt32 >>> ((8 : Int32).toUInt32 &&& Int32.toUInt32 31)).toInt32) &&& 255)) 11 (((x3_.toUInt32 >>> ((0 : Int32).toUInt32 &&& Int32.toUInt32 31)).toInt32) &&& 255)) 12 (((x4_.toUInt32 >>> ((24 : Int32).toUInt32 &&& Int32.toUInt32 31)).toInt32) &&& 255)) 13 (((x4_.toUInt32 >>> ((16 : Int32).toUInt32 &&& Int32.toUInt32 31)).toInt32) &&& 255)) 14 (((x4_.toUInt32 >>> ((8 : Int32).toUInt32 &&& Int32.toUInt32 31)).toInt32) &&& 255)) 15 (((x4_.toUInt32 >>> ((0 : Int32).toUInt32 &&& Int32.toUInt32 31)).toInt32) &&& 255))))] sz (fun (u : Unit) => True) (fun (u : Unit) => [(a0_, .inr (14, [.ref a1_, .int 20, .ref a2_, .ref a3_, .ref a4_, .ref a5_, .int 0, .int (-1), .ref a6_, .ref a7_, .ref a8_, .ref a9_])), (a1_, .inl (cI, 4000, .inl (upd (upd (upd (upd (upd (upd (upd (upd (upd (upd (upd (upd (upd (upd (upd (upd (upd (upd (upd (upd (fun _ => 0) 0 (((x1_.toUInt32 >>> ((24 : Int32).toUInt32 &&& Int32.toUInt32 31)).toInt32) &&& 255)) 1 (((x1_.toUInt32 >>> ((16 : Int32).toUInt32 &&& Int32.toUInt32 31)).toInt32) &&& 255)) 2 (((x1_.toUInt32 >>> ((8 : Int32).toUInt32 &&& Int32.toUInt32 31)).toInt32) &&& 255)) 3 (((x1_.toUInt32 >>> ((0 : Int32).toUInt32 &&& Int32.toUInt32 31)).toInt32) &&& 255)) 4 (((x2_.toUInt32 >>> ((24 : Int32).toUInt32 &&& Int32.toUInt32 31)).toInt32) &&& 255)) 5 (((x2_.toUInt32 >>> ((16 : Int32).toUInt32 &&& Int32.toUInt32 31)).toInt32) &&& 255)) 6 (((x2_.toUInt32 >>> ((8 : Int32).toUInt32 &&& Int32.toUInt32 31)).toInt32) &&& 255)) 7 (((x2_.toUInt32 >>> ((0 : Int32).toUInt32 &&& Int32.toUInt32 31)).toInt32) &&& 255)) 8 (((x3_.toUInt32 >>> ((24 : Int32).toUInt32 &&& Int32.toUInt32 31)).toInt32) &&& 255)) 9 (((x3_.toUInt32 >>> ((16 : Int32).toUInt32 &&& Int32.toUInt32 31)).toInt32) &&& 255)) 10 (((x3_.toUInt32 >>> ((8 : Int32).toUInt32 &&& Int32.toUInt32 31)).toInt32) &&& 255)) 11 (((x3_.toUInt32 >>> ((0 : Int32).toUInt32 &&& Int32.toUInt32 31)).toInt32) &&& 255)) 12 (((x4_.toUInt32 >>> ((24 : Int32).toUInt32 &&& Int32.toUInt32 31)).toInt32) &&& 255)) 13 (((x4_.toUInt32 >>> ((16 : Int32).toUInt32 &&& Int32.toUInt32 31)).toInt32) &&& 255)) 14 (((x4_.toUInt32 >>> ((8 : Int32).toUInt32 &&& Int32.toUInt32 31)).toInt32) &&& 255)) 15 (((x4_.toUInt32 >>> ((0 : Int32).toUInt32 &&& Int32.toUInt32 31)).toInt32) &&& 255)) 16 (((x0_.toUInt32 >>> ((24 : Int32).toUInt32 &&& Int32.toUInt32 31)).toInt32) &&& 255)) 17 (((x0_.toUInt32 >>> ((16 : Int32).toUInt32 &&& Int32.toUInt32 31)).toInt32) &&& 255)) 18 (((x0_.toUInt32 >>> ((8 : Int32).toUInt32 &&& Int32.toUInt32 31)).toInt32) &&& 255)) 19 (((x0_.toUInt32 >>> ((0 : Int32).toUInt32 &&& Int32.toUInt32 31)).toInt32) &&& 255))))])) 0 0 (va_A [(a0_, .inr (14, [.ref a1_, .int 16, .ref a2_, .ref a3_, .ref a4_, .ref a5_, .int 0, .int (-1), .ref a6_, .ref a7_, .ref a8_, .ref a9_])), (a1_, .inl (cI, 4000, .inl (upd (upd (upd (upd (upd (upd (upd (upd (upd (upd (upd (upd (upd (upd (upd (upd (fun _ => 0) 0 (((x1_.toUInt32 >>> ((24 : Int32).toUInt32 &&& Int32.toUInt32 31)).toInt32) &&& 255)) 1 (((x1_.toUInt32 >>> ((16 : Int32).toUInt32 &&& Int32.toUInt32 31)).toInt32) &&& 255)) 2 (((x1_.toUInt32 >>> ((8 : Int32).toUInt32 &&& Int32.toUInt32 31)).toInt32) &&& 255)) 3 (((x1_.toUInt32 >>> ((0 : Int32).toUInt32 &&& Int32.toUInt32 31)).toInt32) &&& 255)) 4 (((x2_.toUInt32 >>> ((24 : Int32).toUInt32 &&& Int32.toUInt32 31)).toInt32) &&& 255)) 5 (((x2_.toUInt32 >>> ((16 : Int32).toUInt32 &&& Int32.toUInt32 31)).toInt32) &&& 255)) 6 (((x2_.toUInt32 >>> ((8 : Int32).toUInt32 &&& Int32.toUInt32 31)).toInt32) &&& 255)) 7 (((x2_.toUInt32 >>> ((0 : Int32).toUInt32 &&& Int32.toUInt32 31)).toInt32) &&& 255)) 8 (((x3_.toUInt32 >>> ((24 : Int32).toUInt32 &&& Int32.toUInt32 31)).toInt32) &&& 255)) 9 (((x3_.toUInt32 >>> ((16 : Int32).toUInt32 &&& Int32.toUInt32 31)).toInt32) &&& 255)) 10 (((x3_.toUInt32 >>> ((8 : Int32).toUInt32 &&& Int32.toUInt32 31)).toInt32) &&& 255)) 11 (((x3_.toUInt32 >>> ((0 : Int32).toUInt32 &&& Int32.toUInt32 31)).toInt32) &&& 255)) 12 (((x4_.toUInt32 >>> ((24 : Int32).toUInt32 &&& Int32.toUInt32 31)).toInt32) &&& 255)) 13 (((x4_.toUInt32 >>> ((16 : Int32).toUInt32 &&& Int32.toUInt32 31)).toInt32) &&& 255)) 14 (((x4_.toUInt32 >>> ((8 : Int32).toUInt32 &&& Int32.toUInt32 31)).toInt32) &&& 255)) 15 (((x4_.toUInt32 >>> ((0 : Int32).toUInt32 &&& Int32.toUInt32 31)).toInt32) &&& 255))))] sz) := by
  refine Met.ofW (cc := cX11_tapeNumber) (maxL := 3) (ret := none) (by decide) rfl ?_
  intro p e s m args below meth c s₁ B hml hv
  obtain ⟨rfl, hsz, hP, hKK, hD0, hFx⟩ := hv
  have hK := hKK.1
  have hx := B.exec
  have hb := B.bytes
  have hr := B.returns
  have ht : ∀ w ∈ tw_W, w.before _ s = true := fun w h => atoms_spec (ws := Cond.code yX11_tapeNumber cX11_tapeNumber 3 none :: tw_W) B.pre w (List.mem_cons_of_mem _ h)
  have hown : s.vm.findClass RX11 = some m.cls := findClass_of_methodNamed B.named
  have hlocks := B.notSynchronized
  subst hsz
  unfold qv_
  have hD := hD0.self (sz := s.heap.size)
  generalize hAe : va_A [(a0_, .inr (14, [.ref a1_, .int 16, .ref a2_, .ref a3_, .ref a4_, .ref a5_, .int 0, .int (-1), .ref a6_, .ref a7_, .ref a8_, .ref a9_])), (a1_, .inl (cI, 4000, .inl (upd (upd (upd (upd (upd (upd (upd (upd (upd (upd (upd (upd (upd (upd (upd (upd (fun _ => 0) 0 (((x1_.toUInt32 >>> ((24 : Int32).toUInt32 &&& Int32.toUInt32 31)).toInt32) &&& 255)) 1 (((x1_.toUInt32 >>> ((16 : Int32).toUInt32 &&& Int32.toUInt32 31)).toInt32) &&& 255)) 2 (((x1_.toUInt32 >>> ((8 : Int32).toUInt32 &&& Int32.toUInt32 31)).toInt32) &&& 255)) 3 (((x1_.toUInt32 >>> ((0 : Int32).toUInt32 &&& Int32.toUInt32 31)).toInt32) &&& 255)) 4 (((x2_.toUInt32 >>> ((24 : Int32).toUInt32 &&& Int32.toUInt32 31)).toInt32) &&& 255)) 5 (((x2_.toUInt32 >>> ((16 : Int32).toUInt32 &&& Int32.toUInt32 31)).toInt32) &&& 255)) 6 (((x2_.toUInt32 >>> ((8 : Int32).toUInt32 &&& Int32.toUInt32 31)).toInt32) &&& 255)) 7 (((x2_.toUInt32 >>> ((0 : Int32).toUInt32 &&& Int32.toUInt32 31)).toInt32) &&& 255)) 8 (((x3_.toUInt32 >>> ((24 : Int32).toUInt32 &&& Int32.toUInt32 31)).toInt32) &&& 255)) 9 (((x3_.toUInt32 >>> ((16 : Int32).toUInt32 &&& Int32.toUInt32 31)).toInt32) &&& 255)) 10 (((x3_.toUInt32 >>> ((8 : Int32).toUInt32 &&& Int32.toUInt32 31)).toInt32) &&& 255)) 11 (((x3_.toUInt32 >>> ((0 : Int32).toUInt32 &&& Int32.toUInt32 31)).toInt32) &&& 255)) 12 (((x4_.toUInt32 >>> ((24 : Int32).toUInt32 &&& Int32.toUInt32 31)).toInt32) &&& 255)) 13 (((x4_.toUInt32 >>> ((16 : Int32).toUInt32 &&& Int32.toUInt32 31)).toInt32) &&& 255)) 14 (((x4_.toUInt32 >>> ((8 : Int32).toUInt32 &&& Int32.toUInt32 31)).toInt32) &&& 255)) 15 (((x4_.toUInt32 >>> ((0 : Int32).toUInt32 &&& Int32.toUInt32 31)).toInt32) &&& 255))))] s.heap.size = A at hD hFx ⊢
  have hA : ∀ q : Nat, s.heap.size ≤ q → A q := fun q h => by rw [← hAe]; exact Or.inr h
  have hS : va_S A s.heap s.heap [] := va_S.rf
  have hP : va_P (dC, dI) vwCl [(a0_, .inr (14, [.ref a1_, .int 16, .ref a2_, .ref a3_, .ref a4_, .ref a5_, .int 0, .int (-1), .ref a6_, .ref a7_, .ref a8_, .ref a9_])), (a1_, .inl (cI, 4000, .inl (upd (upd (upd (upd (upd (upd (upd (upd (upd (upd (upd (upd (upd (upd (upd (upd (fun _ => 0) 0 (((x1_.toUInt32 >>> ((24 : Int32).toUInt32 &&& Int32.toUInt32 31)).toInt32) &&& 255)) 1 (((x1_.toUInt32 >>> ((16 : Int32).toUInt32 &&& Int32.toUInt32 31)).toInt32) &&& 255)) 2 (((x1_.toUInt32 >>> ((8 : Int32).toUInt32 &&& Int32.toUInt32 31)).toInt32) &&& 255)) 3 (((x1_.toUInt32 >>> ((0 : Int32).toUInt32 &&& Int32.toUInt32 31)).toInt32) &&& 255)) 4 (((x2_.toUInt32 >>> ((24 : Int32).toUInt32 &&& Int32.toUInt32 31)).toInt32) &&& 255)) 5 (((x2_.toUInt32 >>> ((16 : Int32).toUInt32 &&& Int32.toUInt32 31)).toInt32) &&& 255)) 6 (((x2_.toUInt32 >>> ((8 : Int32).toUInt32 &&& Int32.toUInt32 31)).toInt32) &&& 255)) 7 (((x2_.toUInt32 >>> ((0 : Int32).toUInt32 &&& Int32.toUInt32 31)).toInt32) &&& 255)) 8 (((x3_.toUInt32 >>> ((24 : Int32).toUInt32 &&& Int32.toUInt32 31)).toInt32) &&& 255)) 9 (((x3_.toUInt32 >>> ((16 : Int32).toUInt32 &&& Int32.toUInt32 31)).toInt32) &&& 255)) 10 (((x3_.toUInt32 >>> ((8 : Int32).toUInt32 &&& Int32.toUInt32 31)).toInt32) &&& 255)) 11 (((x3_.toUInt32 >>> ((0 : Int32).toUInt32 &&& Int32.toUInt32 31)).toInt32) &&& 255)) 12 (((x4_.toUInt32 >>> ((24 : Int32).toUInt32 &&& Int32.toUInt32 31)).toInt32) &&& 255)) 13 (((x4_.toUInt32 >>> ((16 : Int32).toUInt32 &&& Int32.toUInt32 31)).toInt32) &&& 255)) 14 (((x4_.toUInt32 >>> ((8 : Int32).toUInt32 &&& Int32.toUInt32 31)).toInt32) &&& 255)) 15 (((x4_.toUInt32 >>> ((0 : Int32).toUInt32 &&& Int32.toUInt32 31)).toInt32) &&& 255))))] s.heap := hP
  have hl := lv_entry ([.ref a0_, .int x0_]) (n := 3) (Nat.le_of_ble_eq_true rfl)
  rw [lg_entry_eq]
  generalize (lg_sl ([.ref a0_, .int x0_]) ++ List.replicate (3 - (lg_sl ([.ref a0_, .int x0_])).length) Slot.unset).toArray = ls at hl ⊢
  have hl : lv_has ls 3 [(0, .ref a0_), (1, .int x0_)] := hl
  refine lv_bipush (v := 24) hx hb dX11_tapeNumber_0 (by decide) ?_
  refine lv_istore_n (lv' := [(2, .int 24), (0, .ref a0_), (1, .int x0_)]) hx hb dX11_tapeNumber_2 rfl hl (by decide) rfl (fun ls hl => ?_)
  refine lv_iload_n hx hb dX11_tapeNumber_3 rfl (lv_at hl 0 rfl) ?_
  refine lv_if_lt (tgt := 49) hx hb dX11_tapeNumber_4 (by decide) (fun k1 => absurd k1 (by decide)) (fun _ => ?_)
  refine lv_aload_n hx hb dX11_tapeNumber_7 rfl (lv_at hl 1 rfl) ?_
  refine va_get (D := (dC, dI)) (ci := 14) (v := .int 16) (C := RX11) (T := TX11) (N := 12) hx hb ht itX11 hown hK hP 0 rfl rfl 1 (by decide) (ht _ tw_212) (fun _ h9 => h9) rfl dX11_tapeNumber_8 ?_
  refine lv_sipush (v := 4000) hx hb dX11_tapeNumber_11 (by decide) ?_
  refine lv_icmp_ge (tgt := 49) hx hb dX11_tapeNumber_14 (by decide) (fun k2 => absurd k2 (by decide)) (fun _ => ?_)
  refine lv_aload_n hx hb dX11_tapeNumber_17 rfl (lv_at hl 1 rfl) ?_
  refine va_get (D := (dC, dI)) (ci := 14) (v := .ref a1_) (C := RX11) (T := TX11) (N := 12) hx hb ht itX11 hown hK hP 0 rfl rfl 0 (by decide) (ht _ tw_85) (fun _ h9 => h9) rfl dX11_tapeNumber_18 ?_
  refine lv_aload_n hx hb dX11_tapeNumber_21 rfl (lv_at hl 1 rfl) ?_
  refine va_get (D := (dC, dI)) (ci := 14) (v := .int 16) (C := RX11) (T := TX11) (N := 12) hx hb ht itX11 hown hK hP 0 rfl rfl 1 (by decide) (ht _ tw_212) (fun _ h9 => h9) rfl dX11_tapeNumber_22 ?_
  refine lv_iload_n hx hb dX11_tapeNumber_25 rfl (lv_at hl 2 rfl) ?_
  refine lv_iload_n hx hb dX11_tapeNumber_26 rfl (lv_at hl 0 rfl) ?_
  refine lv_iushr hx hb dX11_tapeNumber_27 rfl ?_
  refine lv_sipush (v := 255) hx hb dX11_tapeNumber_28 (by decide) ?_
  refine lv_iand hx hb dX11_tapeNumber_31 ?_
  refine va_iast (D := (dC, dI)) hx hb hK hP hD hS 1 0 rfl rfl (vp_in_iff.mpr (by decide)) dX11_tapeNumber_32 (fun H locs hP hD hS => ?_)
  have hP : va_P (dC, dI) vwCl [(a0_, .inr (14, [.ref a1_, .int 16, .ref a2_, .ref a3_, .ref a4_, .ref a5_, .int 0, .int (-1), .ref a6_, .ref a7_, .ref a8_, .ref a9_])), (a1_, .inl (cI, 4000, .inl (upd (upd (upd (upd (upd (upd (upd (upd (upd (upd (upd (upd (upd (upd (upd (upd (upd (fun _ => 0) 0 (((x1_.toUInt32 >>> ((24 : Int32).toUInt32 &&& Int32.toUInt32 31)).toInt32) &&& 255)) 1 (((x1_.toUInt32 >>> ((16 : Int32).toUInt32 &&& Int32.toUInt32 31)).toInt32) &&& 255)) 2 (((x1_.toUInt32 >>> ((8 : Int32).toUInt32 &&& Int32.toUInt32 31)).toInt32) &&& 255)) 3 (((x1_.toUInt32 >>> ((0 : Int32).toUInt32 &&& Int32.toUInt32 31)).toInt32) &&& 255)) 4 (((x2_.toUInt32 >>> ((24 : Int32).toUInt32 &&& Int32.toUInt32 31)).toInt32) &&& 255)) 5 (((x2_.toUInt32 >>> ((16 : Int32).toUInt32 &&& Int32.toUInt32 31)).toInt32) &&& 255)) 6 (((x2_.toUInt32 >>> ((8 : Int32).toUInt32 &&& Int32.toUInt32 31)).toInt32) &&& 255)) 7 (((x2_.toUInt32 >>> ((0 : Int32).toUInt32 &&& Int32.toUInt32 31)).toInt32) &&& 255)) 8 (((x3_.toUInt32 >>> ((24 : Int32).toUInt32 &&& Int32.toUInt32 31)).toInt32) &&& 255)) 9 (((x3_.toUInt32 >>> ((16 : Int32).toUInt32 &&& Int32.toUInt32 31)).toInt32) &&& 255)) 10 (((x3_.toUInt32 >>> ((8 : Int32).toUInt32 &&& Int32.toUInt32 31)).toInt32) &&& 255)) 11 (((x3_.toUInt32 >>> ((0 : Int32).toUInt32 &&& Int32.toUInt32 31)).toInt32) &&& 255)) 12 (((x4_.toUInt32 >>> ((24 : Int32).toUInt32 &&& Int32.toUInt32 31)).toInt32) &&& 255)) 13 (((x4_.toUInt32 >>> ((16 : Int32).toUInt32 &&& Int32.toUInt32 31)).toInt32) &&& 255)) 14 (((x4_.toUInt32 >>> ((8 : Int32).toUInt32 &&& Int32.toUInt32 31)).toInt32) &&& 255)) 15 (((x4_.toUInt32 >>> ((0 : Int32).toUInt32 &&& Int32.toUInt32 31)).toInt32) &&& 255)) 16 (((x0_.toUInt32 >>> ((24 : Int32).toUInt32 &&& Int32.toUInt32 31)).toInt32) &&& 255))))] H := hP
  have hD : va_D A [(a0_, .inr (14, [.ref a1_, .int 16, .ref a2_, .ref a3_, .ref a4_, .ref a5_, .int 0, .int (-1), .ref a6_, .ref a7_, .ref a8_, .ref a9_])), (a1_, .inl (cI, 4000, .inl (upd (upd (upd (upd (upd (upd (upd (upd (upd (upd (upd (upd (upd (upd (upd (upd (upd (fun _ => 0) 0 (((x1_.toUInt32 >>> ((24 : Int32).toUInt32 &&& Int32.toUInt32 31)).toInt32) &&& 255)) 1 (((x1_.toUInt32 >>> ((16 : Int32).toUInt32 &&& Int32.toUInt32 31)).toInt32) &&& 255)) 2 (((x1_.toUInt32 >>> ((8 : Int32).toUInt32 &&& Int32.toUInt32 31)).toInt32) &&& 255)) 3 (((x1_.toUInt32 >>> ((0 : Int32).toUInt32 &&& Int32.toUInt32 31)).toInt32) &&& 255)) 4 (((x2_.toUInt32 >>> ((24 : Int32).toUInt32 &&& Int32.toUInt32 31)).toInt32) &&& 255)) 5 (((x2_.toUInt32 >>> ((16 : Int32).toUInt32 &&& Int32.toUInt32 31)).toInt32) &&& 255)) 6 (((x2_.toUInt32 >>> ((8 : Int32).toUInt32 &&& Int32.toUInt32 31)).toInt32) &&& 255)) 7 (((x2_.toUInt32 >>> ((0 : Int32).toUInt32 &&& Int32.toUInt32 31)).toInt32) &&& 255)) 8 (((x3_.toUInt32 >>> ((24 : Int32).toUInt32 &&& Int32.toUInt32 31)).toInt32) &&& 255)) 9 (((x3_.toUInt32 >>> ((16 : Int32).toUInt32 &&& Int32.toUInt32 31)).toInt32) &&& 255)) 10 (((x3_.toUInt32 >>> ((8 : Int32).toUInt32 &&& Int32.toUInt32 31)).toInt32) &&& 255)) 11 (((x3_.toUInt32 >>> ((0 : Int32).toUInt32 &&& Int32.toUInt32 31)).toInt32) &&& 255)) 12 (((x4_.toUInt32 >>> ((24 : Int32).toUInt32 &&& Int32.toUInt32 31)).toInt32) &&& 255)) 13 (((x4_.toUInt32 >>> ((16 : Int32).toUInt32 &&& Int32.toUInt32 31)).toInt32) &&& 255)) 14 (((x4_.toUInt32 >>> ((8 : Int32).toUInt32 &&& Int32.toUInt32 31)).toInt32) &&& 255)) 15 (((x4_.toUInt32 >>> ((0 : Int32).toUInt32 &&& Int32.toUInt32 31)).toInt32) &&& 255)) 16 (((x0_.toUInt32 >>> ((24 : Int32).toUInt32 &&& Int32.toUInt32 31)).toInt32) &&& 255))))] := hD
  refine lv_aload_n hx hb dX11_tapeNumber_33 rfl (lv_at hl 1 rfl) ?_
  refine lv_dup hx hb dX11_tapeNumber_34 rfl ?_
  refine va_get (D := (dC, dI)) (ci := 14) (v := .int 16) (C := RX11) (T := TX11) (N := 12) hx hb ht itX11 hown hK hP 0 rfl rfl 1 (by decide) (ht _ tw_212) (fun _ h9 => h9) rfl dX11_tapeNumber_35 ?_
  refine lv_iconst (v := 1) hx hb dX11_tapeNumber_38 (by decide) ?_
  refine lv_iadd hx hb dX11_tapeNumber_39 ?_
  refine tp_i (y := 17) (by decide) ?_
  refine va_put (D := (dC, dI)) (ci := 14) (v := .int 17) (ty := .int) (C := RX11) (T := TX11) (N := 12) hx hb ht itX11 tyX11 tyX11_ok nmX11 hown hK hP hD hS 0 rfl rfl 1 (by decide) (ht _ tw_212) (fun _ h9 => h9) rfl (by decide +kernel) rfl rfl (Nat.le_of_ble_eq_true rfl) dX11_tapeNumber_40 (fun H locs hP hD hS => ?_)
  have hP : va_P (dC, dI) vwCl [(a0_, .inr (14, [.ref a1_, .int 17, .ref a2_, .ref a3_, .ref a4_, .ref a5_, .int 0, .int (-1), .ref a6_, .ref a7_, .ref a8_, .ref a9_])), (a1_, .inl (cI, 4000, .inl (upd (upd (upd (upd (upd (upd (upd (upd (upd (upd (upd (upd (upd (upd (upd (upd (upd (fun _ => 0) 0 (((x1_.toUInt32 >>> ((24 : Int32).toUInt32 &&& Int32.toUInt32 31)).toInt32) &&& 255)) 1 (((x1_.toUInt32 >>> ((16 : Int32).toUInt32 &&& Int32.toUInt32 31)).toInt32) &&& 255)) 2 (((x1_.toUInt32 >>> ((8 : Int32).toUInt32 &&& Int32.toUInt32 31)).toInt32) &&& 255)) 3 (((x1_.toUInt32 >>> ((0 : Int32).toUInt32 &&& Int32.toUInt32 31)).toInt32) &&& 255)) 4 (((x2_.toUInt32 >>> ((24 : Int32).toUInt32 &&& Int32.toUInt32 31)).toInt32) &&& 255)) 5 (((x2_.toUInt32 >>> ((16 : Int32).toUInt32 &&& Int32.toUInt32 31)).toInt32) &&& 255)) 6 (((x2_.toUInt32 >>> ((8 : Int32).toUInt32 &&& Int32.toUInt32 31)).toInt32) &&& 255)) 7 (((x2_.toUInt32 >>> ((0 : Int32).toUInt32 &&& Int32.toUInt32 31)).toInt32) &&& 255)) 8 (((x3_.toUInt32 >>> ((24 : Int32).toUInt32 &&& Int32.toUInt32 31)).toInt32) &&& 255)) 9 (((x3_.toUInt32 >>> ((16 : Int32).toUInt32 &&& Int32.toUInt32 31)).toInt32) &&& 255)) 10 (((x3_.toUInt32 >>> ((8 : Int32).toUInt32 &&& Int32.toUInt32 31)).toInt32) &&& 255)) 11 (((x3_.toUInt32 >>> ((0 : Int32).toUInt32 &&& Int32.toUInt32 31)).toInt32) &&& 255)) 12 (((x4_.toUInt32 >>> ((24 : Int32).toUInt32 &&& Int32.toUInt32 31)).toInt32) &&& 255)) 13 (((x4_.toUInt32 >>> ((16 : Int32).toUInt32 &&& Int32.toUInt32 31)).toInt32) &&& 255)) 14 (((x4_.toUInt32 >>> ((8 : Int32).toUInt32 &&& Int32.toUInt32 31)).toInt32) &&& 255)) 15 (((x4_.toUInt32 >>> ((0 : Int32).toUInt32 &&& Int32.toUInt32 31)).toInt32) &&& 255)) 16 (((x0_.toUInt32 >>> ((24 : Int32).toUInt32 &&& Int32.toUInt32 31)).toInt32) &&& 255))))] H := hP
  have hD : va_D A [(a0_, .inr (14, [.ref a1_, .int 17, .ref a2_, .ref a3_, .ref a4_, .ref a5_, .int 0, .int (-1), .ref a6_, .ref a7_, .ref a8_, .ref a9_])), (a1_, .inl (cI, 4000, .inl (upd (upd (upd (upd (upd (upd (upd (upd (upd (upd (upd (upd (upd (upd (upd (upd (upd (fun _ => 0) 0 (((x1_.toUInt32 >>> ((24 : Int32).toUInt32 &&& Int32.toUInt32 31)).toInt32) &&& 255)) 1 (((x1_.toUInt32 >>> ((16 : Int32).toUInt32 &&& Int32.toUInt32 31)).toInt32) &&& 255)) 2 (((x1_.toUInt32 >>> ((8 : Int32).toUInt32 &&& Int32.toUInt32 31)).toInt32) &&& 255)) 3 (((x1_.toUInt32 >>> ((0 : Int32).toUInt32 &&& Int32.toUInt32 31)).toInt32) &&& 255)) 4 (((x2_.toUInt32 >>> ((24 : Int32).toUInt32 &&& Int32.toUInt32 31)).toInt32) &&& 255)) 5 (((x2_.toUInt32 >>> ((16 : Int32).toUInt32 &&& Int32.toUInt32 31)).toInt32) &&& 255)) 6 (((x2_.toUInt32 >>> ((8 : Int32).toUInt32 &&& Int32.toUInt32 31)).toInt32) &&& 255)) 7 (((x2_.toUInt32 >>> ((0 : Int32).toUInt32 &&& Int32.toUInt32 31)).toInt32) &&& 255)) 8 (((x3_.toUInt32 >>> ((24 : Int32).toUInt32 &&& Int32.toUInt32 31)).toInt32) &&& 255)) 9 (((x3_.toUInt32 >>> ((16 : Int32).toUInt32 &&& Int32.toUInt32 31)).toInt32) &&& 255)) 10 (((x3_.toUInt32 >>> ((8 : Int32).toUInt32 &&& Int32.toUInt32 31)).toInt32) &&& 255)) 11 (((x3_.toUInt32 >>> ((0 : Int32).toUInt32 &&& Int32.toUInt32 31)).toInt32) &&& 255)) 12 (((x4_.toUInt32 >>> ((24 : Int32).toUInt32 &&& Int32.toUInt32 31)).toInt32) &&& 255)) 13 (((x4_.toUInt32 >>> ((16 : Int32).toUInt32 &&& Int32.toUInt32 31)).toInt32) &&& 255)) 14 (((x4_.toUInt32 >>> ((8 : Int32).toUInt32 &&& Int32.toUInt32 31)).toInt32) &&& 255)) 15 (((x4_.toUInt32 >>> ((0 : Int32).toUInt32 &&& Int32.toUInt32 31)).toInt32) &&& 255)) 16 (((x0_.toUInt32 >>> ((24 : Int32).toUInt32 &&& Int32.toUInt32 31)).toInt32) &&& 255))))] := hD
  refine lv_iinc (v := 16) (lv' := [(2, .int 16), (0, .ref a0_), (1, .int x0_)]) hx hb dX11_tapeNumber_43 hl (k := 0) rfl (by decide) (by decide) rfl (fun ls hl => ?_)
  refine lv_goto (tgt := 3) hx hb dX11_tapeNumber_46 (by decide) ?_
  refine lv_iload_n hx hb dX11_tapeNumber_3 rfl (lv_at hl 0 rfl) ?_
  refine lv_if_lt (tgt := 49) hx hb dX11_tapeNumber_4 (by decide) (fun k3 => absurd k3 (by decide)) (fun _ => ?_)
  refine lv_aload_n hx hb dX11_tapeNumber_7 rfl (lv_at hl 1 rfl) ?_
  refine va_get (D := (dC, dI)) (ci := 14) (v := .int 17) (C := RX11) (T := TX11) (N := 12) hx hb ht itX11 hown hK hP 0 rfl rfl 1 (by decide) (ht _ tw_212) (fun _ h9 => h9) rfl dX11_tapeNumber_8 ?_
  refine lv_sipush (v := 4000) hx hb dX11_tapeNumber_11 (by decide) ?_
  refine lv_icmp_ge (tgt := 49) hx hb dX11_tapeNumber_14 (by decide) (fun k4 => absurd k4 (by decide)) (fun _ => ?_)
  refine lv_aload_n hx hb dX11_tapeNumber_17 rfl (lv_at hl 1 rfl) ?_
  refine va_get (D := (dC, dI)) (ci := 14) (v := .ref a1_) (C := RX11) (T := TX11) (N := 12) hx hb ht itX11 hown hK hP 0 rfl rfl 0 (by decide) (ht _ tw_85) (fun _ h9 => h9) rfl dX11_tapeNumber_18 ?_
  refine lv_aload_n hx hb dX11_tapeNumber_21 rfl (lv_at hl 1 rfl) ?_
  refine va_get (D := (dC, dI)) (ci := 14) (v := .int 17) (C := RX11) (T := TX11) (N := 12) hx hb ht itX11 hown hK hP 0 rfl rfl 1 (by decide) (ht _ tw_212) (fun _ h9 => h9) rfl dX11_tapeNumber_22 ?_
  refine lv_iload_n hx hb dX11_tapeNumber_25 rfl (lv_at hl 2 rfl) ?_
  refine lv_iload_n hx hb dX11_tapeNumber_26 rfl (lv_at hl 0 rfl) ?_
  refine lv_iushr hx hb dX11_tapeNumber_27 rfl ?_
  refine lv_sipush (v := 255) hx hb dX11_tapeNumber_28 (by decide) ?_
  refine lv_iand hx hb dX11_tapeNumber_31 ?_
  refine va_iast (D := (dC, dI)) hx hb hK hP hD hS 1 0 rfl rfl (vp_in_iff.mpr (by decide)) dX11_tapeNumber_32 (fun H locs hP hD hS => ?_)
  have hP : va_P (dC, dI) vwCl [(a0_, .inr (14, [.ref a1_, .int 17, .ref a2_, .ref a3_, .ref a4_, .ref a5_, .int 0, .int (-1), .ref a6_, .ref a7_, .ref a8_, .ref a9_])), (a1_, .inl (cI, 4000, .inl (upd (upd (upd (upd (upd (upd (upd (upd (upd (upd (upd (upd (upd (upd (upd (upd (upd (upd (fun _ => 0) 0 (((x1_.toUInt32 >>> ((24 : Int32).toUInt32 &&& Int32.toUInt32 31)).toInt32) &&& 255)) 1 (((x1_.toUInt32 >>> ((16 : Int32).toUInt32 &&& Int32.toUInt32 31)).toInt32) &&& 255)) 2 (((x1_.toUInt32 >>> ((8 : Int32).toUInt32 &&& Int32.toUInt32 31)).toInt32) &&& 255)) 3 (((x1_.toUInt32 >>> ((0 : Int32).toUInt32 &&& Int32.toUInt32 31)).toInt32) &&& 255)) 4 (((x2_.toUInt32 >>> ((24 : Int32).toUInt32 &&& Int32.toUInt32 31)).toInt32) &&& 255)) 5 (((x2_.toUInt32 >>> ((16 : Int32).toUInt32 &&& Int32.toUInt32 31)).toInt32) &&& 255)) 6 (((x2_.toUInt32 >>> ((8 : Int32).toUInt32 &&& Int32.toUInt32 31)).toInt32) &&& 255)) 7 (((x2_.toUInt32 >>> ((0 : Int32).toUInt32 &&& Int32.toUInt32 31)).toInt32) &&& 255)) 8 (((x3_.toUInt32 >>> ((24 : Int32).toUInt32 &&& Int32.toUInt32 31)).toInt32) &&& 255)) 9 (((x3_.toUInt32 >>> ((16 : Int32).toUInt32 &&& Int32.toUInt32 31)).toInt32) &&& 255)) 10 (((x3_.toUInt32 >>> ((8 : Int32).toUInt32 &&& Int32.toUInt32 31)).toInt32) &&& 255)) 11 (((x3_.toUInt32 >>> ((0 : Int32).toUInt32 &&& Int32.toUInt32 31)).toInt32) &&& 255)) 12 (((x4_.toUInt32 >>> ((24 : Int32).toUInt32 &&& Int32.toUInt32 31)).toInt32) &&& 255)) 13 (((x4_.toUInt32 >>> ((16 : Int32).toUInt32 &&& Int32.toUInt32 31)).toInt32) &&& 255)) 14 (((x4_.toUInt32 >>> ((8 : Int32).toUInt32 &&& Int32.toUInt32 31)).toInt32) &&& 255)) 15 (((x4_.toUInt32 >>> ((0 : Int32).toUInt32 &&& Int32.toUInt32 31)).toInt32) &&& 255)) 16 (((x0_.toUInt32 >>> ((24 : Int32).toUInt32 &&& Int32.toUInt32 31)).toInt32) &&& 255)) 17 (((x0_.toUInt32 >>> ((16 : Int32).toUInt32 &&& Int32.toUInt32 31)).toInt32) &&& 255))))] H := hP
  have hD : va_D A [(a0_, .inr (14, [.ref a1_, .int 17, .ref a2_, .ref a3_, .ref a4_, .ref a5_, .int 0, .int (-1), .ref a6_, .ref a7_, .ref a8_, .ref a9_])), (a1_, .inl (cI, 4000, .inl (upd (upd (upd (upd (upd (upd (upd (upd (upd (upd (upd (upd (upd (upd (upd (upd (upd (upd (fun _ => 0) 0 (((x1_.toUInt32 >>> ((24 : Int32).toUInt32 &&& Int32.toUInt32 31)).toInt32) &&& 255)) 1 (((x1_.toUInt32 >>> ((16 : Int32).toUInt32 &&& Int32.toUInt32 31)).toInt32) &&& 255)) 2 (((x1_.toUInt32 >>> ((8 : Int32).toUInt32 &&& Int32.toUInt32 31)).toInt32) &&& 255)) 3 (((x1_.toUInt32 >>> ((0 : Int32).toUInt32 &&& Int32.toUInt32 31)).toInt32) &&& 255)) 4 (((x2_.toUInt32 >>> ((24 : Int32).toUInt32 &&& Int32.toUInt32 31)).toInt32) &&& 255)) 5 (((x2_.toUInt32 >>> ((16 : Int32).toUInt32 &&& Int32.toUInt32 31)).toInt32) &&& 255)) 6 (((x2_.toUInt32 >>> ((8 : Int32).toUInt32 &&& Int32.toUInt32 31)).toInt32) &&& 255)) 7 (((x2_.toUInt32 >>> ((0 : Int32).toUInt32 &&& Int32.toUInt32 31)).toInt32) &&& 255)) 8 (((x3_.toUInt32 >>> ((24 : Int32).toUInt32 &&& Int32.toUInt32 31)).toInt32) &&& 255)) 9 (((x3_.toUInt32 >>> ((16 : Int32).toUInt32 &&& Int32.toUInt32 31)).toInt32) &&& 255)) 10 (((x3_.toUInt32 >>> ((8 : Int32).toUInt32 &&& Int32.toUInt32 31)).toInt32) &&& 255)) 11 (((x3_.toUInt32 >>> ((0 : Int32).toUInt32 &&& Int32.toUInt32 31)).toInt32) &&& 255)) 12 (((x4_.toUInt32 >>> ((24 : Int32).toUInt32 &&& Int32.toUInt32 31)).toInt32) &&& 255)) 13 (((x4_.toUInt32 >>> ((16 : Int32).toUInt32 &&& Int32.toUInt32 31)).toInt32) &&& 255)) 14 (((x4_.toUInt32 >>> ((8 : Int32).toUInt32 &&& Int32.toUInt32 31)).toInt32) &&& 255)) 15 (((x4_.toUInt32 >>> ((0 : Int32).toUInt32 &&& Int32.toUInt32 31)).toInt32) &&& 255)) 16 (((x0_.toUInt32 >>> ((24 : Int32).toUInt32 &&& Int32.toUInt32 31)).toInt32) &&& 255)) 17 (((x0_.toUInt32 >>> ((16 : Int32).toUInt32 &&& Int32.toUInt32 31)).toInt32) &&& 255))))] := hD
  refine lv_aload_n hx hb dX11_tapeNumber_33 rfl (lv_at hl 1 rfl) ?_
  refine lv_dup hx hb dX11_tapeNumber_34 rfl ?_
  refine va_get (D := (dC, dI)) (ci := 14) (v := .int 17) (C := RX11) (T := TX11) (N := 12) hx hb ht itX11 hown hK hP 0 rfl rfl 1 (by decide) (ht _ tw_212) (fun _ h9 => h9) rfl dX11_tapeNumber_35 ?_
  refine lv_iconst (v := 1) hx hb dX11_tapeNumber_38 (by decide) ?_
  refine lv_iadd hx hb dX11_tapeNumber_39 ?_
  refine tp_i (y := 18) (by decide) ?_
  refine va_put (D := (dC, dI)) (ci := 14) (v := .int 18) (ty := .int) (C := RX11) (T := TX11) (N := 12) hx hb ht itX11 tyX11 tyX11_ok nmX11 hown hK hP hD hS 0 rfl rfl 1 (by decide) (ht _ tw_212) (fun _ h9 => h9) rfl (by decide +kernel) rfl rfl (Nat.le_of_ble_eq_true rfl) dX11_tapeNumber_40 (fun H locs hP hD hS => ?_)
  have hP : va_P (dC, dI) vwCl [(a0_, .inr (14, [.ref a1_, .int 18, .ref a2_, .ref a3_, .ref a4_, .ref a5_, .int 0, .int (-1), .ref a6_, .ref a7_, .ref a8_, .ref a9_])), (a1_, .inl (cI, 4000, .inl (upd (upd (upd (upd (upd (upd (upd (upd (upd (upd (upd (upd (upd (upd (upd (upd (upd (upd (fun _ => 0) 0 (((x1_.toUInt32 >>> ((24 : Int32).toUInt32 &&& Int32.toUInt32 31)).toInt32) &&& 255)) 1 (((x1_.toUInt32 >>> ((16 : Int32).toUInt32 &&& Int32.toUInt32 31)).toInt32) &&& 255)) 2 (((x1_.toUInt32 >>> ((8 : Int32).toUInt32 &&& Int32.toUInt32 31)).toInt32) &&& 255)) 3 (((x1_.toUInt32 >>> ((0 : Int32).toUInt32 &&& Int32.toUInt32 31)).toInt32) &&& 255)) 4 (((x2_.toUInt32 >>> ((24 : Int32).toUInt32 &&& Int32.toUInt32 31)).toInt32) &&& 255)) 5 (((x2_.toUInt32 >>> ((16 : Int32).toUInt32 &&& Int32.toUInt32 31)).toInt32) &&& 255)) 6 (((x2_.toUInt32 >>> ((8 : Int32).toUInt32 &&& Int32.toUInt32 31)).toInt32) &&& 255)) 7 (((x2_.toUInt32 >>> ((0 : Int32).toUInt32 &&& Int32.toUInt32 31)).toInt32) &&& 255)) 8 (((x3_.toUInt32 >>> ((24 : Int32).toUInt32 &&& Int32.toUInt32 31)).toInt32) &&& 255)) 9 (((x3_.toUInt32 >>> ((16 : Int32).toUInt32 &&& Int32.toUInt32 31)).toInt32) &&& 255)) 10 (((x3_.toUInt32 >>> ((8 : Int32).toUInt32 &&& Int32.toUInt32 31)).toInt32) &&& 255)) 11 (((x3_.toUInt32 >>> ((0 : Int32).toUInt32 &&& Int32.toUInt32 31)).toInt32) &&& 255)) 12 (((x4_.toUInt32 >>> ((24 : Int32).toUInt32 &&& Int32.toUInt32 31)).toInt32) &&& 255)) 13 (((x4_.toUInt32 >>> ((16 : Int32).toUInt32 &&& Int32.toUInt32 31)).toInt32) &&& 255)) 14 (((x4_.toUInt32 >>> ((8 : Int32).toUInt32 &&& Int32.toUInt32 31)).toInt32) &&& 255)) 15 (((x4_.toUInt32 >>> ((0 : Int32).toUInt32 &&& Int32.toUInt32 31)).toInt32) &&& 255)) 16 (((x0_.toUInt32 >>> ((24 : Int32).toUInt32 &&& Int32.toUInt32 31)).toInt32) &&& 255)) 17 (((x0_.toUInt32 >>> ((16 : Int32).toUInt32 &&& Int32.toUInt32 31)).toInt32) &&& 255))))] H := hP
  have hD : va_D A [(a0_, .inr (14, [.ref a1_, .int 18, .ref a2_, .ref a3_, .ref a4_, .ref a5_, .int 0, .int (-1), .ref a6_, .ref a7_, .ref a8_, .ref a9_])), (a1_, .inl (cI, 4000, .inl (upd (upd (upd (upd (upd (upd (upd (upd (upd (upd (upd (upd (upd (upd (upd (upd (upd (upd (fun _ => 0) 0 (((x1_.toUInt32 >>> ((24 : Int32).toUInt32 &&& Int32.toUInt32 31)).toInt32) &&& 255)) 1 (((x1_.toUInt32 >>> ((16 : Int32).toUInt32 &&& Int32.toUInt32 31)).toInt32) &&& 255)) 2 (((x1_.toUInt32 >>> ((8 : Int32).toUInt32 &&& Int32.toUInt32 31)).toInt32) &&& 255)) 3 (((x1_.toUInt32 >>> ((0 : Int32).toUInt32 &&& Int32.toUInt32 31)).toInt32) &&& 255)) 4 (((x2_.toUInt32 >>> ((24 : Int32).toUInt32 &&& Int32.toUInt32 31)).toInt32) &&& 255)) 5 (((x2_.toUInt32 >>> ((16 : Int32).toUInt32 &&& Int32.toUInt32 31)).toInt32) &&& 255)) 6 (((x2_.toUInt32 >>> ((8 : Int32).toUInt32 &&& Int32.toUInt32 31)).toInt32) &&& 255)) 7 (((x2_.toUInt32 >>> ((0 : Int32).toUInt32 &&& Int32.toUInt32 31)).toInt32) &&& 255)) 8 (((x3_.toUInt32 >>> ((24 : Int32).toUInt32 &&& Int32.toUInt32 31)).toInt32) &&& 255)) 9 (((x3_.toUInt32 >>> ((16 : Int32).toUInt32 &&& Int32.toUInt32 31)).toInt32) &&& 255)) 10 (((x3_.toUInt32 >>> ((8 : Int32).toUInt32 &&& Int32.toUInt32 31)).toInt32) &&& 255)) 11 (((x3_.toUInt32 >>> ((0 : Int32).toUInt32 &&& Int32.toUInt32 31)).toInt32) &&& 255)) 12 (((x4_.toUInt32 >>> ((24 : Int32).toUInt32 &&& Int32.toUInt32 31)).toInt32) &&& 255)) 13 (((x4_.toUInt32 >>> ((16 : Int32).toUInt32 &&& Int32.toUInt32 31)).toInt32) &&& 255)) 14 (((x4_.toUInt32 >>> ((8 : Int32).toUInt32 &&& Int32.toUInt32 31)).toInt32) &&& 255)) 15 (((x4_.toUInt32 >>> ((0 : Int32).toUInt32 &&& Int32.toUInt32 31)).toInt32) &&& 255)) 16 (((x0_.toUInt32 >>> ((24 : Int32).toUInt32 &&& Int32.toUInt32 31)).toInt32) &&& 255)) 17 (((x0_.toUInt32 >>> ((16 : Int32).toUInt32 &&& Int32.toUInt32 31)).toInt32) &&& 255))))] := hD
  refine lv_iinc (v := 8) (lv' := [(2, .int 8), (0, .ref a0_), (1, .int x0_)]) hx hb dX11_tapeNumber_43 hl (k := 0) rfl (by decide) (by decide) rfl (fun ls hl => ?_)
  refine lv_goto (tgt := 3) hx hb dX11_tapeNumber_46 (by decide) ?_
  refine lv_iload_n hx hb dX11_tapeNumber_3 rfl (lv_at hl 0 rfl) ?_
  refine lv_if_lt (tgt := 49) hx hb dX11_tapeNumber_4 (by decide) (fun k5 => absurd k5 (by decide)) (fun _ => ?_)
  refine lv_aload_n hx hb dX11_tapeNumber_7 rfl (lv_at hl 1 rfl) ?_
  refine va_get (D := (dC, dI)) (ci := 14) (v := .int 18) (C := RX11) (T := TX11) (N := 12) hx hb ht itX11 hown hK hP 0 rfl rfl 1 (by decide) (ht _ tw_212) (fun _ h9 => h9) rfl dX11_tapeNumber_8 ?_
  refine lv_sipush (v := 4000) hx hb dX11_tapeNumber_11 (by decide) ?_
  refine lv_icmp_ge (tgt := 49) hx hb dX11_tapeNumber_14 (by decide) (fun k6 => absurd k6 (by decide)) (fun _ => ?_)
  refine lv_aload_n hx hb dX11_tapeNumber_17 rfl (lv_at hl 1 rfl) ?_
  refine va_get (D := (dC, dI)) (ci := 14) (v := .ref a1_) (C := RX11) (T := TX11) (N := 12) hx hb ht itX11 hown hK hP 0 rfl rfl 0 (by decide) (ht _ tw_85) (fun _ h9 => h9) rfl dX11_tapeNumber_18 ?_
  refine lv_aload_n hx hb dX11_tapeNumber_21 rfl (lv_at hl 1 rfl) ?_
  refine va_get (D := (dC, dI)) (ci := 14) (v := .int 18) (C := RX11) (T := TX11) (N := 12) hx hb ht itX11 hown hK hP 0 rfl rfl 1 (by decide) (ht _ tw_212) (fun _ h9 => h9) rfl dX11_tapeNumber_22 ?_
  refine lv_iload_n hx hb dX11_tapeNumber_25 rfl (lv_at hl 2 rfl) ?_
  refine lv_iload_n hx hb dX11_tapeNumber_26 rfl (lv_at hl 0 rfl) ?_
  refine lv_iushr hx hb dX11_tapeNumber_27 rfl ?_
  refine lv_sipush (v := 255) hx hb dX11_tapeNumber_28 (by decide) ?_
  refine lv_iand hx hb dX11_tapeNumber_31 ?_
  refine va_iast (D := (dC, dI)) hx hb hK hP hD hS 1 0 rfl rfl (vp_in_iff.mpr (by decide)) dX11_tapeNumber_32 (fun H locs hP hD hS => ?_)
  have hP : va_P (dC, dI) vwCl [(a0_, .inr (14, [.ref a1_, .int 18, .ref a2_, .ref a3_, .ref a4_, .ref a5_, .int 0, .int (-1), .ref a6_, .ref a7_, .ref a8_, .ref a9_])), (a1_, .inl (cI, 4000, .inl (upd (upd (upd (upd (upd (upd (upd (upd (upd (upd (upd (upd (upd (upd (upd (upd (upd (upd (upd (fun _ => 0) 0 (((x1_.toUInt32 >>> ((24 : Int32).toUInt32 &&& Int32.toUInt32 31)).toInt32) &&& 255)) 1 (((x1_.toUInt32 >>> ((16 : Int32).toUInt32 &&& Int32.toUInt32 31)).toInt32) &&& 255)) 2 (((x1_.toUInt32 >>> ((8 : Int32).toUInt32 &&& Int32.toUInt32 31)).toInt32) &&& 255)) 3 (((x1_.toUInt32 >>> ((0 : Int32).toUInt32 &&& Int32.toUInt32 31)).toInt32) &&& 255)) 4 (((x2_.toUInt32 >>> ((24 : Int32).toUInt32 &&& Int32.toUInt32 31)).toInt32) &&& 255)) 5 (((x2_.toUInt32 >>> ((16 : Int32).toUInt32 &&& Int32.toUInt32 31)).toInt32) &&& 255)) 6 (((x2_.toUInt32 >>> ((8 : Int32).toUInt32 &&& Int32.toUInt32 31)).toInt32) &&& 255)) 7 (((x2_.toUInt32 >>> ((0 : Int32).toUInt32 &&& Int32.toUInt32 31)).toInt32) &&& 255)) 8 (((x3_.toUInt32 >>> ((24 : Int32).toUInt32 &&& Int32.toUInt32 31)).toInt32) &&& 255)) 9 (((x3_.toUInt32 >>> ((16 : Int32).toUInt32 &&& Int32.toUInt32 31)).toInt32) &&& 255)) 10 (((x3_.toUInt32 >>> ((8 : Int32).toUInt32 &&& Int32.toUInt32 31)).toInt32) &&& 255)) 11 (((x3_.toUInt32 >>> ((0 : Int32).toUInt32 &&& Int32.toUInt32 31)).toInt32) &&& 255)) 12 (((x4_.toUInt32 >>> ((24 : Int32).toUInt32 &&& Int32.toUInt32 31)).toInt32) &&& 255)) 13 (((x4_.toUInt32 >>> ((16 : Int32).toUInt32 &&& Int32.toUInt32 31)).toInt32) &&& 255)) 14 (((x4_.toUInt32 >>> ((8 : Int32).toUInt32 &&& Int32.toUInt32 31)).toInt32) &&& 255)) 15 (((x4_.toUInt32 >>> ((0 : Int32).toUInt32 &&& Int32.toUInt32 31)).toInt32) &&& 255)) 16 (((x0_.toUInt32 >>> ((24 : Int32).toUInt32 &&& Int32.toUInt32 31)).toInt32) &&& 255)) 17 (((x0_.toUInt32 >>> ((16 : Int32).toUInt32 &&& Int32.toUInt32 31)).toInt32) &&& 255)) 18 (((x0_.toUInt32 >>> ((8 : Int32).toUInt32 &&& Int32.toUInt32 31)).toInt32) &&& 255))))] H := hP
  have hD : va_D A [(a0_, .inr (14, [.ref a1_, .int 18, .ref a2_, .ref a3_, .ref a4_, .ref a5_, .int 0, .int (-1), .ref a6_, .ref a7_, .ref a8_, .ref a9_])), (a1_, .inl (cI, 4000, .inl (upd (upd (upd (upd (upd (upd (upd (upd (upd (upd (upd (upd (upd (upd (upd (upd (upd (upd (upd (fun _ => 0) 0 (((x1_.toUInt32 >>> ((24 : Int32).toUInt32 &&& Int32.toUInt32 31)).toInt32) &&& 255)) 1 (((x1_.toUInt32 >>> ((16 : Int32).toUInt32 &&& Int32.toUInt32 31)).toInt32) &&& 255)) 2 (((x1_.toUInt32 >>> ((8 : Int32).toUInt32 &&& Int32.toUInt32 31)).toInt32) &&& 255)) 3 (((x1_.toUInt32 >>> ((0 : Int32).toUInt32 &&& Int32.toUInt32 31)).toInt32) &&& 255)) 4 (((x2_.toUInt32 >>> ((24 : Int32).toUInt32 &&& Int32.toUInt32 31)).toInt32) &&& 255)) 5 (((x2_.toUInt32 >>> ((16 : Int32).toUInt32 &&& Int32.toUInt32 31)).toInt32) &&& 255)) 6 (((x2_.toUInt32 >>> ((8 : Int32).toUInt32 &&& Int32.toUInt32 31)).toInt32) &&& 255)) 7 (((x2_.toUInt32 >>> ((0 : Int32).toUInt32 &&& Int32.toUInt32 31)).toInt32) &&& 255)) 8 (((x3_.toUInt32 >>> ((24 : Int32).toUInt32 &&& Int32.toUInt32 31)).toInt32) &&& 255)) 9 (((x3_.toUInt32 >>> ((16 : Int32).toUInt32 &&& Int32.toUInt32 31)).toInt32) &&& 255)) 10 (((x3_.toUInt32 >>> ((8 : Int32).toUInt32 &&& Int32.toUInt32 31)).toInt32) &&& 255)) 11 (((x3_.toUInt32 >>> ((0 : Int32).toUInt32 &&& Int32.toUInt32 31)).toInt32) &&& 255)) 12 (((x4_.toUInt32 >>> ((24 : Int32).toUInt32 &&& Int32.toUInt32 31)).toInt32) &&& 255)) 13 (((x4_.toUInt32 >>> ((16 : Int32).toUInt32 &&& Int32.toUInt32 31)).toInt32) &&& 255)) 14 (((x4_.toUInt32 >>> ((8 : Int32).toUInt32 &&& Int32.toUInt32 31)).toInt32) &&& 255)) 15 (((x4_.toUInt32 >>> ((0 : Int32).toUInt32 &&& Int32.toUInt32 31)).toInt32) &&& 255)) 16 (((x0_.toUInt32 >>> ((24 : Int32).toUInt32 &&& Int32.toUInt32 31)).toInt32) &&& 255)) 17 (((x0_.toUInt32 >>> ((16 : Int32).toUInt32 &&& Int32.toUInt32 31)).toInt32) &&& 255)) 18 (((x0_.toUInt32 >>> ((8 : Int32).toUInt32 &&& Int32.toUInt32 31)).toInt32) &&& 255))))] := hD
  refine lv_aload_n hx hb dX11_tapeNumber_33 rfl (lv_at hl 1 rfl) ?_
  refine lv_dup hx hb dX11_tapeNumber_34 rfl ?_
  refine va_get (D := (dC, dI)) (ci := 14) (v := .int 18) (C := RX11) (T := TX11) (N := 12) hx hb ht itX11 hown hK hP 0 rfl rfl 1 (by decide) (ht _ tw_212) (fun _ h9 => h9) rfl dX11_tapeNumber_35 ?_
  refine lv_iconst (v := 1) hx hb dX11_tapeNumber_38 (by decide) ?_
  refine lv_iadd hx hb dX11_tapeNumber_39 ?_
  refine tp_i (y := 19) (by decide) ?_
  refine va_put (D := (dC, dI)) (ci := 14) (v := .int 19) (ty := .int) (C := RX11) (T := TX11) (N := 12) hx hb ht itX11 tyX11 tyX11_ok nmX11 hown hK hP hD hS 0 rfl rfl 1 (by decide) (ht _ tw_212) (fun _ h9 => h9) rfl (by decide +kernel) rfl rfl (Nat.le_of_ble_eq_true rfl) dX11_tapeNumber_40 (fun H locs hP hD hS => ?_)
  have hP : va_P (dC, dI) vwCl [(a0_, .inr (14, [.ref a1_, .int 19, .ref a2_, .ref a3_, .ref a4_, .ref a5_, .int 0, .int (-1), .ref a6_, .ref a7_, .ref a8_, .ref a9_])), (a1_, .inl (cI, 4000, .inl (upd (upd (upd (upd (upd (upd (upd (upd (upd (upd (upd (upd (upd (upd (upd (upd (upd (upd (upd (fun _ => 0) 0 (((x1_.toUInt32 >>> ((24 : Int32).toUInt32 &&& Int32.toUInt32 31)).toInt32) &&& 255)) 1 (((x1_.toUInt32 >>> ((16 : Int32).toUInt32 &&& Int32.toUInt32 31)).toInt32) &&& 255)) 2 (((x1_.toUInt32 >>> ((8 : Int32).toUInt32 &&& Int32.toUInt32 31)).toInt32) &&& 255)) 3 (((x1_.toUInt32 >>> ((0 : Int32).toUInt32 &&& Int32.toUInt32 31)).toInt32) &&& 255)) 4 (((x2_.toUInt32 >>> ((24 : Int32).toUInt32 &&& Int32.toUInt32 31)).toInt32) &&& 255)) 5 (((x2_.toUInt32 >>> ((16 : Int32).toUInt32 &&& Int32.toUInt32 31)).toInt32) &&& 255)) 6 (((x2_.toUInt32 >>> ((8 : Int32).toUInt32 &&& Int32.toUInt32 31)).toInt32) &&& 255)) 7 (((x2_.toUInt32 >>> ((0 : Int32).toUInt32 &&& Int32.toUInt32 31)).toInt32) &&& 255)) 8 (((x3_.toUInt32 >>> ((24 : Int32).toUInt32 &&& Int32.toUInt32 31)).toInt32) &&& 255)) 9 (((x3_.toUInt32 >>> ((16 : Int32).toUInt32 &&& Int32.toUInt32 31)).toInt32) &&& 255)) 10 (((x3_.toUInt32 >>> ((8 : Int32).toUInt32 &&& Int32.toUInt32 31)).toInt32) &&& 255)) 11 (((x3_.toUInt32 >>> ((0 : Int32).toUInt32 &&& Int32.toUInt32 31)).toInt32) &&& 255)) 12 (((x4_.toUInt32 >>> ((24 : Int32).toUInt32 &&& Int32.toUInt32 31)).toInt32) &&& 255)) 13 (((x4_.toUInt32 >>> ((16 : Int32).toUInt32 &&& Int32.toUInt32 31)).toInt32) &&& 255)) 14 (((x4_.toUInt32 >>> ((8 : Int32).toUInt32 &&& Int32.toUInt32 31)).toInt32) &&& 255)) 15 (((x4_.toUInt32 >>> ((0 : Int32).toUInt32 &&& Int32.toUInt32 31)).toInt32) &&& 255)) 16 (((x0_.toUInt32 >>> ((24 : Int32).toUInt32 &&& Int32.toUInt32 31)).toInt32) &&& 255)) 17 (((x0_.toUInt32 >>> ((16 : Int32).toUInt32 &&& Int32.toUInt32 31)).toInt32) &&& 255)) 18 (((x0_.toUInt32 >>> ((8 : Int32).toUInt32 &&& Int32.toUInt32 31)).toInt32) &&& 255))))] H := hP
  have hD : va_D A [(a0_, .inr (14, [.ref a1_, .int 19, .ref a2_, .ref a3_, .ref a4_, .ref a5_, .int 0, .int (-1), .ref a6_, .ref a7_, .ref a8_, .ref a9_])), (a1_, .inl (cI, 4000, .inl (upd (upd (upd (upd (upd (upd (upd (upd (upd (upd (upd (upd (upd (upd (upd (upd (upd (upd (upd (fun _ => 0) 0 (((x1_.toUInt32 >>> ((24 : Int32).toUInt32 &&& Int32.toUInt32 31)).toInt32) &&& 255)) 1 (((x1_.toUInt32 >>> ((16 : Int32).toUInt32 &&& Int32.toUInt32 31)).toInt32) &&& 255)) 2 (((x1_.toUInt32 >>> ((8 : Int32).toUInt32 &&& Int32.toUInt32 31)).toInt32) &&& 255)) 3 (((x1_.toUInt32 >>> ((0 : Int32).toUInt32 &&& Int32.toUInt32 31)).toInt32) &&& 255)) 4 (((x2_.toUInt32 >>> ((24 : Int32).toUInt32 &&& Int32.toUInt32 31)).toInt32) &&& 255)) 5 (((x2_.toUInt32 >>> ((16 : Int32).toUInt32 &&& Int32.toUInt32 31)).toInt32) &&& 255)) 6 (((x2_.toUInt32 >>> ((8 : Int32).toUInt32 &&& Int32.toUInt32 31)).toInt32) &&& 255)) 7 (((x2_.toUInt32 >>> ((0 : Int32).toUInt32 &&& Int32.toUInt32 31)).toInt32) &&& 255)) 8 (((x3_.toUInt32 >>> ((24 : Int32).toUInt32 &&& Int32.toUInt32 31)).toInt32) &&& 255)) 9 (((x3_.toUInt32 >>> ((16 : Int32).toUInt32 &&& Int32.toUInt32 31)).toInt32) &&& 255)) 10 (((x3_.toUInt32 >>> ((8 : Int32).toUInt32 &&& Int32.toUInt32 31)).toInt32) &&& 255)) 11 (((x3_.toUInt32 >>> ((0 : Int32).toUInt32 &&& Int32.toUInt32 31)).toInt32) &&& 255)) 12 (((x4_.toUInt32 >>> ((24 : Int32).toUInt32 &&& Int32.toUInt32 31)).toInt32) &&& 255)) 13 (((x4_.toUInt32 >>> ((16 : Int32).toUInt32 &&& Int32.toUInt32 31)).toInt32) &&& 255)) 14 (((x4_.toUInt32 >>> ((8 : Int32).toUInt32 &&& Int32.toUInt32 31)).toInt32) &&& 255)) 15 (((x4_.toUInt32 >>> ((0 : Int32).toUInt32 &&& Int32.toUInt32 31)).toInt32) &&& 255)) 16 (((x0_.toUInt32 >>> ((24 : Int32).toUInt32 &&& Int32.toUInt32 31)).toInt32) &&& 255)) 17 (((x0_.toUInt32 >>> ((16 : Int32).toUInt32 &&& Int32.toUInt32 31)).toInt32) &&& 255)) 18 (((x0_.toUInt32 >>> ((8 : Int32).toUInt32 &&& Int32.toUInt32 31)).toInt32) &&& 255))))] := hD
  refine lv_iinc (v := 0) (lv' := [(2, .int 0), (0, .ref a0_), (1, .int x0_)]) hx hb dX11_tapeNumber_43 hl (k := 0) rfl (by decide) (by decide) rfl (fun ls hl => ?_)
  refine lv_goto (tgt := 3) hx hb dX11_tapeNumber_46 (by decide) ?_
  refine lv_iload_n hx hb dX11_tapeNumber_3 rfl (lv_at hl 0 rfl) ?_
  refine lv_if_lt (tgt := 49) hx hb dX11_tapeNumber_4 (by decide) (fun k7 => absurd k7 (by decide)) (fun _ => ?_)
  refine lv_aload_n hx hb dX11_tapeNumber_7 rfl (lv_at hl 1 rfl) ?_
  refine va_get (D := (dC, dI)) (ci := 14) (v := .int 19) (C := RX11) (T := TX11) (N := 12) hx hb ht itX11 hown hK hP 0 rfl rfl 1 (by decide) (ht _ tw_212) (fun _ h9 => h9) rfl dX11_tapeNumber_8 ?_
  refine lv_sipush (v := 4000) hx hb dX11_tapeNumber_11 (by decide) ?_
  refine lv_icmp_ge (tgt := 49) hx hb dX11_tapeNumber_14 (by decide) (fun k8 => absurd k8 (by decide)) (fun _ => ?_)
  refine lv_aload_n hx hb dX11_tapeNumber_17 rfl (lv_at hl 1 rfl) ?_
  refine va_get (D := (dC, dI)) (ci := 14) (v := .ref a1_) (C := RX11) (T := TX11) (N := 12) hx hb ht itX11 hown hK hP 0 rfl rfl 0 (by decide) (ht _ tw_85) (fun _ h9 => h9) rfl dX11_tapeNumber_18 ?_
  refine lv_aload_n hx hb dX11_tapeNumber_21 rfl (lv_at hl 1 rfl) ?_
  refine va_get (D := (dC, dI)) (ci := 14) (v := .int 19) (C := RX11) (T := TX11) (N := 12) hx hb ht itX11 hown hK hP 0 rfl rfl 1 (by decide) (ht _ tw_212) (fun _ h9 => h9) rfl dX11_tapeNumber_22 ?_
  refine lv_iload_n hx hb dX11_tapeNumber_25 rfl (lv_at hl 2 rfl) ?_
  refine lv_iload_n hx hb dX11_tapeNumber_26 rfl (lv_at hl 0 rfl) ?_
  refine lv_iushr hx hb dX11_tapeNumber_27 rfl ?_
  refine lv_sipush (v := 255) hx hb dX11_tapeNumber_28 (by decide) ?_
  refine lv_iand hx hb dX11_tapeNumber_31 ?_
  refine va_iast (D := (dC, dI)) hx hb hK hP hD hS 1 0 rfl rfl (vp_in_iff.mpr (by decide)) dX11_tapeNumber_32 (fun H locs hP hD hS => ?_)
  have hP : va_P (dC, dI) vwCl [(a0_, .inr (14, [.ref a1_, .int 19, .ref a2_, .ref a3_, .ref a4_, .ref a5_, .int 0, .int (-1), .ref a6_, .ref a7_, .ref a8_, .ref a9_])), (a1_, .inl (cI, 4000, .inl (upd (upd (upd (upd (upd (upd (upd (upd (upd (upd (upd (upd (upd (upd (upd (upd (upd (upd (upd (upd (fun _ => 0) 0 (((x1_.toUInt32 >>> ((24 : Int32).toUInt32 &&& Int32.toUInt32 31)).toInt32) &&& 255)) 1 (((x1_.toUInt32 >>> ((16 : Int32).toUInt32 &&& Int32.toUInt32 31)).toInt32) &&& 255)) 2 (((x1_.toUInt32 >>> ((8 : Int32).toUInt32 &&& Int32.toUInt32 31)).toInt32) &&& 255)) 3 (((x1_.toUInt32 >>> ((0 : Int32).toUInt32 &&& Int32.toUInt32 31)).toInt32) &&& 255)) 4 (((x2_.toUInt32 >>> ((24 : Int32).toUInt32 &&& Int32.toUInt32 31)).toInt32) &&& 255)) 5 (((x2_.toUInt32 >>> ((16 : Int32).toUInt32 &&& Int32.toUInt32 31)).toInt32) &&& 255)) 6 (((x2_.toUInt32 >>> ((8 : Int32).toUInt32 &&& Int32.toUInt32 31)).toInt32) &&& 255)) 7 (((x2_.toUInt32 >>> ((0 : Int32).toUInt32 &&& Int32.toUInt32 31)).toInt32) &&& 255)) 8 (((x3_.toUInt32 >>> ((24 : Int32).toUInt32 &&& Int32.toUInt32 31)).toInt32) &&& 255)) 9 (((x3_.toUInt32 >>> ((16 : Int32).toUInt32 &&& Int32.toUInt32 31)).toInt32) &&& 255)) 10 (((x3_.toUInt32 >>> ((8 : Int32).toUInt32 &&& Int32.toUInt32 31)).toInt32) &&& 255)) 11 (((x3_.toUInt32 >>> ((0 : Int32).toUInt32 &&& Int32.toUInt32 31)).toInt32) &&& 255)) 12 (((x4_.toUInt32 >>> ((24 : Int32).toUInt32 &&& Int32.toUInt32 31)).toInt32) &&& 255)) 13 (((x4_.toUInt32 >>> ((16 : Int32).toUInt32 &&& Int32.toUInt32 31)).toInt32) &&& 255)) 14 (((x4_.toUInt32 >>> ((8 : Int32).toUInt32 &&& Int32.toUInt32 31)).toInt32) &&& 255)) 15 (((x4_.toUInt32 >>> ((0 : Int32).toUInt32 &&& Int32.toUInt32 31)).toInt32) &&& 255)) 16 (((x0_.toUInt32 >>> ((24 : Int32).toUInt32 &&& Int32.toUInt32 31)).toInt32) &&& 255)) 17 (((x0_.toUInt32 >>> ((16 : Int32).toUInt32 &&& Int32.toUInt32 31)).toInt32) &&& 255)) 18 (((x0_.toUInt32 >>> ((8 : Int32).toUInt32 &&& Int32.toUInt32 31)).toInt32) &&& 255)) 19 (((x0_.toUInt32 >>> ((0 : Int32).toUInt32 &&& Int32.toUInt32 31)).toInt32) &&& 255))))] H := hP
  have hD : va_D A [(a0_, .inr (14, [.ref a1_, .int 19, .ref a2_, .ref a3_, .ref a4_, .ref a5_, .int 0, .int (-1), .ref a6_, .ref a7_, .ref a8_, .ref a9_])), (a1_, .inl (cI, 4000, .inl (upd (upd (upd (upd (upd (upd (upd (upd (upd (upd (upd (upd (upd (upd (upd (upd (upd (upd (upd (upd (fun _ => 0) 0 (((x1_.toUInt32 >>> ((24 : Int32).toUInt32 &&& Int32.toUInt32 31)).toInt32) &&& 255)) 1 (((x1_.toUInt32 >>> ((16 : Int32).toUInt32 &&& Int32.toUInt32 31)).toInt32) &&& 255)) 2 (((x1_.toUInt32 >>> ((8 : Int32).toUInt32 &&& Int32.toUInt32 31)).toInt32) &&& 255)) 3 (((x1_.toUInt32 >>> ((0 : Int32).toUInt32 &&& Int32.toUInt32 31)).toInt32) &&& 255)) 4 (((x2_.toUInt32 >>> ((24 : Int32).toUInt32 &&& Int32.toUInt32 31)).toInt32) &&& 255)) 5 (((x2_.toUInt32 >>> ((16 : Int32).toUInt32 &&& Int32.toUInt32 31)).toInt32) &&& 255)) 6 (((x2_.toUInt32 >>> ((8 : Int32).toUInt32 &&& Int32.toUInt32 31)).toInt32) &&& 255)) 7 (((x2_.toUInt32 >>> ((0 : Int32).toUInt32 &&& Int32.toUInt32 31)).toInt32) &&& 255)) 8 (((x3_.toUInt32 >>> ((24 : Int32).toUInt32 &&& Int32.toUInt32 31)).toInt32) &&& 255)) 9 (((x3_.toUInt32 >>> ((16 : Int32).toUInt32 &&& Int32.toUInt32 31)).toInt32) &&& 255)) 10 (((x3_.toUInt32 >>> ((8 : Int32).toUInt32 &&& Int32.toUInt32 31)).toInt32) &&& 255)) 11 (((x3_.toUInt32 >>> ((0 : Int32).toUInt32 &&& Int32.toUInt32 31)).toInt32) &&& 255)) 12 (((x4_.toUInt32 >>> ((24 : Int32).toUInt32 &&& Int32.toUInt32 31)).toInt32) &&& 255)) 13 (((x4_.toUInt32 >>> ((16 : Int32).toUInt32 &&& Int32.toUInt32 31)).toInt32) &&& 255)) 14 (((x4_.toUInt32 >>> ((8 : Int32).toUInt32 &&& Int32.toUInt32 31)).toInt32) &&& 255)) 15 (((x4_.toUInt32 >>> ((0 : Int32).toUInt32 &&& Int32.toUInt32 31)).toInt32) &&& 255)) 16 (((x0_.toUInt32 >>> ((24 : Int32).toUInt32 &&& Int32.toUInt32 31)).toInt32) &&& 255)) 17 (((x0_.toUInt32 >>> ((16 : Int32).toUInt32 &&& Int32.toUInt32 31)).toInt32) &&& 255)) 18 (((x0_.toUInt32 >>> ((8 : Int32).toUInt32 &&& Int32.toUInt32 31)).toInt32) &&& 255)) 19 (((x0_.toUInt32 >>> ((0 : Int32).toUInt32 &&& Int32.toUInt32 31)).toInt32) &&& 255))))] := hD
  refine lv_aload_n hx hb dX11_tapeNumber_33 rfl (lv_at hl 1 rfl) ?_
  refine lv_dup hx hb dX11_tapeNumber_34 rfl ?_
  refine va_get (D := (dC, dI)) (ci := 14) (v := .int 19) (C := RX11) (T := TX11) (N := 12) hx hb ht itX11 hown hK hP 0 rfl rfl 1 (by decide) (ht _ tw_212) (fun _ h9 => h9) rfl dX11_tapeNumber_35 ?_
  refine lv_iconst (v := 1) hx hb dX11_tapeNumber_38 (by decide) ?_
  refine lv_iadd hx hb dX11_tapeNumber_39 ?_
  refine tp_i (y := 20) (by decide) ?_
  refine va_put (D := (dC, dI)) (ci := 14) (v := .int 20) (ty := .int) (C := RX11) (T := TX11) (N := 12) hx hb ht itX11 tyX11 tyX11_ok nmX11 hown hK hP hD hS 0 rfl rfl 1 (by decide) (ht _ tw_212) (fun _ h9 => h9) rfl (by decide +kernel) rfl rfl (Nat.le_of_ble_eq_true rfl) dX11_tapeNumber_40 (fun H locs hP hD hS => ?_)
  have hP : va_P (dC, dI) vwCl [(a0_, .inr (14, [.ref a1_, .int 20, .ref a2_, .ref a3_, .ref a4_, .ref a5_, .int 0, .int (-1), .ref a6_, .ref a7_, .ref a8_, .ref a9_])), (a1_, .inl (cI, 4000, .inl (upd (upd (upd (upd (upd (upd (upd (upd (upd (upd (upd (upd (upd (upd (upd (upd (upd (upd (upd (upd (fun _ => 0) 0 (((x1_.toUInt32 >>> ((24 : Int32).toUInt32 &&& Int32.toUInt32 31)).toInt32) &&& 255)) 1 (((x1_.toUInt32 >>> ((16 : Int32).toUInt32 &&& Int32.toUInt32 31)).toInt32) &&& 255)) 2 (((x1_.toUInt32 >>> ((8 : Int32).toUInt32 &&& Int32.toUInt32 31)).toInt32) &&& 255)) 3 (((x1_.toUInt32 >>> ((0 : Int32).toUInt32 &&& Int32.toUInt32 31)).toInt32) &&& 255)) 4 (((x2_.toUInt32 >>> ((24 : Int32).toUInt32 &&& Int32.toUInt32 31)).toInt32) &&& 255)) 5 (((x2_.toUInt32 >>> ((16 : Int32).toUInt32 &&& Int32.toUInt32 31)).toInt32) &&& 255)) 6 (((x2_.toUInt32 >>> ((8 : Int32).toUInt32 &&& Int32.toUInt32 31)).toInt32) &&& 255)) 7 (((x2_.toUInt32 >>> ((0 : Int32).toUInt32 &&& Int32.toUInt32 31)).toInt32) &&& 255)) 8 (((x3_.toUInt32 >>> ((24 : Int32).toUInt32 &&& Int32.toUInt32 31)).toInt32) &&& 255)) 9 (((x3_.toUInt32 >>> ((16 : Int32).toUInt32 &&& Int32.toUInt32 31)).toInt32) &&& 255)) 10 (((x3_.toUInt32 >>> ((8 : Int32).toUInt32 &&& Int32.toUInt32 31)).toInt32) &&& 255)) 11 (((x3_.toUInt32 >>> ((0 : Int32).toUInt32 &&& Int32.toUInt32 31)).toInt32) &&& 255)) 12 (((x4_.toUInt32 >>> ((24 : Int32).toUInt32 &&& Int32.toUInt32 31)).toInt32) &&& 255)) 13 (((x4_.toUInt32 >>> ((16 : Int32).toUInt32 &&& Int32.toUInt32 31)).toInt32) &&& 255)) 14 (((x4_.toUInt32 >>> ((8 : Int32).toUInt32 &&& Int32.toUInt32 31)).toInt32) &&& 255)) 15 (((x4_.toUInt32 >>> ((0 : Int32).toUInt32 &&& Int32.toUInt32 31)).toInt32) &&& 255)) 16 (((x0_.toUInt32 >>> ((24 : Int32).toUInt32 &&& Int32.toUInt32 31)).toInt32) &&& 255)) 17 (((x0_.toUInt32 >>> ((16 : Int32).toUInt32 &&& Int32.toUInt32 31)).toInt32) &&& 255)) 18 (((x0_.toUInt32 >>> ((8 : Int32).toUInt32 &&& Int32.toUInt32 31)).toInt32) &&& 255)) 19 (((x0_.toUInt32 >>> ((0 : Int32).toUInt32 &&& Int32.toUInt32 31)).toInt32) &&& 255))))] H := hP
  have hD : va_D A [(a0_, .inr (14, [.ref a1_, .int 20, .ref a2_, .ref a3_, .ref a4_, .ref a5_, .int 0, .int (-1), .ref a6_, .ref a7_, .ref a8_, .ref a9_])), (a1_, .inl (cI, 4000, .inl (upd (upd (upd (upd (upd (upd (upd (upd (upd (upd (upd (upd (upd (upd (upd (upd (upd (upd (upd (upd (fun _ => 0) 0 (((x1_.toUInt32 >>> ((24 : Int32).toUInt32 &&& Int32.toUInt32 31)).toInt32) &&& 255)) 1 (((x1_.toUInt32 >>> ((16 : Int32).toUInt32 &&& Int32.toUInt32 31)).toInt32) &&& 255)) 2 (((x1_.toUInt32 >>> ((8 : Int32).toUInt32 &&& Int32.toUInt32 31)).toInt32) &&& 255)) 3 (((x1_.toUInt32 >>> ((0 : Int32).toUInt32 &&& Int32.toUInt32 31)).toInt32) &&& 255)) 4 (((x2_.toUInt32 >>> ((24 : Int32).toUInt32 &&& Int32.toUInt32 31)).toInt32) &&& 255)) 5 (((x2_.toUInt32 >>> ((16 : Int32).toUInt32 &&& Int32.toUInt32 31)).toInt32) &&& 255)) 6 (((x2_.toUInt32 >>> ((8 : Int32).toUInt32 &&& Int32.toUInt32 31)).toInt32) &&& 255)) 7 (((x2_.toUInt32 >>> ((0 : Int32).toUInt32 &&& Int32.toUInt32 31)).toInt32) &&& 255)) 8 (((x3_.toUInt32 >>> ((24 : Int32).toUInt32 &&& Int32.toUInt32 31)).toInt32) &&& 255)) 9 (((x3_.toUInt32 >>> ((16 : Int32).toUInt32 &&& Int32.toUInt32 31)).toInt32) &&& 255)) 10 (((x3_.toUInt32 >>> ((8 : Int32).toUInt32 &&& Int32.toUInt32 31)).toInt32) &&& 255)) 11 (((x3_.toUInt32 >>> ((0 : Int32).toUInt32 &&& Int32.toUInt32 31)).toInt32) &&& 255)) 12 (((x4_.toUInt32 >>> ((24 : Int32).toUInt32 &&& Int32.toUInt32 31)).toInt32) &&& 255)) 13 (((x4_.toUInt32 >>> ((16 : Int32).toUInt32 &&& Int32.toUInt32 31)).toInt32) &&& 255)) 14 (((x4_.toUInt32 >>> ((8 : Int32).toUInt32 &&& Int32.toUInt32 31)).toInt32) &&& 255)) 15 (((x4_.toUInt32 >>> ((0 : Int32).toUInt32 &&& Int32.toUInt32 31)).toInt32) &&& 255)) 16 (((x0_.toUInt32 >>> ((24 : Int32).toUInt32 &&& Int32.toUInt32 31)).toInt32) &&& 255)) 17 (((x0_.toUInt32 >>> ((16 : Int32).toUInt32 &&& Int32.toUInt32 31)).toInt32) &&& 255)) 18 (((x0_.toUInt32 >>> ((8 : Int32).toUInt32 &&& Int32.toUInt32 31)).toInt32) &&& 255)) 19 (((x0_.toUInt32 >>> ((0 : Int32).toUInt32 &&& Int32.toUInt32 31)).toInt32) &&& 255))))] := hD
  refine lv_iinc (v := (-8)) (lv' := [(2, .int (-8)), (0, .ref a0_), (1, .int x0_)]) hx hb dX11_tapeNumber_43 hl (k := 0) rfl (by decide) (by decide) rfl (fun ls hl => ?_)
  refine lv_goto (tgt := 3) hx hb dX11_tapeNumber_46 (by decide) ?_
  refine lv_iload_n hx hb dX11_tapeNumber_3 rfl (lv_at hl 0 rfl) ?_
  refine lv_if_lt (tgt := 49) hx hb dX11_tapeNumber_4 (by decide) (fun _ => ?_) (fun k9 => absurd k9 (by decide))
  have hP9 := hP.sub (ws' := [(a0_, .inr (14, [.ref a1_, .int 20, .ref a2_, .ref a3_, .ref a4_, .ref a5_, .int 0, .int (-1), .ref a6_, .ref a7_, .ref a8_, .ref a9_])), (a1_, .inl (cI, 4000, .inl (upd (upd (upd (upd (upd (upd (upd (upd (upd (upd (upd (upd (upd (upd (upd (upd (upd (upd (upd (upd (fun _ => 0) 0 (((x1_.toUInt32 >>> ((24 : Int32).toUInt32 &&& Int32.toUInt32 31)).toInt32) &&& 255)) 1 (((x1_.toUInt32 >>> ((16 : Int32).toUInt32 &&& Int32.toUInt32 31)).toInt32) &&& 255)) 2 (((x1_.toUInt32 >>> ((8 : Int32).toUInt32 &&& Int32.toUInt32 31)).toInt32) &&& 255)) 3 (((x1_.toUInt32 >>> ((0 : Int32).toUInt32 &&& Int32.toUInt32 31)).toInt32) &&& 255)) 4 (((x2_.toUInt32 >>> ((24 : Int32).toUInt32 &&& Int32.toUInt32 31)).toInt32) &&& 255)) 5 (((x2_.toUInt32 >>> ((16 : Int32).toUInt32 &&& Int32.toUInt32 31)).toInt32) &&& 255)) 6 (((x2_.toUInt32 >>> ((8 : Int32).toUInt32 &&& Int32.toUInt32 31)).toInt32) &&& 255)) 7 (((x2_.toUInt32 >>> ((0 : Int32).toUInt32 &&& Int32.toUInt32 31)).toInt32) &&& 255)) 8 (((x3_.toUInt32 >>> ((24 : Int32).toUInt32 &&& Int32.toUInt32 31)).toInt32) &&& 255)) 9 (((x3_.toUInt32 >>> ((16 : Int32).toUInt32 &&& Int32.toUInt32 31)).toInt32) &&& 255)) 10 (((x3_.toUInt32 >>> ((8 : Int32).toUInt32 &&& Int32.toUInt32 31)).toInt32) &&& 255)) 11 (((x3_.toUInt32 >>> ((0 : Int32).toUInt32 &&& Int32.toUInt32 31)).toInt32) &&& 255)) 12 (((x4_.toUInt32 >>> ((24 : Int32).toUInt32 &&& Int32.toUInt32 31)).toInt32) &&& 255)) 13 (((x4_.toUInt32 >>> ((16 : Int32).toUInt32 &&& Int32.toUInt32 31)).toInt32) &&& 255)) 14 (((x4_.toUInt32 >>> ((8 : Int32).toUInt32 &&& Int32.toUInt32 31)).toInt32) &&& 255)) 15 (((x4_.toUInt32 >>> ((0 : Int32).toUInt32 &&& Int32.toUInt32 31)).toInt32) &&& 255)) 16 (((x0_.toUInt32 >>> ((24 : Int32).toUInt32 &&& Int32.toUInt32 31)).toInt32) &&& 255)) 17 (((x0_.toUInt32 >>> ((16 : Int32).toUInt32 &&& Int32.toUInt32 31)).toInt32) &&& 255)) 18 (((x0_.toUInt32 >>> ((8 : Int32).toUInt32 &&& Int32.toUInt32 31)).toInt32) &&& 255)) 19 (((x0_.toUInt32 >>> ((0 : Int32).toUInt32 &&& Int32.toUInt32 31)).toInt32) &&& 255))))]) [0, 1] rfl
  have hD9 := hD.sub (ws' := [(a0_, .inr (14, [.ref a1_, .int 20, .ref a2_, .ref a3_, .ref a4_, .ref a5_, .int 0, .int (-1), .ref a6_, .ref a7_, .ref a8_, .ref a9_])), (a1_, .inl (cI, 4000, .inl (upd (upd (upd (upd (upd (upd (upd (upd (upd (upd (upd (upd (upd (upd (upd (upd (upd (upd (upd (upd (fun _ => 0) 0 (((x1_.toUInt32 >>> ((24 : Int32).toUInt32 &&& Int32.toUInt32 31)).toInt32) &&& 255)) 1 (((x1_.toUInt32 >>> ((16 : Int32).toUInt32 &&& Int32.toUInt32 31)).toInt32) &&& 255)) 2 (((x1_.toUInt32 >>> ((8 : Int32).toUInt32 &&& Int32.toUInt32 31)).toInt32) &&& 255)) 3 (((x1_.toUInt32 >>> ((0 : Int32).toUInt32 &&& Int32.toUInt32 31)).toInt32) &&& 255)) 4 (((x2_.toUInt32 >>> ((24 : Int32).toUInt32 &&& Int32.toUInt32 31)).toInt32) &&& 255)) 5 (((x2_.toUInt32 >>> ((16 : Int32).toUInt32 &&& Int32.toUInt32 31)).toInt32) &&& 255)) 6 (((x2_.toUInt32 >>> ((8 : Int32).toUInt32 &&& Int32.toUInt32 31)).toInt32) &&& 255)) 7 (((x2_.toUInt32 >>> ((0 : Int32).toUInt32 &&& Int32.toUInt32 31)).toInt32) &&& 255)) 8 (((x3_.toUInt32 >>> ((24 : Int32).toUInt32 &&& Int32.toUInt32 31)).toInt32) &&& 255)) 9 (((x3_.toUInt32 >>> ((16 : Int32).toUInt32 &&& Int32.toUInt32 31)).toInt32) &&& 255)) 10 (((x3_.toUInt32 >>> ((8 : Int32).toUInt32 &&& Int32.toUInt32 31)).toInt32) &&& 255)) 11 (((x3_.toUInt32 >>> ((0 : Int32).toUInt32 &&& Int32.toUInt32 31)).toInt32) &&& 255)) 12 (((x4_.toUInt32 >>> ((24 : Int32).toUInt32 &&& Int32.toUInt32 31)).toInt32) &&& 255)) 13 (((x4_.toUInt32 >>> ((16 : Int32).toUInt32 &&& Int32.toUInt32 31)).toInt32) &&& 255)) 14 (((x4_.toUInt32 >>> ((8 : Int32).toUInt32 &&& Int32.toUInt32 31)).toInt32) &&& 255)) 15 (((x4_.toUInt32 >>> ((0 : Int32).toUInt32 &&& Int32.toUInt32 31)).toInt32) &&& 255)) 16 (((x0_.toUInt32 >>> ((24 : Int32).toUInt32 &&& Int32.toUInt32 31)).toInt32) &&& 255)) 17 (((x0_.toUInt32 >>> ((16 : Int32).toUInt32 &&& Int32.toUInt32 31)).toInt32) &&& 255)) 18 (((x0_.toUInt32 >>> ((8 : Int32).toUInt32 &&& Int32.toUInt32 31)).toInt32) &&& 255)) 19 (((x0_.toUInt32 >>> ((0 : Int32).toUInt32 &&& Int32.toUInt32 31)).toInt32) &&& 255))))]) [0, 1] (by decide) rfl
  refine W.widen (k := 0) (n := 0) (by omega) (by omega) ?_
  exact W.vret hx hb hr (fun t ht9 hW => ⟨⟨(), rfl, trivial, by rw [ht9]; exact hP9, hD9⟩, hS.F ht9⟩) hS.2.2 dX11_tapeNumber_49
set_option maxHeartbeats 4000000 in
set_option maxRecDepth 100000 in
/-- X11_feed on a new object -/
theorem c_X11_feed (l : Launch) (dC : Nat → ClassId) (dI : Nat → Nat → Nat) (cI cB cZ cJ cR : ClassId) (tb : Nat → Nat) (sz : Nat) (h0 : Nat) (pa : Int32) (pb : Int32) (pc : Int32) (pd : Int32) (pe : Int32) (q1 : Nat) (q9 : Nat) (q18 : Nat) (q27 : Nat) (q42 : Nat) (q2 : Nat) (q45 : Nat) (q50 : Nat) (q5 : Nat)  : Met l yX11_feed (Cond.code yX11_feed cX11_feed 6 (some .boolean) :: tw_W) ({ frames := 1, cells := 0, slots := 0, locals := 22 }) (pc_ (dC, dI) (tyS cI cB cZ cJ cR) tb [(h0, .inr (14, [.ref q1, .int 0, .ref q9, .ref q18, .ref q27, .ref q42, .int 0, .int (-1), .ref q2, .ref q45, .ref q50, .ref q5])), (q1, .inl (cI, 4000, .inl (fun _ => 0)))] sz [.ref h0, .int pa, .int pb, .int pc, .int pd, .int pe]) (qi_ (dC, dI) [(h0, .inr (14, [.ref q1, .int 0, .ref q9, .ref q18, .ref q27, .ref q42, .int 0, .int (-1), .ref q2, .ref q45, .ref q50, .ref q5])), (q1, .inl (cI, 4000, .inl (fun _ => 0)))] sz (fun (r : Int32) (u : Unit) => r = 1) (fun (u : Unit) => [])) 0 0 (va_A [(h0, .inr (14, [.ref q1, .int 0, .ref q9, .ref q18, .ref q27, .ref q42, .int 0, .int (-1), .ref q2, .ref q45, .ref q50, .ref q5])), (q1, .inl (cI, 4000, .inl (fun _ => 0)))] sz) := by
  refine Met.ofW (cc := cX11_feed) (maxL := 6) (ret := (some .boolean)) (by decide) rfl ?_
  intro p e s m args below meth c s₁ B hml hv
  obtain ⟨rfl, hsz, hP, hKK, hD0, hFx⟩ := hv
  have hK := hKK.1
  have hx := B.exec
  have hb := B.bytes
  have hr := B.returns
  have ht : ∀ w ∈ tw_W, w.before _ s = true := fun w h => atoms_spec (ws := Cond.code yX11_feed cX11_feed 6 (some .boolean) :: tw_W) B.pre w (List.mem_cons_of_mem _ h)
  have hown : s.vm.findClass RX11 = some m.cls := findClass_of_methodNamed B.named
  have hlocks := B.notSynchronized
  subst hsz
  unfold qi_
  have hD := hD0.self (sz := s.heap.size)
  generalize hAe : va_A [(h0, .inr (14, [.ref q1, .int 0, .ref q9, .ref q18, .ref q27, .ref q42, .int 0, .int (-1), .ref q2, .ref q45, .ref q50, .ref q5])), (q1, .inl (cI, 4000, .inl (fun _ => 0)))] s.heap.size = A at hD hFx ⊢
  have hA : ∀ q : Nat, s.heap.size ≤ q → A q := fun q h => by rw [← hAe]; exact Or.inr h
  have hS : va_S A s.heap s.heap [] := va_S.rf
  have hP : va_P (dC, dI) vwCl [(h0, .inr (14, [.ref q1, .int 0, .ref q9, .ref q18, .ref q27, .ref q42, .int 0, .int (-1), .ref q2, .ref q45, .ref q50, .ref q5])), (q1, .inl (cI, 4000, .inl (fun _ => 0)))] s.heap := hP
  have hl := lv_entry ([.ref h0, .int pa, .int pb, .int pc, .int pd, .int pe]) (n := 6) (Nat.le_of_ble_eq_true rfl)
  rw [lg_entry_eq]
  generalize (lg_sl ([.ref h0, .int pa, .int pb, .int pc, .int pd, .int pe]) ++ List.replicate (6 - (lg_sl ([.ref h0, .int pa, .int pb, .int pc, .int pd, .int pe])).length) Slot.unset).toArray = ls at hl ⊢
  have hl : lv_has ls 6 [(0, .ref h0), (1, .int pa), (2, .int pb), (3, .int pc), (4, .int pd), (5, .int pe)] := hl
  refine lv_aload_n hx hb dX11_feed_0 rfl (lv_at hl 0 rfl) ?_
  refine va_get (D := (dC, dI)) (ci := 14) (v := .int 0) (C := RX11) (T := TX11) (N := 12) hx hb ht itX11 hown hK hP 0 rfl rfl 1 (by decide) (ht _ tw_212) (fun _ h9 => h9) rfl dX11_feed_1 ?_
  refine lv_bipush (v := 20) hx hb dX11_feed_4 (by decide) ?_
  refine lv_iadd hx hb dX11_feed_6 ?_
  refine tp_i (y := 20) (by decide) ?_
  refine lv_sipush (v := 4000) hx hb dX11_feed_7 (by decide) ?_
  refine lv_icmp_le (tgt := 15) hx hb dX11_feed_10 (by decide) (fun _ => ?_) (fun k1 => absurd k1 (by decide))
  refine lv_aload_n hx hb dX11_feed_15 rfl (lv_at hl 0 rfl) ?_
  refine lv_iload_n hx hb dX11_feed_16 rfl (lv_at hl 1 rfl) ?_
  refine ca_v (wr := []) (rn_V (n := 1) (As := [.int pa]) (rest := []) hx hb hml hown ht hKK hFx hP hD hS hA (c_X11_tapeNumber l dC dI cI cB cZ cJ cR tb s.heap.size h0 pa q1 q9 q18 q27 q42 q2 q45 q50 q5) tw_213 tw_214 (by decide +kernel) rfl rfl ⟨Nat.le_of_ble_eq_true rfl, Nat.le_of_ble_eq_true rfl⟩ [0, 1] rfl (by decide) rfl rfl rfl rfl hl.1 rfl (Nat.le_of_ble_eq_true rfl) dX11_feed_17 ⟨Nat.le_of_ble_eq_true rfl, Nat.le_of_ble_eq_true rfl⟩) hP hD hS hA (isC := [0, 1]) (isR := []) rfl rfl (by decide) (by decide) (fun u H locs hw2 hP hD hS => ?_)
  have hP : va_P (dC, dI) vwCl [(h0, .inr (14, [.ref q1, .int 4, .ref q9, .ref q18, .ref q27, .ref q42, .int 0, .int (-1), .ref q2, .ref q45, .ref q50, .ref q5])), (q1, .inl (cI, 4000, .inl (upd (upd (upd (upd (fun _ => 0) 0 (((pa.toUInt32 >>> ((24 : Int32).toUInt32 &&& Int32.toUInt32 31)).toInt32) &&& 255)) 1 (((pa.toUInt32 >>> ((16 : Int32).toUInt32 &&& Int32.toUInt32 31)).toInt32) &&& 255)) 2 (((pa.toUInt32 >>> ((8 : Int32).toUInt32 &&& Int32.toUInt32 31)).toInt32) &&& 255)) 3 (((pa.toUInt32 >>> ((0 : Int32).toUInt32 &&& Int32.toUInt32 31)).toInt32) &&& 255))))] H := hP
  have hD : va_D A [(h0, .inr (14, [.ref q1, .int 4, .ref q9, .ref q18, .ref q27, .ref q42, .int 0, .int (-1), .ref q2, .ref q45, .ref q50, .ref q5])), (q1, .inl (cI, 4000, .inl (upd (upd (upd (upd (fun _ => 0) 0 (((pa.toUInt32 >>> ((24 : Int32).toUInt32 &&& Int32.toUInt32 31)).toInt32) &&& 255)) 1 (((pa.toUInt32 >>> ((16 : Int32).toUInt32 &&& Int32.toUInt32 31)).toInt32) &&& 255)) 2 (((pa.toUInt32 >>> ((8 : Int32).toUInt32 &&& Int32.toUInt32 31)).toInt32) &&& 255)) 3 (((pa.toUInt32 >>> ((0 : Int32).toUInt32 &&& Int32.toUInt32 31)).toInt32) &&& 255))))] := hD
  refine W.widen (k := 0) (n := 0) (by omega) (by omega) ?_
  refine lv_aload_n hx hb dX11_feed_20 rfl (lv_at hl 0 rfl) ?_
  refine lv_iload_n hx hb dX11_feed_21 rfl (lv_at hl 2 rfl) ?_
  refine ca_v (wr := []) (rn_V (n := 1) (As := [.int pb]) (rest := []) hx hb hml hown ht hKK hFx hP hD hS hA (c_X11_tapeNumber_2 l dC dI cI cB cZ cJ cR tb H.size h0 pb q1 q9 q18 q27 q42 q2 q45 q50 q5 pa) tw_213 tw_214 (by decide +kernel) rfl rfl ⟨Nat.le_of_ble_eq_true rfl, Nat.le_of_ble_eq_true rfl⟩ [0, 1] rfl (by decide) rfl rfl rfl rfl hl.1 rfl (Nat.le_of_ble_eq_true rfl) dX11_feed_22 ⟨Nat.le_of_ble_eq_true rfl, Nat.le_of_ble_eq_true rfl⟩) hP hD hS hA (isC := [0, 1]) (isR := []) rfl rfl (by decide) (by decide) (fun u H locs hw3 hP hD hS => ?_)
  have hP : va_P (dC, dI) vwCl [(h0, .inr (14, [.ref q1, .int 8, .ref q9, .ref q18, .ref q27, .ref q42, .int 0, .int (-1), .ref q2, .ref q45, .ref q50, .ref q5])), (q1, .inl (cI, 4000, .inl (upd (upd (upd (upd (upd (upd (upd (upd (fun _ => 0) 0 (((pa.toUInt32 >>> ((24 : Int32).toUInt32 &&& Int32.toUInt32 31)).toInt32) &&& 255)) 1 (((pa.toUInt32 >>> ((16 : Int32).toUInt32 &&& Int32.toUInt32 31)).toInt32) &&& 255)) 2 (((pa.toUInt32 >>> ((8 : Int32).toUInt32 &&& Int32.toUInt32 31)).toInt32) &&& 255)) 3 (((pa.toUInt32 >>> ((0 : Int32).toUInt32 &&& Int32.toUInt32 31)).toInt32) &&& 255)) 4 (((pb.toUInt32 >>> ((24 : Int32).toUInt32 &&& Int32.toUInt32 31)).toInt32) &&& 255)) 5 (((pb.toUInt32 >>> ((16 : Int32).toUInt32 &&& Int32.toUInt32 31)).toInt32) &&& 255)) 6 (((pb.toUInt32 >>> ((8 : Int32).toUInt32 &&& Int32.toUInt32 31)).toInt32) &&& 255)) 7 (((pb.toUInt32 >>> ((0 : Int32).toUInt32 &&& Int32.toUInt32 31)).toInt32) &&& 255))))] H := hP
  have hD : va_D A [(h0, .inr (14, [.ref q1, .int 8, .ref q9, .ref q18, .ref q27, .ref q42, .int 0, .int (-1), .ref q2, .ref q45, .ref q50, .ref q5])), (q1, .inl (cI, 4000, .inl (upd (upd (upd (upd (upd (upd (upd (upd (fun _ => 0) 0 (((pa.toUInt32 >>> ((24 : Int32).toUInt32 &&& Int32.toUInt32 31)).toInt32) &&& 255)) 1 (((pa.toUInt32 >>> ((16 : Int32).toUInt32 &&& Int32.toUInt32 31)).toInt32) &&& 255)) 2 (((pa.toUInt32 >>> ((8 : Int32).toUInt32 &&& Int32.toUInt32 31)).toInt32) &&& 255)) 3 (((pa.toUInt32 >>> ((0 : Int32).toUInt32 &&& Int32.toUInt32 31)).toInt32) &&& 255)) 4 (((pb.toUInt32 >>> ((24 : Int32).toUInt32 &&& Int32.toUInt32 31)).toInt32) &&& 255)) 5 (((pb.toUInt32 >>> ((16 : Int32).toUInt32 &&& Int32.toUInt32 31)).toInt32) &&& 255)) 6 (((pb.toUInt32 >>> ((8 : Int32).toUInt32 &&& Int32.toUInt32 31)).toInt32) &&& 255)) 7 (((pb.toUInt32 >>> ((0 : Int32).toUInt32 &&& Int32.toUInt32 31)).toInt32) &&& 255))))] := hD
  refine W.widen (k := 0) (n := 0) (by omega) (by omega) ?_
  refine lv_aload_n hx hb dX11_feed_25 rfl (lv_at hl 0 rfl) ?_
  refine lv_iload_n hx hb dX11_feed_26 rfl (lv_at hl 3 rfl) ?_
  refine ca_v (wr := []) (rn_V (n := 1) (As := [.int pc]) (rest := []) hx hb hml hown ht hKK hFx hP hD hS hA (c_X11_tapeNumber_3 l dC dI cI cB cZ cJ cR tb H.size h0 pc q1 q9 q18 q27 q42 q2 q45 q50 q5 pa pb) tw_213 tw_214 (by decide +kernel) rfl rfl ⟨Nat.le_of_ble_eq_true rfl, Nat.le_of_ble_eq_true rfl⟩ [0, 1] rfl (by decide) rfl rfl rfl rfl hl.1 rfl (Nat.le_of_ble_eq_true rfl) dX11_feed_27 ⟨Nat.le_of_ble_eq_true rfl, Nat.le_of_ble_eq_true rfl⟩) hP hD hS hA (isC := [0, 1]) (isR := []) rfl rfl (by decide) (by decide) (fun u H locs hw4 hP hD hS => ?_)
  have hP : va_P (dC, dI) vwCl [(h0, .inr (14, [.ref q1, .int 12, .ref q9, .ref q18, .ref q27, .ref q42, .int 0, .int (-1), .ref q2, .ref q45, .ref q50, .ref q5])), (q1, .inl (cI, 4000, .inl (upd (upd (upd (upd (upd (upd (upd (upd (upd (upd (upd (upd (fun _ => 0) 0 (((pa.toUInt32 >>> ((24 : Int32).toUInt32 &&& Int32.toUInt32 31)).toInt32) &&& 255)) 1 (((pa.toUInt32 >>> ((16 : Int32).toUInt32 &&& Int32.toUInt32 31)).toInt32) &&& 255)) 2 (((pa.toUInt32 >>> ((8 : Int32).toUInt32 &&& Int32.toUInt32 31)).toInt32) &&& 255)) 3 (((pa.toUInt32 >>> ((0 : Int32).toUInt32 &&& Int32.toUInt32 31)).toInt32) &&& 255)) 4 (((pb.toUInt32 >>> ((24 : Int32).toUInt32 &&& Int32.toUInt32 31)).toInt32) &&& 255)) 5 (((pb.toUInt32 >>> ((16 : Int32).toUInt32 &&& Int32.toUInt32 31)).toInt32) &&& 255)) 6 (((pb.toUInt32 >>> ((8 : Int32).toUInt32 &&& Int32.toUInt32 31)).toInt32) &&& 255)) 7 (((pb.toUInt32 >>> ((0 : Int32).toUInt32 &&& Int32.toUInt32 31)).toInt32) &&& 255)) 8 (((pc.toUInt32 >>> ((24 : Int32).toUInt32 &&& Int32.toUInt32 31)).toInt32) &&& 255)) 9 (((pc.toUInt32 >>> ((16 : Int32).toUInt32 &&& Int32.toUInt32 31)).toInt32) &&& 255)) 10 (((pc.toUInt32 >>> ((8 : Int32).toUInt32 &&& Int32.toUInt32 31)).toInt32) &&& 255)) 11 (((pc.toUInt32 >>> ((0 : Int32).toUInt32 &&& Int32.toUInt32 31)).toInt32) &&& 255))))] H := hP
  have hD : va_D A [(h0, .inr (14, [.ref q1, .int 12, .ref q9, .ref q18, .ref q27, .ref q42, .int 0, .int (-1), .ref q2, .ref q45, .ref q50, .ref q5])), (q1, .inl (cI, 4000, .inl (upd (upd (upd (upd (upd (upd (upd (upd (upd (upd (upd (upd (fun _ => 0) 0 (((pa.toUInt32 >>> ((24 : Int32).toUInt32 &&& Int32.toUInt32 31)).toInt32) &&& 255)) 1 (((pa.toUInt32 >>> ((16 : Int32).toUInt32 &&& Int32.toUInt32 31)).toInt32) &&& 255)) 2 (((pa.toUInt32 >>> ((8 : Int32).toUInt32 &&& Int32.toUInt32 31)).toInt32) &&& 255)) 3 (((pa.toUInt32 >>> ((0 : Int32).toUInt32 &&& Int32.toUInt32 31)).toInt32) &&& 255)) 4 (((pb.toUInt32 >>> ((24 : Int32).toUInt32 &&& Int32.toUInt32 31)).toInt32) &&& 255)) 5 (((pb.toUInt32 >>> ((16 : Int32).toUInt32 &&& Int32.toUInt32 31)).toInt32) &&& 255)) 6 (((pb.toUInt32 >>> ((8 : Int32).toUInt32 &&& Int32.toUInt32 31)).toInt32) &&& 255)) 7 (((pb.toUInt32 >>> ((0 : Int32).toUInt32 &&& Int32.toUInt32 31)).toInt32) &&& 255)) 8 (((pc.toUInt32 >>> ((24 : Int32).toUInt32 &&& Int32.toUInt32 31)).toInt32) &&& 255)) 9 (((pc.toUInt32 >>> ((16 : Int32).toUInt32 &&& Int32.toUInt32 31)).toInt32) &&& 255)) 10 (((pc.toUInt32 >>> ((8 : Int32).toUInt32 &&& Int32.toUInt32 31)).toInt32) &&& 255)) 11 (((pc.toUInt32 >>> ((0 : Int32).toUInt32 &&& Int32.toUInt32 31)).toInt32) &&& 255))))] := hD
  refine W.widen (k := 0) (n := 0) (by omega) (by omega) ?_
  refine lv_aload_n hx hb dX11_feed_30 rfl (lv_at hl 0 rfl) ?_
  refine lv_iload hx hb dX11_feed_31 (lv_at hl 4 rfl) ?_
  refine ca_v (wr := []) (rn_V (n := 1) (As := [.int pd]) (rest := []) hx hb hml hown ht hKK hFx hP hD hS hA (c_X11_tapeNumber_4 l dC dI cI cB cZ cJ cR tb H.size h0 pd q1 q9 q18 q27 q42 q2 q45 q50 q5 pa pb pc) tw_213 tw_214 (by decide +kernel) rfl rfl ⟨Nat.le_of_ble_eq_true rfl, Nat.le_of_ble_eq_true rfl⟩ [0, 1] rfl (by decide) rfl rfl rfl rfl hl.1 rfl (Nat.le_of_ble_eq_true rfl) dX11_feed_33 ⟨Nat.le_of_ble_eq_true rfl, Nat.le_of_ble_eq_true rfl⟩) hP hD hS hA (isC := [0, 1]) (isR := []) rfl rfl (by decide) (by decide) (fun u H locs hw5 hP hD hS => ?_)
  have hP : va_P (dC, dI) vwCl [(h0, .inr (14, [.ref q1, .int 16, .ref q9, .ref q18, .ref q27, .ref q42, .int 0, .int (-1), .ref q2, .ref q45, .ref q50, .ref q5])), (q1, .inl (cI, 4000, .inl (upd (upd (upd (upd (upd (upd (upd (upd (upd (upd (upd (upd (upd (upd (upd (upd (fun _ => 0) 0 (((pa.toUInt32 >>> ((24 : Int32).toUInt32 &&& Int32.toUInt32 31)).toInt32) &&& 255)) 1 (((pa.toUInt32 >>> ((16 : Int32).toUInt32 &&& Int32.toUInt32 31)).toInt32) &&& 255)) 2 (((pa.toUInt32 >>> ((8 : Int32).toUInt32 &&& Int32.toUInt32 31)).toInt32) &&& 255)) 3 (((pa.toUInt32 >>> ((0 : Int32).toUInt32 &&& Int32.toUInt32 31)).toInt32) &&& 255)) 4 (((pb.toUInt32 >>> ((24 : Int32).toUInt32 &&& Int32.toUInt32 31)).toInt32) &&& 255)) 5 (((pb.toUInt32 >>> ((16 : Int32).toUInt32 &&& Int32.toUInt32 31)).toInt32) &&& 255)) 6 (((pb.toUInt32 >>> ((8 : Int32).toUInt32 &&& Int32.toUInt32 31)).toInt32) &&& 255)) 7 (((pb.toUInt32 >>> ((0 : Int32).toUInt32 &&& Int32.toUInt32 31)).toInt32) &&& 255)) 8 (((pc.toUInt32 >>> ((24 : Int32).toUInt32 &&& Int32.toUInt32 31)).toInt32) &&& 255)) 9 (((pc.toUInt32 >>> ((16 : Int32).toUInt32 &&& Int32.toUInt32 31)).toInt32) &&& 255)) 10 (((pc.toUInt32 >>> ((8 : Int32).toUInt32 &&& Int32.toUInt32 31)).toInt32) &&& 255)) 11 (((pc.toUInt32 >>> ((0 : Int32).toUInt32 &&& Int32.toUInt32 31)).toInt32) &&& 255)) 12 (((pd.toUInt32 >>> ((24 : Int32).toUInt32 &&& Int32.toUInt32 31)).toInt32) &&& 255)) 13 (((pd.toUInt32 >>> ((16 : Int32).toUInt32 &&& Int32.toUInt32 31)).toInt32) &&& 255)) 14 (((pd.toUInt32 >>> ((8 : Int32).toUInt32 &&& Int32.toUInt32 31)).toInt32) &&& 255)) 15 (((pd.toUInt32 >>> ((0 : Int32).toUInt32 &&& Int32.toUInt32 31)).toInt32) &&& 255))))] H := hP
  have hD : va_D A [(h0, .inr (14, [.ref q1, .int 16, .ref q9, .ref q18, .ref q27, .ref q42, .int 0, .int (-1), .ref q2, .ref q45, .ref q50, .ref q5])), (q1, .inl (cI, 4000, .inl (upd (upd (upd (upd (upd (upd (upd (upd (upd (upd (upd (upd (upd (upd (upd (upd (fun _ => 0) 0 (((pa.toUInt32 >>> ((24 : Int32).toUInt32 &&& Int32.toUInt32 31)).toInt32) &&& 255)) 1 (((pa.toUInt32 >>> ((16 : Int32).toUInt32 &&& Int32.toUInt32 31)).toInt32) &&& 255)) 2 (((pa.toUInt32 >>> ((8 : Int32).toUInt32 &&& Int32.toUInt32 31)).toInt32) &&& 255)) 3 (((pa.toUInt32 >>> ((0 : Int32).toUInt32 &&& Int32.toUInt32 31)).toInt32) &&& 255)) 4 (((pb.toUInt32 >>> ((24 : Int32).toUInt32 &&& Int32.toUInt32 31)).toInt32) &&& 255)) 5 (((pb.toUInt32 >>> ((16 : Int32).toUInt32 &&& Int32.toUInt32 31)).toInt32) &&& 255)) 6 (((pb.toUInt32 >>> ((8 : Int32).toUInt32 &&& Int32.toUInt32 31)).toInt32) &&& 255)) 7 (((pb.toUInt32 >>> ((0 : Int32).toUInt32 &&& Int32.toUInt32 31)).toInt32) &&& 255)) 8 (((pc.toUInt32 >>> ((24 : Int32).toUInt32 &&& Int32.toUInt32 31)).toInt32) &&& 255)) 9 (((pc.toUInt32 >>> ((16 : Int32).toUInt32 &&& Int32.toUInt32 31)).toInt32) &&& 255)) 10 (((pc.toUInt32 >>> ((8 : Int32).toUInt32 &&& Int32.toUInt32 31)).toInt32) &&& 255)) 11 (((pc.toUInt32 >>> ((0 : Int32).toUInt32 &&& Int32.toUInt32 31)).toInt32) &&& 255)) 12 (((pd.toUInt32 >>> ((24 : Int32).toUInt32 &&& Int32.toUInt32 31)).toInt32) &&& 255)) 13 (((pd.toUInt32 >>> ((16 : Int32).toUInt32 &&& Int32.toUInt32 31)).toInt32) &&& 255)) 14 (((pd.toUInt32 >>> ((8 : Int32).toUInt32 &&& Int32.toUInt32 31)).toInt32) &&& 255)) 15 (((pd.toUInt32 >>> ((0 : Int32).toUInt32 &&& Int32.toUInt32 31)).toInt32) &&& 255))))] := hD
  refine W.widen (k := 0) (n := 0) (by omega) (by omega) ?_
  refine lv_aload_n hx hb dX11_feed_36 rfl (lv_at hl 0 rfl) ?_
  refine lv_iload hx hb dX11_feed_37 (lv_at hl 5 rfl) ?_
  refine ca_v (wr := []) (rn_V (n := 1) (As := [.int pe]) (rest := []) hx hb hml hown ht hKK hFx hP hD hS hA (c_X11_tapeNumber_5 l dC dI cI cB cZ cJ cR tb H.size h0 pe q1 q9 q18 q27 q42 q2 q45 q50 q5 pa pb pc pd) tw_213 tw_214 (by decide +kernel) rfl rfl ⟨Nat.le_of_ble_eq_true rfl, Nat.le_of_ble_eq_true rfl⟩ [0, 1] rfl (by decide) rfl rfl rfl rfl hl.1 rfl (Nat.le_of_ble_eq_true rfl) dX11_feed_39 ⟨Nat.le_of_ble_eq_true rfl, Nat.le_of_ble_eq_true rfl⟩) hP hD hS hA (isC := [0, 1]) (isR := []) rfl rfl (by decide) (by decide) (fun u H locs hw6 hP hD hS => ?_)
  have hP : va_P (dC, dI) vwCl [(h0, .inr (14, [.ref q1, .int 20, .ref q9, .ref q18, .ref q27, .ref q42, .int 0, .int (-1), .ref q2, .ref q45, .ref q50, .ref q5])), (q1, .inl (cI, 4000, .inl (upd (upd (upd (upd (upd (upd (upd (upd (upd (upd (upd (upd (upd (upd (upd (upd (upd (upd (upd (upd (fun _ => 0) 0 (((pa.toUInt32 >>> ((24 : Int32).toUInt32 &&& Int32.toUInt32 31)).toInt32) &&& 255)) 1 (((pa.toUInt32 >>> ((16 : Int32).toUInt32 &&& Int32.toUInt32 31)).toInt32) &&& 255)) 2 (((pa.toUInt32 >>> ((8 : Int32).toUInt32 &&& Int32.toUInt32 31)).toInt32) &&& 255)) 3 (((pa.toUInt32 >>> ((0 : Int32).toUInt32 &&& Int32.toUInt32 31)).toInt32) &&& 255)) 4 (((pb.toUInt32 >>> ((24 : Int32).toUInt32 &&& Int32.toUInt32 31)).toInt32) &&& 255)) 5 (((pb.toUInt32 >>> ((16 : Int32).toUInt32 &&& Int32.toUInt32 31)).toInt32) &&& 255)) 6 (((pb.toUInt32 >>> ((8 : Int32).toUInt32 &&& Int32.toUInt32 31)).toInt32) &&& 255)) 7 (((pb.toUInt32 >>> ((0 : Int32).toUInt32 &&& Int32.toUInt32 31)).toInt32) &&& 255)) 8 (((pc.toUInt32 >>> ((24 : Int32).toUInt32 &&& Int32.toUInt32 31)).toInt32) &&& 255)) 9 (((pc.toUInt32 >>> ((16 : Int32).toUInt32 &&& Int32.toUInt32 31)).toInt32) &&& 255)) 10 (((pc.toUInt32 >>> ((8 : Int32).toUInt32 &&& Int32.toUInt32 31)).toInt32) &&& 255)) 11 (((pc.toUInt32 >>> ((0 : Int32).toUInt32 &&& Int32.toUInt32 31)).toInt32) &&& 255)) 12 (((pd.toUInt32 >>> ((24 : Int32).toUInt32 &&& Int32.toUInt32 31)).toInt32) &&& 255)) 13 (((pd.toUInt32 >>> ((16 : Int32).toUInt32 &&& Int32.toUInt32 31)).toInt32) &&& 255)) 14 (((pd.toUInt32 >>> ((8 : Int32).toUInt32 &&& Int32.toUInt32 31)).toInt32) &&& 255)) 15 (((pd.toUInt32 >>> ((0 : Int32).toUInt32 &&& Int32.toUInt32 31)).toInt32) &&& 255)) 16 (((pe.toUInt32 >>> ((24 : Int32).toUInt32 &&& Int32.toUInt32 31)).toInt32) &&& 255)) 17 (((pe.toUInt32 >>> ((16 : Int32).toUInt32 &&& Int32.toUInt32 31)).toInt32) &&& 255)) 18 (((pe.toUInt32 >>> ((8 : Int32).toUInt32 &&& Int32.toUInt32 31)).toInt32) &&& 255)) 19 (((pe.toUInt32 >>> ((0 : Int32).toUInt32 &&& Int32.toUInt32 31)).toInt32) &&& 255))))] H := hP
  have hD : va_D A [(h0, .inr (14, [.ref q1, .int 20, .ref q9, .ref q18, .ref q27, .ref q42, .int 0, .int (-1), .ref q2, .ref q45, .ref q50, .ref q5])), (q1, .inl (cI, 4000, .inl (upd (upd (upd (upd (upd (upd (upd (upd (upd (upd (upd (upd (upd (upd (upd (upd (upd (upd (upd (upd (fun _ => 0) 0 (((pa.toUInt32 >>> ((24 : Int32).toUInt32 &&& Int32.toUInt32 31)).toInt32) &&& 255)) 1 (((pa.toUInt32 >>> ((16 : Int32).toUInt32 &&& Int32.toUInt32 31)).toInt32) &&& 255)) 2 (((pa.toUInt32 >>> ((8 : Int32).toUInt32 &&& Int32.toUInt32 31)).toInt32) &&& 255)) 3 (((pa.toUInt32 >>> ((0 : Int32).toUInt32 &&& Int32.toUInt32 31)).toInt32) &&& 255)) 4 (((pb.toUInt32 >>> ((24 : Int32).toUInt32 &&& Int32.toUInt32 31)).toInt32) &&& 255)) 5 (((pb.toUInt32 >>> ((16 : Int32).toUInt32 &&& Int32.toUInt32 31)).toInt32) &&& 255)) 6 (((pb.toUInt32 >>> ((8 : Int32).toUInt32 &&& Int32.toUInt32 31)).toInt32) &&& 255)) 7 (((pb.toUInt32 >>> ((0 : Int32).toUInt32 &&& Int32.toUInt32 31)).toInt32) &&& 255)) 8 (((pc.toUInt32 >>> ((24 : Int32).toUInt32 &&& Int32.toUInt32 31)).toInt32) &&& 255)) 9 (((pc.toUInt32 >>> ((16 : Int32).toUInt32 &&& Int32.toUInt32 31)).toInt32) &&& 255)) 10 (((pc.toUInt32 >>> ((8 : Int32).toUInt32 &&& Int32.toUInt32 31)).toInt32) &&& 255)) 11 (((pc.toUInt32 >>> ((0 : Int32).toUInt32 &&& Int32.toUInt32 31)).toInt32) &&& 255)) 12 (((pd.toUInt32 >>> ((24 : Int32).toUInt32 &&& Int32.toUInt32 31)).toInt32) &&& 255)) 13 (((pd.toUInt32 >>> ((16 : Int32).toUInt32 &&& Int32.toUInt32 31)).toInt32) &&& 255)) 14 (((pd.toUInt32 >>> ((8 : Int32).toUInt32 &&& Int32.toUInt32 31)).toInt32) &&& 255)) 15 (((pd.toUInt32 >>> ((0 : Int32).toUInt32 &&& Int32.toUInt32 31)).toInt32) &&& 255)) 16 (((pe.toUInt32 >>> ((24 : Int32).toUInt32 &&& Int32.toUInt32 31)).toInt32) &&& 255)) 17 (((pe.toUInt32 >>> ((16 : Int32).toUInt32 &&& Int32.toUInt32 31)).toInt32) &&& 255)) 18 (((pe.toUInt32 >>> ((8 : Int32).toUInt32 &&& Int32.toUInt32 31)).toInt32) &&& 255)) 19 (((pe.toUInt32 >>> ((0 : Int32).toUInt32 &&& Int32.toUInt32 31)).toInt32) &&& 255))))] := hD
  refine W.widen (k := 0) (n := 0) (by omega) (by omega) ?_
  refine lv_iconst (v := 1) hx hb dX11_feed_42 (by decide) ?_
  have hP9 := hP.sub (ws' := []) [] rfl
  have hD9 := hD.sub (ws' := []) [] (by decide) rfl
  refine W.widen (k := 0) (n := 0) (by omega) (by omega) ?_
  exact W.zret (v := 1) hx hb hr rfl (fun t ht9 hW => ⟨⟨1, (), rfl, rfl, by rw [ht9]; exact hP9, hD9⟩, hS.F ht9⟩) hS.2.2 dX11_feed_43
set_option maxHeartbeats 4000000 in
set_option maxRecDepth 100000 in
/-- X11_fault on a new object -/
theorem c_X11_fault (l : Launch) (dC : Nat → ClassId) (dI : Nat → Nat → Nat) (cI cB cZ cJ cR : ClassId) (tb : Nat → Nat) (sz : Nat) (h0 : Nat) (pa : Int32) (q1 : Nat) (q9 : Nat) (q18 : Nat) (q27 : Nat) (q42 : Nat) (q2 : Nat) (q45 : Nat) (q50 : Nat) (q5 : Nat)  : Met l yX11_fault (Cond.code yX11_fault cX11_fault 2 (some .int) :: tw_W) ({ frames := 0, cells := 0, slots := 0, locals := 0 }) (pc_ (dC, dI) (tyS cI cB cZ cJ cR) tb [(h0, .inr (14, [.ref q1, .int 0, .ref q9, .ref q18, .ref q27, .ref q42, .int 0, .int (-1), .ref q2, .ref q45, .ref q50, .ref q5]))] sz [.ref h0, .int pa]) (qi_ (dC, dI) [(h0, .inr (14, [.ref q1, .int 0, .ref q9, .ref q18, .ref q27, .ref q42, .int 0, .int (-1), .ref q2, .ref q45, .ref q50, .ref q5]))] sz (fun (r : Int32) (u : Unit) => r = (if pa = 0 then 0 else (-1))) (fun (u : Unit) => [])) 0 0 (va_A [(h0, .inr (14, [.ref q1, .int 0, .ref q9, .ref q18, .ref q27, .ref q42, .int 0, .int (-1), .ref q2, .ref q45, .ref q50, .ref q5]))] sz) := by
  refine Met.ofW (cc := cX11_fault) (maxL := 2) (ret := (some .int)) (by decide) rfl ?_
  intro p e s m args below meth c s₁ B hml hv
  obtain ⟨rfl, hsz, hP, hKK, hD0, hFx⟩ := hv
  have hK := hKK.1
  have hx := B.exec
  have hb := B.bytes
  have hr := B.returns
  have ht : ∀ w ∈ tw_W, w.before _ s = true := fun w h => atoms_spec (ws := Cond.code yX11_fault cX11_fault 2 (some .int) :: tw_W) B.pre w (List.mem_cons_of_mem _ h)
  have hown : s.vm.findClass RX11 = some m.cls := findClass_of_methodNamed B.named
  have hlocks := B.notSynchronized
  subst hsz
  unfold qi_
  have hD := hD0.self (sz := s.heap.size)
  generalize hAe : va_A [(h0, .inr (14, [.ref q1, .int 0, .ref q9, .ref q18, .ref q27, .ref q42, .int 0, .int (-1), .ref q2, .ref q45, .ref q50, .ref q5]))] s.heap.size = A at hD hFx ⊢
  have hA : ∀ q : Nat, s.heap.size ≤ q → A q := fun q h => by rw [← hAe]; exact Or.inr h
  have hS : va_S A s.heap s.heap [] := va_S.rf
  have hP : va_P (dC, dI) vwCl [(h0, .inr (14, [.ref q1, .int 0, .ref q9, .ref q18, .ref q27, .ref q42, .int 0, .int (-1), .ref q2, .ref q45, .ref q50, .ref q5]))] s.heap := hP
  have hl := lv_entry ([.ref h0, .int pa]) (n := 2) (Nat.le_of_ble_eq_true rfl)
  rw [lg_entry_eq]
  generalize (lg_sl ([.ref h0, .int pa]) ++ List.replicate (2 - (lg_sl ([.ref h0, .int pa])).length) Slot.unset).toArray = ls at hl ⊢
  have hl : lv_has ls 2 [(0, .ref h0), (1, .int pa)] := hl
  refine lv_iload_n hx hb dX11_fault_0 rfl (lv_at hl 1 rfl) ?_
  by_cases h1 : pa = 0
  · refine lv_lookup (off := 27) (tgt := 28) hx hb dX11_fault_1 (by decide) (by rw [h1]; decide) (by decide) ?_
    refine lv_aload_n hx hb dX11_fault_28 rfl (lv_at hl 0 rfl) ?_
    refine va_get (D := (dC, dI)) (ci := 14) (v := .int 0) (C := RX11) (T := TX11) (N := 12) hx hb ht itX11 hown hK hP 0 rfl rfl 6 (by decide) (ht _ tw_215) (fun _ h9 => h9) rfl dX11_fault_29 ?_
    have hP9 := hP.sub (ws' := []) [] rfl
    have hD9 := hD.sub (ws' := []) [] (by decide) rfl
    refine W.widen (k := 0) (n := 0) (by omega) (by omega) ?_
    exact W.iret (v := 0) hx hb hr (fun t ht9 hW => ⟨⟨0, (), rfl, (by rw [if_pos h1]), by rw [ht9]; exact hP9, hD9⟩, hS.F ht9⟩) hS.2.2 dX11_fault_32
  ·
    by_cases h2 : pa = 1
    · refine lv_lookup (off := 32) (tgt := 33) hx hb dX11_fault_1 (by decide) (by rw [h2]; decide) (by decide) ?_
      refine lv_aload_n hx hb dX11_fault_33 rfl (lv_at hl 0 rfl) ?_
      refine va_get (D := (dC, dI)) (ci := 14) (v := .int (-1)) (C := RX11) (T := TX11) (N := 12) hx hb ht itX11 hown hK hP 0 rfl rfl 7 (by decide) (ht _ tw_86) (fun _ h9 => h9) rfl dX11_fault_34 ?_
      have hP9 := hP.sub (ws' := []) [] rfl
      have hD9 := hD.sub (ws' := []) [] (by decide) rfl
      refine W.widen (k := 0) (n := 0) (by omega) (by omega) ?_
      exact W.iret (v := (-1)) hx hb hr (fun t ht9 hW => ⟨⟨(-1), (), rfl, (by rw [if_neg h1]), by rw [ht9]; exact hP9, hD9⟩, hS.F ht9⟩) hS.2.2 dX11_fault_37
    ·
      refine lv_lookup (off := 37) (tgt := 38) hx hb dX11_fault_1 (by decide) (by show Op.lookupswitch.offset [(0, 27), (1, 32)] 37 _ = 37; rw [lv_osw h1 (by decide), lv_osw h2 (by decide)]; rfl) (by decide) ?_
      refine lv_iconst (v := -1) hx hb dX11_fault_38 (by decide) ?_
      have hP9 := hP.sub (ws' := []) [] rfl
      have hD9 := hD.sub (ws' := []) [] (by decide) rfl
      refine W.widen (k := 0) (n := 0) (by omega) (by omega) ?_
      exact W.iret (v := (-1)) hx hb hr (fun t ht9 hW => ⟨⟨(-1), (), rfl, (by rw [if_neg h1]), by rw [ht9]; exact hP9, hD9⟩, hS.F ht9⟩) hS.2.2 dX11_fault_39
set_option maxHeartbeats 4000000 in
set_option maxRecDepth 100000 in
theorem c_X7_functionFact (l : Launch) (dC : Nat → ClassId) (dI : Nat → Nat → Nat) (cI cB cZ cJ cR : ClassId) (tb : Nat → Nat) (sz : Nat) (a0_ : Nat) (x0_ : Int32) (x1_ : Int32) (a1_ : Nat) (a2_ : Nat) (a3_ : Nat) (a4_ : Nat) (a5_ : Nat) (a6_ : Nat) (a7_ : Nat)  : Met l yX7_functionFact (Cond.code yX7_functionFact cX7_functionFact 3 (some .int) :: tw_W) ({ frames := 0, cells := 0, slots := 0, locals := 0 }) (pc_ (dC, dI) (tyS cI cB cZ cJ cR) tb [(a0_, .inr (10, [.ref a1_, .int 0, .ref a2_, .int 0, .ref a3_, .int 0, .ref a4_, .ref a5_, .ref a6_, .int 0, .ref a7_, .int 2, .int 8]))] sz [.ref a0_, .int x0_, .int x1_]) (qi_ (dC, dI) [(a0_, .inr (10, [.ref a1_, .int 0, .ref a2_, .int 0, .ref a3_, .int 0, .ref a4_, .ref a5_, .ref a6_, .int 0, .ref a7_, .int 2, .int 8]))] sz (fun (r : Int32) (u : Unit) => r = (-1)) (fun (u : Unit) => [(a0_, .inr (10, [.ref a1_, .int 0, .ref a2_, .int 0, .ref a3_, .int 0, .ref a4_, .ref a5_, .ref a6_, .int 0, .ref a7_, .int 2, .int 8]))])) 0 0 (va_A [(a0_, .inr (10, [.ref a1_, .int 0, .ref a2_, .int 0, .ref a3_, .int 0, .ref a4_, .ref a5_, .ref a6_, .int 0, .ref a7_, .int 2, .int 8]))] sz) := by
  refine Met.ofW (cc := cX7_functionFact) (maxL := 3) (ret := (some .int)) (by decide) rfl ?_
  intro p e s m args below meth c s₁ B hml hv
  obtain ⟨rfl, hsz, hP, hKK, hD0, hFx⟩ := hv
  have hK := hKK.1
  have hx := B.exec
  have hb := B.bytes
  have hr := B.returns
  have ht : ∀ w ∈ tw_W, w.before _ s = true := fun w h => atoms_spec (ws := Cond.code yX7_functionFact cX7_functionFact 3 (some .int) :: tw_W) B.pre w (List.mem_cons_of_mem _ h)
  have hown : s.vm.findClass RX7 = some m.cls := findClass_of_methodNamed B.named
  have hlocks := B.notSynchronized
  subst hsz
  unfold qi_
  have hD := hD0.self (sz := s.heap.size)
  generalize hAe : va_A [(a0_, .inr (10, [.ref a1_, .int 0, .ref a2_, .int 0, .ref a3_, .int 0, .ref a4_, .ref a5_, .ref a6_, .int 0, .ref a7_, .int 2, .int 8]))] s.heap.size = A at hD hFx ⊢
  have hA : ∀ q : Nat, s.heap.size ≤ q → A q := fun q h => by rw [← hAe]; exact Or.inr h
  have hS : va_S A s.heap s.heap [] := va_S.rf
  have hP : va_P (dC, dI) vwCl [(a0_, .inr (10, [.ref a1_, .int 0, .ref a2_, .int 0, .ref a3_, .int 0, .ref a4_, .ref a5_, .ref a6_, .int 0, .ref a7_, .int 2, .int 8]))] s.heap := hP
  have hl := lv_entry ([.ref a0_, .int x0_, .int x1_]) (n := 3) (Nat.le_of_ble_eq_true rfl)
  rw [lg_entry_eq]
  generalize (lg_sl ([.ref a0_, .int x0_, .int x1_]) ++ List.replicate (3 - (lg_sl ([.ref a0_, .int x0_, .int x1_])).length) Slot.unset).toArray = ls at hl ⊢
  have hl : lv_has ls 3 [(0, .ref a0_), (1, .int x0_), (2, .int x1_)] := hl
  refine lv_iload_n hx hb dX7_functionFact_0 rfl (lv_at hl 1 rfl) ?_
  refine lv_if_lt (tgt := 21) hx hb dX7_functionFact_1 (by decide) (fun h1 => ?_) (fun h1 => ?_)
  · refine lv_iconst (v := -1) hx hb dX7_functionFact_21 (by decide) ?_
    have hP9 := hP.sub (ws' := [(a0_, .inr (10, [.ref a1_, .int 0, .ref a2_, .int 0, .ref a3_, .int 0, .ref a4_, .ref a5_, .ref a6_, .int 0, .ref a7_, .int 2, .int 8]))]) [0] rfl
    have hD9 := hD.sub (ws' := [(a0_, .inr (10, [.ref a1_, .int 0, .ref a2_, .int 0, .ref a3_, .int 0, .ref a4_, .ref a5_, .ref a6_, .int 0, .ref a7_, .int 2, .int 8]))]) [0] (by decide) rfl
    refine W.widen (k := 0) (n := 0) (by omega) (by omega) ?_
    exact W.iret (v := (-1)) hx hb hr (fun t ht9 hW => ⟨⟨(-1), (), rfl, rfl, by rw [ht9]; exact hP9, hD9⟩, hS.F ht9⟩) hS.2.2 dX7_functionFact_22
  · refine lv_iload_n hx hb dX7_functionFact_4 rfl (lv_at hl 1 rfl) ?_
    refine lv_aload_n hx hb dX7_functionFact_5 rfl (lv_at hl 0 rfl) ?_
    refine va_get (D := (dC, dI)) (ci := 10) (v := .int 0) (C := RX7) (T := TX7) (N := 13) hx hb ht itX7 hown hK hP 0 rfl rfl 3 (by decide) (ht _ tw_167) (fun _ h9 => h9) rfl dX7_functionFact_6 ?_
    refine lv_icmp_ge (tgt := 21) hx hb dX7_functionFact_9 (by decide) (fun _ => ?_) (fun k2 => False.elim (by rw [Int32.lt_iff_toInt_lt] at h1; rw [Int32.le_iff_toInt_le] at k2; have : (0 : Int32).toInt = 0 := (by decide); omega))
    refine lv_iconst (v := -1) hx hb dX7_functionFact_21 (by decide) ?_
    have hP9 := hP.sub (ws' := [(a0_, .inr (10, [.ref a1_, .int 0, .ref a2_, .int 0, .ref a3_, .int 0, .ref a4_, .ref a5_, .ref a6_, .int 0, .ref a7_, .int 2, .int 8]))]) [0] rfl
    have hD9 := hD.sub (ws' := [(a0_, .inr (10, [.ref a1_, .int 0, .ref a2_, .int 0, .ref a3_, .int 0, .ref a4_, .ref a5_, .ref a6_, .int 0, .ref a7_, .int 2, .int 8]))]) [0] (by decide) rfl
    refine W.widen (k := 0) (n := 0) (by omega) (by omega) ?_
    exact W.iret (v := (-1)) hx hb hr (fun t ht9 hW => ⟨⟨(-1), (), rfl, rfl, by rw [ht9]; exact hP9, hD9⟩, hS.F ht9⟩) hS.2.2 dX7_functionFact_22
set_option maxHeartbeats 4000000 in
set_option maxRecDepth 100000 in
/-- X11_function on a new object -/
theorem c_X11_function (l : Launch) (dC : Nat → ClassId) (dI : Nat → Nat → Nat) (cI cB cZ cJ cR : ClassId) (tb : Nat → Nat) (sz : Nat) (h0 : Nat) (pa : Int32) (pb : Int32) (q1 : Nat) (q9 : Nat) (q18 : Nat) (q27 : Nat) (q42 : Nat) (q2 : Nat) (q45 : Nat) (q50 : Nat) (q5 : Nat) (q11 : Nat) (q12 : Nat) (q13 : Nat) (q14 : Nat) (q15 : Nat) (q16 : Nat) (q17 : Nat)  : Met l yX11_function (Cond.code yX11_function cX11_function 3 (some .int) :: tw_W) ({ frames := 1, cells := 0, slots := 0, locals := 22 }) (pc_ (dC, dI) (tyS cI cB cZ cJ cR) tb [(h0, .inr (14, [.ref q1, .int 0, .ref q9, .ref q18, .ref q27, .ref q42, .int 0, .int (-1), .ref q2, .ref q45, .ref q50, .ref q5])), (q9, .inr (10, [.ref q11, .int 0, .ref q12, .int 0, .ref q13, .int 0, .ref q14, .ref q15, .ref q16, .int 0, .ref q17, .int 2, .int 8]))] sz [.ref h0, .int pa, .int pb]) (qi_ (dC, dI) [(h0, .inr (14, [.ref q1, .int 0, .ref q9, .ref q18, .ref q27, .ref q42, .int 0, .int (-1), .ref q2, .ref q45, .ref q50, .ref q5])), (q9, .inr (10, [.ref q11, .int 0, .ref q12, .int 0, .ref q13, .int 0, .ref q14, .ref q15, .ref q16, .int 0, .ref q17, .int 2, .int 8]))] sz (fun (r : Int32) (u : Unit) => r = (-1)) (fun (u : Unit) => [])) 0 0 (va_A [(h0, .inr (14, [.ref q1, .int 0, .ref q9, .ref q18, .ref q27, .ref q42, .int 0, .int (-1), .ref q2, .ref q45, .ref q50, .ref q5])), (q9, .inr (10, [.ref q11, .int 0, .ref q12, .int 0, .ref q13, .int 0, .ref q14, .ref q15, .ref q16, .int 0, .ref q17, .int 2, .int 8]))] sz) := by
  refine Met.ofW (cc := cX11_function) (maxL := 3) (ret := (some .int)) (by decide) rfl ?_
  intro p e s m args below meth c s₁ B hml hv
  obtain ⟨rfl, hsz, hP, hKK, hD0, hFx⟩ := hv
  have hK := hKK.1
  have hx := B.exec
  have hb := B.bytes
  have hr := B.returns
  have ht : ∀ w ∈ tw_W, w.before _ s = true := fun w h => atoms_spec (ws := Cond.code yX11_function cX11_function 3 (some .int) :: tw_W) B.pre w (List.mem_cons_of_mem _ h)
  have hown : s.vm.findClass RX11 = some m.cls := findClass_of_methodNamed B.named
  have hlocks := B.notSynchronized
  subst hsz
  unfold qi_
  have hD := hD0.self (sz := s.heap.size)
  generalize hAe : va_A [(h0, .inr (14, [.ref q1, .int 0, .ref q9, .ref q18, .ref q27, .ref q42, .int 0, .int (-1), .ref q2, .ref q45, .ref q50, .ref q5])), (q9, .inr (10, [.ref q11, .int 0, .ref q12, .int 0, .ref q13, .int 0, .ref q14, .ref q15, .ref q16, .int 0, .ref q17, .int 2, .int 8]))] s.heap.size = A at hD hFx ⊢
  have hA : ∀ q : Nat, s.heap.size ≤ q → A q := fun q h => by rw [← hAe]; exact Or.inr h
  have hS : va_S A s.heap s.heap [] := va_S.rf
  have hP : va_P (dC, dI) vwCl [(h0, .inr (14, [.ref q1, .int 0, .ref q9, .ref q18, .ref q27, .ref q42, .int 0, .int (-1), .ref q2, .ref q45, .ref q50, .ref q5])), (q9, .inr (10, [.ref q11, .int 0, .ref q12, .int 0, .ref q13, .int 0, .ref q14, .ref q15, .ref q16, .int 0, .ref q17, .int 2, .int 8]))] s.heap := hP
  have hl := lv_entry ([.ref h0, .int pa, .int pb]) (n := 3) (Nat.le_of_ble_eq_true rfl)
  rw [lg_entry_eq]
  generalize (lg_sl ([.ref h0, .int pa, .int pb]) ++ List.replicate (3 - (lg_sl ([.ref h0, .int pa, .int pb])).length) Slot.unset).toArray = ls at hl ⊢
  have hl : lv_has ls 3 [(0, .ref h0), (1, .int pa), (2, .int pb)] := hl
  refine lv_iload_n hx hb dX11_function_0 rfl (lv_at hl 2 rfl) ?_
  refine lv_if_lt (tgt := 21) hx hb dX11_function_1 (by decide) (fun h1 => ?_) (fun h1 => ?_)
  · refine lv_iconst (v := -1) hx hb dX11_function_21 (by decide) ?_
    have hP9 := hP.sub (ws' := []) [] rfl
    have hD9 := hD.sub (ws' := []) [] (by decide) rfl
    refine W.widen (k := 0) (n := 0) (by omega) (by omega) ?_
    exact W.iret (v := (-1)) hx hb hr (fun t ht9 hW => ⟨⟨(-1), (), rfl, rfl, by rw [ht9]; exact hP9, hD9⟩, hS.F ht9⟩) hS.2.2 dX11_function_22
  · refine lv_iload_n hx hb dX11_function_4 rfl (lv_at hl 2 rfl) ?_
    refine lv_iconst (v := 3) hx hb dX11_function_5 (by decide) ?_
    refine lv_icmp_gt (tgt := 21) hx hb dX11_function_6 (by decide) (fun h2 => ?_) (fun h2 => ?_)
    · refine lv_iconst (v := -1) hx hb dX11_function_21 (by decide) ?_
      have hP9 := hP.sub (ws' := []) [] rfl
      have hD9 := hD.sub (ws' := []) [] (by decide) rfl
      refine W.widen (k := 0) (n := 0) (by omega) (by omega) ?_
      exact W.iret (v := (-1)) hx hb hr (fun t ht9 hW => ⟨⟨(-1), (), rfl, rfl, by rw [ht9]; exact hP9, hD9⟩, hS.F ht9⟩) hS.2.2 dX11_function_22
    · refine lv_aload_n hx hb dX11_function_9 rfl (lv_at hl 0 rfl) ?_
      refine va_get (D := (dC, dI)) (ci := 14) (v := .ref q9) (C := RX11) (T := TX11) (N := 12) hx hb ht itX11 hown hK hP 0 rfl rfl 2 (by decide) (ht _ tw_110) (fun _ h9 => h9) rfl dX11_function_10 ?_
      refine lv_iload_n hx hb dX11_function_13 rfl (lv_at hl 1 rfl) ?_
      refine lv_iload_n hx hb dX11_function_14 rfl (lv_at hl 2 rfl) ?_
      refine ca_i (wr := [(h0, .inr (14, [.ref q1, .int 0, .ref q9, .ref q18, .ref q27, .ref q42, .int 0, .int (-1), .ref q2, .ref q45, .ref q50, .ref q5]))]) (rn_V (n := 2) (As := [.int pa, .int pb]) (rest := []) hx hb hml hown ht hKK hFx hP hD hS hA (c_X7_functionFact l dC dI cI cB cZ cJ cR tb s.heap.size q9 pa pb q11 q12 q13 q14 q15 q16 q17) tw_216 tw_217 (by decide +kernel) rfl rfl ⟨Nat.le_of_ble_eq_true rfl, Nat.le_of_ble_eq_true rfl⟩ [1] rfl (by decide) rfl rfl rfl rfl hl.1 rfl (Nat.le_of_ble_eq_true rfl) dX11_function_15 ⟨Nat.le_of_ble_eq_true rfl, Nat.le_of_ble_eq_true rfl⟩) hP hD hS hA (isC := [1]) (isR := [0]) rfl rfl (by decide) (by decide) (fun r4 u H locs hw3 hP hD hS => ?_)
      subst hw3
      have hP : va_P (dC, dI) vwCl [(h0, .inr (14, [.ref q1, .int 0, .ref q9, .ref q18, .ref q27, .ref q42, .int 0, .int (-1), .ref q2, .ref q45, .ref q50, .ref q5])), (q9, .inr (10, [.ref q11, .int 0, .ref q12, .int 0, .ref q13, .int 0, .ref q14, .ref q15, .ref q16, .int 0, .ref q17, .int 2, .int 8]))] H := hP
      have hD : va_D A [(h0, .inr (14, [.ref q1, .int 0, .ref q9, .ref q18, .ref q27, .ref q42, .int 0, .int (-1), .ref q2, .ref q45, .ref q50, .ref q5])), (q9, .inr (10, [.ref q11, .int 0, .ref q12, .int 0, .ref q13, .int 0, .ref q14, .ref q15, .ref q16, .int 0, .ref q17, .int 2, .int 8]))] := hD
      refine W.widen (k := 0) (n := 0) (by omega) (by omega) ?_
      refine lv_goto (tgt := 22) hx hb dX11_function_18 (by decide) ?_
      have hP9 := hP.sub (ws' := []) [] rfl
      have hD9 := hD.sub (ws' := []) [] (by decide) rfl
      refine W.widen (k := 0) (n := 0) (by omega) (by omega) ?_
      exact W.iret (v := (-1)) hx hb hr (fun t ht9 hW => ⟨⟨(-1), (), rfl, rfl, by rw [ht9]; exact hP9, hD9⟩, hS.F ht9⟩) hS.2.2 dX11_function_22
set_option maxHeartbeats 4000000 in
set_option maxRecDepth 100000 in
theorem c_X7_globalFact (l : Launch) (dC : Nat → ClassId) (dI : Nat → Nat → Nat) (cI cB cZ cJ cR : ClassId) (tb : Nat → Nat) (sz : Nat) (a0_ : Nat) (x0_ : Int32) (x1_ : Int32) (a1_ : Nat) (a2_ : Nat) (a3_ : Nat) (a4_ : Nat) (a5_ : Nat) (a6_ : Nat) (a7_ : Nat)  : Met l yX7_globalFact (Cond.code yX7_globalFact cX7_globalFact 3 (some .int) :: tw_W) ({ frames := 0, cells := 0, slots := 0, locals := 0 }) (pc_ (dC, dI) (tyS cI cB cZ cJ cR) tb [(a0_, .inr (10, [.ref a1_, .int 0, .ref a2_, .int 0, .ref a3_, .int 0, .ref a4_, .ref a5_, .ref a6_, .int 0, .ref a7_, .int 2, .int 8]))] sz [.ref a0_, .int x0_, .int x1_]) (qi_ (dC, dI) [(a0_, .inr (10, [.ref a1_, .int 0, .ref a2_, .int 0, .ref a3_, .int 0, .ref a4_, .ref a5_, .ref a6_, .int 0, .ref a7_, .int 2, .int 8]))] sz (fun (r : Int32) (u : Unit) => r = (-1)) (fun (u : Unit) => [(a0_, .inr (10, [.ref a1_, .int 0, .ref a2_, .int 0, .ref a3_, .int 0, .ref a4_, .ref a5_, .ref a6_, .int 0, .ref a7_, .int 2, .int 8]))])) 0 0 (va_A [(a0_, .inr (10, [.ref a1_, .int 0, .ref a2_, .int 0, .ref a3_, .int 0, .ref a4_, .ref a5_, .ref a6_, .int 0, .ref a7_, .int 2, .int 8]))] sz) := by
  refine Met.ofW (cc := cX7_globalFact) (maxL := 3) (ret := (some .int)) (by decide) rfl ?_
  intro p e s m args below meth c s₁ B hml hv
  obtain ⟨rfl, hsz, hP, hKK, hD0, hFx⟩ := hv
  have hK := hKK.1
  have hx := B.exec
  have hb := B.bytes
  have hr := B.returns
  have ht : ∀ w ∈ tw_W, w.before _ s = true := fun w h => atoms_spec (ws := Cond.code yX7_globalFact cX7_globalFact 3 (some .int) :: tw_W) B.pre w (List.mem_cons_of_mem _ h)
  have hown : s.vm.findClass RX7 = some m.cls := findClass_of_methodNamed B.named
  have hlocks := B.notSynchronized
  subst hsz
  unfold qi_
  have hD := hD0.self (sz := s.heap.size)
  generalize hAe : va_A [(a0_, .inr (10, [.ref a1_, .int 0, .ref a2_, .int 0, .ref a3_, .int 0, .ref a4_, .ref a5_, .ref a6_, .int 0, .ref a7_, .int 2, .int 8]))] s.heap.size = A at hD hFx ⊢
  have hA : ∀ q : Nat, s.heap.size ≤ q → A q := fun q h => by rw [← hAe]; exact Or.inr h
  have hS : va_S A s.heap s.heap [] := va_S.rf
  have hP : va_P (dC, dI) vwCl [(a0_, .inr (10, [.ref a1_, .int 0, .ref a2_, .int 0, .ref a3_, .int 0, .ref a4_, .ref a5_, .ref a6_, .int 0, .ref a7_, .int 2, .int 8]))] s.heap := hP
  have hl := lv_entry ([.ref a0_, .int x0_, .int x1_]) (n := 3) (Nat.le_of_ble_eq_true rfl)
  rw [lg_entry_eq]
  generalize (lg_sl ([.ref a0_, .int x0_, .int x1_]) ++ List.replicate (3 - (lg_sl ([.ref a0_, .int x0_, .int x1_])).length) Slot.unset).toArray = ls at hl ⊢
  have hl : lv_has ls 3 [(0, .ref a0_), (1, .int x0_), (2, .int x1_)] := hl
  refine lv_iload_n hx hb dX7_globalFact_0 rfl (lv_at hl 1 rfl) ?_
  refine lv_if_lt (tgt := 21) hx hb dX7_globalFact_1 (by decide) (fun h1 => ?_) (fun h1 => ?_)
  · refine lv_iconst (v := -1) hx hb dX7_globalFact_21 (by decide) ?_
    have hP9 := hP.sub (ws' := [(a0_, .inr (10, [.ref a1_, .int 0, .ref a2_, .int 0, .ref a3_, .int 0, .ref a4_, .ref a5_, .ref a6_, .int 0, .ref a7_, .int 2, .int 8]))]) [0] rfl
    have hD9 := hD.sub (ws' := [(a0_, .inr (10, [.ref a1_, .int 0, .ref a2_, .int 0, .ref a3_, .int 0, .ref a4_, .ref a5_, .ref a6_, .int 0, .ref a7_, .int 2, .int 8]))]) [0] (by decide) rfl
    refine W.widen (k := 0) (n := 0) (by omega) (by omega) ?_
    exact W.iret (v := (-1)) hx hb hr (fun t ht9 hW => ⟨⟨(-1), (), rfl, rfl, by rw [ht9]; exact hP9, hD9⟩, hS.F ht9⟩) hS.2.2 dX7_globalFact_22
  · refine lv_iload_n hx hb dX7_globalFact_4 rfl (lv_at hl 1 rfl) ?_
    refine lv_aload_n hx hb dX7_globalFact_5 rfl (lv_at hl 0 rfl) ?_
    refine va_get (D := (dC, dI)) (ci := 10) (v := .int 0) (C := RX7) (T := TX7) (N := 13) hx hb ht itX7 hown hK hP 0 rfl rfl 5 (by decide) (ht _ tw_168) (fun _ h9 => h9) rfl dX7_globalFact_6 ?_
    refine lv_icmp_ge (tgt := 21) hx hb dX7_globalFact_9 (by decide) (fun _ => ?_) (fun k2 => False.elim (by rw [Int32.lt_iff_toInt_lt] at h1; rw [Int32.le_iff_toInt_le] at k2; have : (0 : Int32).toInt = 0 := (by decide); omega))
    refine lv_iconst (v := -1) hx hb dX7_globalFact_21 (by decide) ?_
    have hP9 := hP.sub (ws' := [(a0_, .inr (10, [.ref a1_, .int 0, .ref a2_, .int 0, .ref a3_, .int 0, .ref a4_, .ref a5_, .ref a6_, .int 0, .ref a7_, .int 2, .int 8]))]) [0] rfl
    have hD9 := hD.sub (ws' := [(a0_, .inr (10, [.ref a1_, .int 0, .ref a2_, .int 0, .ref a3_, .int 0, .ref a4_, .ref a5_, .ref a6_, .int 0, .ref a7_, .int 2, .int 8]))]) [0] (by decide) rfl
    refine W.widen (k := 0) (n := 0) (by omega) (by omega) ?_
    exact W.iret (v := (-1)) hx hb hr (fun t ht9 hW => ⟨⟨(-1), (), rfl, rfl, by rw [ht9]; exact hP9, hD9⟩, hS.F ht9⟩) hS.2.2 dX7_globalFact_22
set_option maxHeartbeats 4000000 in
set_option maxRecDepth 100000 in
/-- X11_global on a new object -/
theorem c_X11_global (l : Launch) (dC : Nat → ClassId) (dI : Nat → Nat → Nat) (cI cB cZ cJ cR : ClassId) (tb : Nat → Nat) (sz : Nat) (h0 : Nat) (pa : Int32) (pb : Int32) (q1 : Nat) (q9 : Nat) (q18 : Nat) (q27 : Nat) (q42 : Nat) (q2 : Nat) (q45 : Nat) (q50 : Nat) (q5 : Nat) (q11 : Nat) (q12 : Nat) (q13 : Nat) (q14 : Nat) (q15 : Nat) (q16 : Nat) (q17 : Nat)  : Met l yX11_global (Cond.code yX11_global cX11_global 3 (some .int) :: tw_W) ({ frames := 1, cells := 0, slots := 0, locals := 22 }) (pc_ (dC, dI) (tyS cI cB cZ cJ cR) tb [(h0, .inr (14, [.ref q1, .int 0, .ref q9, .ref q18, .ref q27, .ref q42, .int 0, .int (-1), .ref q2, .ref q45, .ref q50, .ref q5])), (q9, .inr (10, [.ref q11, .int 0, .ref q12, .int 0, .ref q13, .int 0, .ref q14, .ref q15, .ref q16, .int 0, .ref q17, .int 2, .int 8]))] sz [.ref h0, .int pa, .int pb]) (qi_ (dC, dI) [(h0, .inr (14, [.ref q1, .int 0, .ref q9, .ref q18, .ref q27, .ref q42, .int 0, .int (-1), .ref q2, .ref q45, .ref q50, .ref q5])), (q9, .inr (10, [.ref q11, .int 0, .ref q12, .int 0, .ref q13, .int 0, .ref q14, .ref q15, .ref q16, .int 0, .ref q17, .int 2, .int 8]))] sz (fun (r : Int32) (u : Unit) => r = (-1)) (fun (u : Unit) => [])) 0 0 (va_A [(h0, .inr (14, [.ref q1, .int 0, .ref q9, .ref q18, .ref q27, .ref q42, .int 0, .int (-1), .ref q2, .ref q45, .ref q50, .ref q5])), (q9, .inr (10, [.ref q11, .int 0, .ref q12, .int 0, .ref q13, .int 0, .ref q14, .ref q15, .ref q16, .int 0, .ref q17, .int 2, .int 8]))] sz) := by
  refine Met.ofW (cc := cX11_global) (maxL := 3) (ret := (some .int)) (by decide) rfl ?_
  intro p e s m args below meth c s₁ B hml hv
  obtain ⟨rfl, hsz, hP, hKK, hD0, hFx⟩ := hv
  have hK := hKK.1
  have hx := B.exec
  have hb := B.bytes
  have hr := B.returns
  have ht : ∀ w ∈ tw_W, w.before _ s = true := fun w h => atoms_spec (ws := Cond.code yX11_global cX11_global 3 (some .int) :: tw_W) B.pre w (List.mem_cons_of_mem _ h)
  have hown : s.vm.findClass RX11 = some m.cls := findClass_of_methodNamed B.named
  have hlocks := B.notSynchronized
  subst hsz
  unfold qi_
  have hD := hD0.self (sz := s.heap.size)
  generalize hAe : va_A [(h0, .inr (14, [.ref q1, .int 0, .ref q9, .ref q18, .ref q27, .ref q42, .int 0, .int (-1), .ref q2, .ref q45, .ref q50, .ref q5])), (q9, .inr (10, [.ref q11, .int 0, .ref q12, .int 0, .ref q13, .int 0, .ref q14, .ref q15, .ref q16, .int 0, .ref q17, .int 2, .int 8]))] s.heap.size = A at hD hFx ⊢
  have hA : ∀ q : Nat, s.heap.size ≤ q → A q := fun q h => by rw [← hAe]; exact Or.inr h
  have hS : va_S A s.heap s.heap [] := va_S.rf
  have hP : va_P (dC, dI) vwCl [(h0, .inr (14, [.ref q1, .int 0, .ref q9, .ref q18, .ref q27, .ref q42, .int 0, .int (-1), .ref q2, .ref q45, .ref q50, .ref q5])), (q9, .inr (10, [.ref q11, .int 0, .ref q12, .int 0, .ref q13, .int 0, .ref q14, .ref q15, .ref q16, .int 0, .ref q17, .int 2, .int 8]))] s.heap := hP
  have hl := lv_entry ([.ref h0, .int pa, .int pb]) (n := 3) (Nat.le_of_ble_eq_true rfl)
  rw [lg_entry_eq]
  generalize (lg_sl ([.ref h0, .int pa, .int pb]) ++ List.replicate (3 - (lg_sl ([.ref h0, .int pa, .int pb])).length) Slot.unset).toArray = ls at hl ⊢
  have hl : lv_has ls 3 [(0, .ref h0), (1, .int pa), (2, .int pb)] := hl
  refine lv_iload_n hx hb dX11_global_0 rfl (lv_at hl 2 rfl) ?_
  refine lv_if_lt (tgt := 21) hx hb dX11_global_1 (by decide) (fun h1 => ?_) (fun h1 => ?_)
  · refine lv_iconst (v := -1) hx hb dX11_global_21 (by decide) ?_
    have hP9 := hP.sub (ws' := []) [] rfl
    have hD9 := hD.sub (ws' := []) [] (by decide) rfl
    refine W.widen (k := 0) (n := 0) (by omega) (by omega) ?_
    exact W.iret (v := (-1)) hx hb hr (fun t ht9 hW => ⟨⟨(-1), (), rfl, rfl, by rw [ht9]; exact hP9, hD9⟩, hS.F ht9⟩) hS.2.2 dX11_global_22
  · refine lv_iload_n hx hb dX11_global_4 rfl (lv_at hl 2 rfl) ?_
    refine lv_iconst (v := 3) hx hb dX11_global_5 (by decide) ?_
    refine lv_icmp_gt (tgt := 21) hx hb dX11_global_6 (by decide) (fun h2 => ?_) (fun h2 => ?_)
    · refine lv_iconst (v := -1) hx hb dX11_global_21 (by decide) ?_
      have hP9 := hP.sub (ws' := []) [] rfl
      have hD9 := hD.sub (ws' := []) [] (by decide) rfl
      refine W.widen (k := 0) (n := 0) (by omega) (by omega) ?_
      exact W.iret (v := (-1)) hx hb hr (fun t ht9 hW => ⟨⟨(-1), (), rfl, rfl, by rw [ht9]; exact hP9, hD9⟩, hS.F ht9⟩) hS.2.2 dX11_global_22
    · refine lv_aload_n hx hb dX11_global_9 rfl (lv_at hl 0 rfl) ?_
      refine va_get (D := (dC, dI)) (ci := 14) (v := .ref q9) (C := RX11) (T := TX11) (N := 12) hx hb ht itX11 hown hK hP 0 rfl rfl 2 (by decide) (ht _ tw_110) (fun _ h9 => h9) rfl dX11_global_10 ?_
      refine lv_iload_n hx hb dX11_global_13 rfl (lv_at hl 1 rfl) ?_
      refine lv_iload_n hx hb dX11_global_14 rfl (lv_at hl 2 rfl) ?_
      refine ca_i (wr := [(h0, .inr (14, [.ref q1, .int 0, .ref q9, .ref q18, .ref q27, .ref q42, .int 0, .int (-1), .ref q2, .ref q45, .ref q50, .ref q5]))]) (rn_V (n := 2) (As := [.int pa, .int pb]) (rest := []) hx hb hml hown ht hKK hFx hP hD hS hA (c_X7_globalFact l dC dI cI cB cZ cJ cR tb s.heap.size q9 pa pb q11 q12 q13 q14 q15 q16 q17) tw_218 tw_219 (by decide +kernel) rfl rfl ⟨Nat.le_of_ble_eq_true rfl, Nat.le_of_ble_eq_true rfl⟩ [1] rfl (by decide) rfl rfl rfl rfl hl.1 rfl (Nat.le_of_ble_eq_true rfl) dX11_global_15 ⟨Nat.le_of_ble_eq_true rfl, Nat.le_of_ble_eq_true rfl⟩) hP hD hS hA (isC := [1]) (isR := [0]) rfl rfl (by decide) (by decide) (fun r4 u H locs hw3 hP hD hS => ?_)
      subst hw3
      have hP : va_P (dC, dI) vwCl [(h0, .inr (14, [.ref q1, .int 0, .ref q9, .ref q18, .ref q27, .ref q42, .int 0, .int (-1), .ref q2, .ref q45, .ref q50, .ref q5])), (q9, .inr (10, [.ref q11, .int 0, .ref q12, .int 0, .ref q13, .int 0, .ref q14, .ref q15, .ref q16, .int 0, .ref q17, .int 2, .int 8]))] H := hP
      have hD : va_D A [(h0, .inr (14, [.ref q1, .int 0, .ref q9, .ref q18, .ref q27, .ref q42, .int 0, .int (-1), .ref q2, .ref q45, .ref q50, .ref q5])), (q9, .inr (10, [.ref q11, .int 0, .ref q12, .int 0, .ref q13, .int 0, .ref q14, .ref q15, .ref q16, .int 0, .ref q17, .int 2, .int 8]))] := hD
      refine W.widen (k := 0) (n := 0) (by omega) (by omega) ?_
      refine lv_goto (tgt := 22) hx hb dX11_global_18 (by decide) ?_
      have hP9 := hP.sub (ws' := []) [] rfl
      have hD9 := hD.sub (ws' := []) [] (by decide) rfl
      refine W.widen (k := 0) (n := 0) (by omega) (by omega) ?_
      exact W.iret (v := (-1)) hx hb hr (fun t ht9 hW => ⟨⟨(-1), (), rfl, rfl, by rw [ht9]; exact hP9, hD9⟩, hS.F ht9⟩) hS.2.2 dX11_global_22
set_option maxHeartbeats 4000000 in
set_option maxRecDepth 100000 in
theorem c_X3_add (l : Launch) (dC : Nat → ClassId) (dI : Nat → Nat → Nat) (cI cB cZ cJ cR : ClassId) (tb : Nat → Nat) (sz : Nat) (a0_ : Nat) (x0_ : Int32) (a1_ : Nat)  : Met l yX3_add (Cond.code yX3_add cX3_add 2 (some .int) :: tw_W) ({ frames := 0, cells := 0, slots := 0, locals := 0 }) (pc_ (dC, dI) (tyS cI cB cZ cJ cR) tb [(a0_, .inr (7, [.ref a1_, .int 0, .int 0])), (a1_, .inl (cI, 64, .inl (fun _ => 0)))] sz [.ref a0_, .int x0_]) (qi_ (dC, dI) [(a0_, .inr (7, [.ref a1_, .int 0, .int 0])), (a1_, .inl (cI, 64, .inl (fun _ => 0)))] sz (fun (r : Int32) (u : Unit) => r = 1) (fun (u : Unit) => [(a0_, .inr (7, [.ref a1_, .int 1, .int 0])), (a1_, .inl (cI, 64, .inl (upd (fun _ => 0) 0 x0_)))])) 0 0 (va_A [(a0_, .inr (7, [.ref a1_, .int 0, .int 0])), (a1_, .inl (cI, 64, .inl (fun _ => 0)))] sz) := by
  refine Met.ofW (cc := cX3_add) (maxL := 2) (ret := (some .int)) (by decide) rfl ?_
  intro p e s m args below meth c s₁ B hml hv
  obtain ⟨rfl, hsz, hP, hKK, hD0, hFx⟩ := hv
  have hK := hKK.1
  have hx := B.exec
  have hb := B.bytes
  have hr := B.returns
  have ht : ∀ w ∈ tw_W, w.before _ s = true := fun w h => atoms_spec (ws := Cond.code yX3_add cX3_add 2 (some .int) :: tw_W) B.pre w (List.mem_cons_of_mem _ h)
  have hown : s.vm.findClass RX3 = some m.cls := findClass_of_methodNamed B.named
  have hlocks := B.notSynchronized
  subst hsz
  unfold qi_
  have hD := hD0.self (sz := s.heap.size)
  generalize hAe : va_A [(a0_, .inr (7, [.ref a1_, .int 0, .int 0])), (a1_, .inl (cI, 64, .inl (fun _ => 0)))] s.heap.size = A at hD hFx ⊢
  have hA : ∀ q : Nat, s.heap.size ≤ q → A q := fun q h => by rw [← hAe]; exact Or.inr h
  have hS : va_S A s.heap s.heap [] := va_S.rf
  have hP : va_P (dC, dI) vwCl [(a0_, .inr (7, [.ref a1_, .int 0, .int 0])), (a1_, .inl (cI, 64, .inl (fun _ => 0)))] s.heap := hP
  have hl := lv_entry ([.ref a0_, .int x0_]) (n := 2) (Nat.le_of_ble_eq_true rfl)
  rw [lg_entry_eq]
  generalize (lg_sl ([.ref a0_, .int x0_]) ++ List.replicate (2 - (lg_sl ([.ref a0_, .int x0_])).length) Slot.unset).toArray = ls at hl ⊢
  have hl : lv_has ls 2 [(0, .ref a0_), (1, .int x0_)] := hl
  refine lv_aload_n hx hb dX3_add_0 rfl (lv_at hl 0 rfl) ?_
  refine va_get (D := (dC, dI)) (ci := 7) (v := .int 0) (C := RX3) (T := TX3) (N := 3) hx hb ht itX3 hown hK hP 0 rfl rfl 1 (by decide) (ht _ tw_220) (fun _ h9 => h9) rfl dX3_add_1 ?_
  refine lv_bipush (v := 64) hx hb dX3_add_4 (by decide) ?_
  refine lv_icmp_lt (tgt := 11) hx hb dX3_add_6 (by decide) (fun _ => ?_) (fun k1 => absurd k1 (by decide))
  refine lv_aload_n hx hb dX3_add_11 rfl (lv_at hl 0 rfl) ?_
  refine va_get (D := (dC, dI)) (ci := 7) (v := .ref a1_) (C := RX3) (T := TX3) (N := 3) hx hb ht itX3 hown hK hP 0 rfl rfl 0 (by decide) (ht _ tw_91) (fun _ h9 => h9) rfl dX3_add_12 ?_
  refine lv_aload_n hx hb dX3_add_15 rfl (lv_at hl 0 rfl) ?_
  refine va_get (D := (dC, dI)) (ci := 7) (v := .int 0) (C := RX3) (T := TX3) (N := 3) hx hb ht itX3 hown hK hP 0 rfl rfl 1 (by decide) (ht _ tw_220) (fun _ h9 => h9) rfl dX3_add_16 ?_
  refine lv_iload_n hx hb dX3_add_19 rfl (lv_at hl 1 rfl) ?_
  refine va_iast (D := (dC, dI)) hx hb hK hP hD hS 1 0 rfl rfl (vp_in_iff.mpr (by decide)) dX3_add_20 (fun H locs hP hD hS => ?_)
  have hP : va_P (dC, dI) vwCl [(a0_, .inr (7, [.ref a1_, .int 0, .int 0])), (a1_, .inl (cI, 64, .inl (upd (fun _ => 0) 0 x0_)))] H := hP
  have hD : va_D A [(a0_, .inr (7, [.ref a1_, .int 0, .int 0])), (a1_, .inl (cI, 64, .inl (upd (fun _ => 0) 0 x0_)))] := hD
  refine lv_aload_n hx hb dX3_add_21 rfl (lv_at hl 0 rfl) ?_
  refine lv_dup hx hb dX3_add_22 rfl ?_
  refine va_get (D := (dC, dI)) (ci := 7) (v := .int 0) (C := RX3) (T := TX3) (N := 3) hx hb ht itX3 hown hK hP 0 rfl rfl 1 (by decide) (ht _ tw_220) (fun _ h9 => h9) rfl dX3_add_23 ?_
  refine lv_iconst (v := 1) hx hb dX3_add_26 (by decide) ?_
  refine lv_iadd hx hb dX3_add_27 ?_
  refine tp_i (y := 1) (by decide) ?_
  refine va_put (D := (dC, dI)) (ci := 7) (v := .int 1) (ty := .int) (C := RX3) (T := TX3) (N := 3) hx hb ht itX3 tyX3 tyX3_ok nmX3 hown hK hP hD hS 0 rfl rfl 1 (by decide) (ht _ tw_220) (fun _ h9 => h9) rfl (by decide +kernel) rfl rfl (Nat.le_of_ble_eq_true rfl) dX3_add_28 (fun H locs hP hD hS => ?_)
  have hP : va_P (dC, dI) vwCl [(a0_, .inr (7, [.ref a1_, .int 1, .int 0])), (a1_, .inl (cI, 64, .inl (upd (fun _ => 0) 0 x0_)))] H := hP
  have hD : va_D A [(a0_, .inr (7, [.ref a1_, .int 1, .int 0])), (a1_, .inl (cI, 64, .inl (upd (fun _ => 0) 0 x0_)))] := hD
  refine lv_aload_n hx hb dX3_add_31 rfl (lv_at hl 0 rfl) ?_
  refine va_get (D := (dC, dI)) (ci := 7) (v := .int 1) (C := RX3) (T := TX3) (N := 3) hx hb ht itX3 hown hK hP 0 rfl rfl 1 (by decide) (ht _ tw_220) (fun _ h9 => h9) rfl dX3_add_32 ?_
  have hP9 := hP.sub (ws' := [(a0_, .inr (7, [.ref a1_, .int 1, .int 0])), (a1_, .inl (cI, 64, .inl (upd (fun _ => 0) 0 x0_)))]) [0, 1] rfl
  have hD9 := hD.sub (ws' := [(a0_, .inr (7, [.ref a1_, .int 1, .int 0])), (a1_, .inl (cI, 64, .inl (upd (fun _ => 0) 0 x0_)))]) [0, 1] (by decide) rfl
  refine W.widen (k := 0) (n := 0) (by omega) (by omega) ?_
  exact W.iret (v := 1) hx hb hr (fun t ht9 hW => ⟨⟨1, (), rfl, rfl, by rw [ht9]; exact hP9, hD9⟩, hS.F ht9⟩) hS.2.2 dX3_add_35
set_option maxHeartbeats 4000000 in
set_option maxRecDepth 100000 in
/-- X11_give on a new object -/
theorem c_X11_give (l : Launch) (dC : Nat → ClassId) (dI : Nat → Nat → Nat) (cI cB cZ cJ cR : ClassId) (tb : Nat → Nat) (sz : Nat) (h0 : Nat) (pa : Int32) (q1 : Nat) (q9 : Nat) (q18 : Nat) (q27 : Nat) (q42 : Nat) (q2 : Nat) (q45 : Nat) (q50 : Nat) (q5 : Nat) (q4 : Nat)  : Met l yX11_give (Cond.code yX11_give cX11_give 2 (some .int) :: tw_W) ({ frames := 1, cells := 0, slots := 0, locals := 21 }) (pc_ (dC, dI) (tyS cI cB cZ cJ cR) tb [(h0, .inr (14, [.ref q1, .int 0, .ref q9, .ref q18, .ref q27, .ref q42, .int 0, .int (-1), .ref q2, .ref q45, .ref q50, .ref q5])), (q2, .inr (7, [.ref q4, .int 0, .int 0])), (q4, .inl (cI, 64, .inl (fun _ => 0)))] sz [.ref h0, .int pa]) (qi_ (dC, dI) [(h0, .inr (14, [.ref q1, .int 0, .ref q9, .ref q18, .ref q27, .ref q42, .int 0, .int (-1), .ref q2, .ref q45, .ref q50, .ref q5])), (q2, .inr (7, [.ref q4, .int 0, .int 0])), (q4, .inl (cI, 64, .inl (fun _ => 0)))] sz (fun (r : Int32) (u : Unit) => r = 1) (fun (u : Unit) => [])) 0 0 (va_A [(h0, .inr (14, [.ref q1, .int 0, .ref q9, .ref q18, .ref q27, .ref q42, .int 0, .int (-1), .ref q2, .ref q45, .ref q50, .ref q5])), (q2, .inr (7, [.ref q4, .int 0, .int 0])), (q4, .inl (cI, 64, .inl (fun _ => 0)))] sz) := by
  refine Met.ofW (cc := cX11_give) (maxL := 2) (ret := (some .int)) (by decide) rfl ?_
  intro p e s m args below meth c s₁ B hml hv
  obtain ⟨rfl, hsz, hP, hKK, hD0, hFx⟩ := hv
  have hK := hKK.1
  have hx := B.exec
  have hb := B.bytes
  have hr := B.returns
  have ht : ∀ w ∈ tw_W, w.before _ s = true := fun w h => atoms_spec (ws := Cond.code yX11_give cX11_give 2 (some .int) :: tw_W) B.pre w (List.mem_cons_of_mem _ h)
  have hown : s.vm.findClass RX11 = some m.cls := findClass_of_methodNamed B.named
  have hlocks := B.notSynchronized
  subst hsz
  unfold qi_
  have hD := hD0.self (sz := s.heap.size)
  generalize hAe : va_A [(h0, .inr (14, [.ref q1, .int 0, .ref q9, .ref q18, .ref q27, .ref q42, .int 0, .int (-1), .ref q2, .ref q45, .ref q50, .ref q5])), (q2, .inr (7, [.ref q4, .int 0, .int 0])), (q4, .inl (cI, 64, .inl (fun _ => 0)))] s.heap.size = A at hD hFx ⊢
  have hA : ∀ q : Nat, s.heap.size ≤ q → A q := fun q h => by rw [← hAe]; exact Or.inr h
  have hS : va_S A s.heap s.heap [] := va_S.rf
  have hP : va_P (dC, dI) vwCl [(h0, .inr (14, [.ref q1, .int 0, .ref q9, .ref q18, .ref q27, .ref q42, .int 0, .int (-1), .ref q2, .ref q45, .ref q50, .ref q5])), (q2, .inr (7, [.ref q4, .int 0, .int 0])), (q4, .inl (cI, 64, .inl (fun _ => 0)))] s.heap := hP
  have hl := lv_entry ([.ref h0, .int pa]) (n := 2) (Nat.le_of_ble_eq_true rfl)
  rw [lg_entry_eq]
  generalize (lg_sl ([.ref h0, .int pa]) ++ List.replicate (2 - (lg_sl ([.ref h0, .int pa])).length) Slot.unset).toArray = ls at hl ⊢
  have hl : lv_has ls 2 [(0, .ref h0), (1, .int pa)] := hl
  refine lv_aload_n hx hb dX11_give_0 rfl (lv_at hl 0 rfl) ?_
  refine va_get (D := (dC, dI)) (ci := 14) (v := .ref q2) (C := RX11) (T := TX11) (N := 12) hx hb ht itX11 hown hK hP 0 rfl rfl 8 (by decide) (ht _ tw_95) (fun _ h9 => h9) rfl dX11_give_1 ?_
  refine lv_iload_n hx hb dX11_give_4 rfl (lv_at hl 1 rfl) ?_
  refine ca_i (wr := [(h0, .inr (14, [.ref q1, .int 0, .ref q9, .ref q18, .ref q27, .ref q42, .int 0, .int (-1), .ref q2, .ref q45, .ref q50, .ref q5]))]) (rn_V (n := 1) (As := [.int pa]) (rest := []) hx hb hml hown ht hKK hFx hP hD hS hA (c_X3_add l dC dI cI cB cZ cJ cR tb s.heap.size q2 pa q4) tw_221 tw_222 (by decide +kernel) rfl rfl ⟨Nat.le_of_ble_eq_true rfl, Nat.le_of_ble_eq_true rfl⟩ [1, 2] rfl (by decide) rfl rfl rfl rfl hl.1 rfl (Nat.le_of_ble_eq_true rfl) dX11_give_5 ⟨Nat.le_of_ble_eq_true rfl, Nat.le_of_ble_eq_true rfl⟩) hP hD hS hA (isC := [1, 2]) (isR := [0]) rfl rfl (by decide) (by decide) (fun r2 u H locs hw1 hP hD hS => ?_)
  subst hw1
  have hP : va_P (dC, dI) vwCl [(h0, .inr (14, [.ref q1, .int 0, .ref q9, .ref q18, .ref q27, .ref q42, .int 0, .int (-1), .ref q2, .ref q45, .ref q50, .ref q5])), (q2, .inr (7, [.ref q4, .int 1, .int 0])), (q4, .inl (cI, 64, .inl (upd (fun _ => 0) 0 pa)))] H := hP
  have hD : va_D A [(h0, .inr (14, [.ref q1, .int 0, .ref q9, .ref q18, .ref q27, .ref q42, .int 0, .int (-1), .ref q2, .ref q45, .ref q50, .ref q5])), (q2, .inr (7, [.ref q4, .int 1, .int 0])), (q4, .inl (cI, 64, .inl (upd (fun _ => 0) 0 pa)))] := hD
  refine W.widen (k := 0) (n := 0) (by omega) (by omega) ?_
  have hP9 := hP.sub (ws' := []) [] rfl
  have hD9 := hD.sub (ws' := []) [] (by decide) rfl
  refine W.widen (k := 0) (n := 0) (by omega) (by omega) ?_
  exact W.iret (v := 1) hx hb hr (fun t ht9 hW => ⟨⟨1, (), rfl, rfl, by rw [ht9]; exact hP9, hD9⟩, hS.F ht9⟩) hS.2.2 dX11_give_8
set_option maxHeartbeats 4000000 in
set_option maxRecDepth 100000 in
theorem c_X3_clear (l : Launch) (dC : Nat → ClassId) (dI : Nat → Nat → Nat) (cI cB cZ cJ cR : ClassId) (tb : Nat → Nat) (sz : Nat) (a0_ : Nat) (a1_ : Nat)  : Met l yX3_clear (Cond.code yX3_clear cX3_clear 2 (some .int) :: tw_W) ({ frames := 0, cells := 0, slots := 0, locals := 0 }) (pc_ (dC, dI) (tyS cI cB cZ cJ cR) tb [(a0_, .inr (7, [.ref a1_, .int 0, .int 0]))] sz [.ref a0_]) (qi_ (dC, dI) [(a0_, .inr (7, [.ref a1_, .int 0, .int 0]))] sz (fun (r : Int32) (u : Unit) => r = 0) (fun (u : Unit) => [(a0_, .inr (7, [.ref a1_, .int 0, .int 0]))])) 0 0 (va_A [(a0_, .inr (7, [.ref a1_, .int 0, .int 0]))] sz) := by
  refine Met.ofW (cc := cX3_clear) (maxL := 2) (ret := (some .int)) (by decide) rfl ?_
  intro p e s m args below meth c s₁ B hml hv
  obtain ⟨rfl, hsz, hP, hKK, hD0, hFx⟩ := hv
  have hK := hKK.1
  have hx := B.exec
  have hb := B.bytes
  have hr := B.returns
  have ht : ∀ w ∈ tw_W, w.before _ s = true := fun w h => atoms_spec (ws := Cond.code yX3_clear cX3_clear 2 (some .int) :: tw_W) B.pre w (List.mem_cons_of_mem _ h)
  have hown : s.vm.findClass RX3 = some m.cls := findClass_of_methodNamed B.named
  have hlocks := B.notSynchronized
  subst hsz
  unfold qi_
  have hD := hD0.self (sz := s.heap.size)
  generalize hAe : va_A [(a0_, .inr (7, [.ref a1_, .int 0, .int 0]))] s.heap.size = A at hD hFx ⊢
  have hA : ∀ q : Nat, s.heap.size ≤ q → A q := fun q h => by rw [← hAe]; exact Or.inr h
  have hS : va_S A s.heap s.heap [] := va_S.rf
  have hP : va_P (dC, dI) vwCl [(a0_, .inr (7, [.ref a1_, .int 0, .int 0]))] s.heap := hP
  have hl := lv_entry ([.ref a0_]) (n := 2) (Nat.le_of_ble_eq_true rfl)
  rw [lg_entry_eq]
  generalize (lg_sl ([.ref a0_]) ++ List.replicate (2 - (lg_sl ([.ref a0_])).length) Slot.unset).toArray = ls at hl ⊢
  have hl : lv_has ls 2 [(0, .ref a0_)] := hl
  refine lv_aload_n hx hb dX3_clear_0 rfl (lv_at hl 0 rfl) ?_
  refine va_get (D := (dC, dI)) (ci := 7) (v := .int 0) (C := RX3) (T := TX3) (N := 3) hx hb ht itX3 hown hK hP 0 rfl rfl 1 (by decide) (ht _ tw_220) (fun _ h9 => h9) rfl dX3_clear_1 ?_
  refine lv_istore_n (lv' := [(1, .int 0), (0, .ref a0_)]) hx hb dX3_clear_4 rfl hl (by decide) rfl (fun ls hl => ?_)
  refine lv_aload_n hx hb dX3_clear_5 rfl (lv_at hl 1 rfl) ?_
  refine lv_iconst (v := 0) hx hb dX3_clear_6 (by decide) ?_
  refine va_put (D := (dC, dI)) (ci := 7) (v := .int 0) (ty := .int) (C := RX3) (T := TX3) (N := 3) hx hb ht itX3 tyX3 tyX3_ok nmX3 hown hK hP hD hS 0 rfl rfl 1 (by decide) (ht _ tw_220) (fun _ h9 => h9) rfl (by decide +kernel) rfl rfl (Nat.le_of_ble_eq_true rfl) dX3_clear_7 (fun H locs hP hD hS => ?_)
  have hP : va_P (dC, dI) vwCl [(a0_, .inr (7, [.ref a1_, .int 0, .int 0]))] H := hP
  have hD : va_D A [(a0_, .inr (7, [.ref a1_, .int 0, .int 0]))] := hD
  refine lv_aload_n hx hb dX3_clear_10 rfl (lv_at hl 1 rfl) ?_
  refine lv_iconst (v := 0) hx hb dX3_clear_11 (by decide) ?_
  refine va_put (D := (dC, dI)) (ci := 7) (v := .int 0) (ty := .int) (C := RX3) (T := TX3) (N := 3) hx hb ht itX3 tyX3 tyX3_ok nmX3 hown hK hP hD hS 0 rfl rfl 2 (by decide) (ht _ tw_223) (fun _ h9 => h9) rfl (by decide +kernel) rfl rfl (Nat.le_of_ble_eq_true rfl) dX3_clear_12 (fun H locs hP hD hS => ?_)
  have hP : va_P (dC, dI) vwCl [(a0_, .inr (7, [.ref a1_, .int 0, .int 0]))] H := hP
  have hD : va_D A [(a0_, .inr (7, [.ref a1_, .int 0, .int 0]))] := hD
  refine lv_iload_n hx hb dX3_clear_15 rfl (lv_at hl 0 rfl) ?_
  have hP9 := hP.sub (ws' := [(a0_, .inr (7, [.ref a1_, .int 0, .int 0]))]) [0] rfl
  have hD9 := hD.sub (ws' := [(a0_, .inr (7, [.ref a1_, .int 0, .int 0]))]) [0] (by decide) rfl
  refine W.widen (k := 0) (n := 0) (by omega) (by omega) ?_
  exact W.iret (v := 0) hx hb hr (fun t ht9 hW => ⟨⟨0, (), rfl, rfl, by rw [ht9]; exact hP9, hD9⟩, hS.F ht9⟩) hS.2.2 dX3_clear_16
set_option maxHeartbeats 4000000 in
set_option maxRecDepth 100000 in
/-- X11_forget on a new object -/
theorem c_X11_forget (l : Launch) (dC : Nat → ClassId) (dI : Nat → Nat → Nat) (cI cB cZ cJ cR : ClassId) (tb : Nat → Nat) (sz : Nat) (h0 : Nat) (q1 : Nat) (q9 : Nat) (q18 : Nat) (q27 : Nat) (q42 : Nat) (q2 : Nat) (q45 : Nat) (q50 : Nat) (q5 : Nat) (q4 : Nat)  : Met l yX11_forget (Cond.code yX11_forget cX11_forget 1 (some .int) :: tw_W) ({ frames := 1, cells := 0, slots := 0, locals := 21 }) (pc_ (dC, dI) (tyS cI cB cZ cJ cR) tb [(h0, .inr (14, [.ref q1, .int 0, .ref q9, .ref q18, .ref q27, .ref q42, .int 0, .int (-1), .ref q2, .ref q45, .ref q50, .ref q5])), (q2, .inr (7, [.ref q4, .int 0, .int 0]))] sz [.ref h0]) (qi_ (dC, dI) [(h0, .inr (14, [.ref q1, .int 0, .ref q9, .ref q18, .ref q27, .ref q42, .int 0, .int (-1), .ref q2, .ref q45, .ref q50, .ref q5])), (q2, .inr (7, [.ref q4, .int 0, .int 0]))] sz (fun (r : Int32) (u : Unit) => r = 0) (fun (u : Unit) => [])) 0 0 (va_A [(h0, .inr (14, [.ref q1, .int 0, .ref q9, .ref q18, .ref q27, .ref q42, .int 0, .int (-1), .ref q2, .ref q45, .ref q50, .ref q5])), (q2, .inr (7, [.ref q4, .int 0, .int 0]))] sz) := by
  refine Met.ofW (cc := cX11_forget) (maxL := 1) (ret := (some .int)) (by decide) rfl ?_
  intro p e s m args below meth c s₁ B hml hv
  obtain ⟨rfl, hsz, hP, hKK, hD0, hFx⟩ := hv
  have hK := hKK.1
  have hx := B.exec
  have hb := B.bytes
  have hr := B.returns
  have ht : ∀ w ∈ tw_W, w.before _ s = true := fun w h => atoms_spec (ws := Cond.code yX11_forget cX11_forget 1 (some .int) :: tw_W) B.pre w (List.mem_cons_of_mem _ h)
  have hown : s.vm.findClass RX11 = some m.cls := findClass_of_methodNamed B.named
  have hlocks := B.notSynchronized
  subst hsz
  unfold qi_
  have hD := hD0.self (sz := s.heap.size)
  generalize hAe : va_A [(h0, .inr (14, [.ref q1, .int 0, .ref q9, .ref q18, .ref q27, .ref q42, .int 0, .int (-1), .ref q2, .ref q45, .ref q50, .ref q5])), (q2, .inr (7, [.ref q4, .int 0, .int 0]))] s.heap.size = A at hD hFx ⊢
  have hA : ∀ q : Nat, s.heap.size ≤ q → A q := fun q h => by rw [← hAe]; exact Or.inr h
  have hS : va_S A s.heap s.heap [] := va_S.rf
  have hP : va_P (dC, dI) vwCl [(h0, .inr (14, [.ref q1, .int 0, .ref q9, .ref q18, .ref q27, .ref q42, .int 0, .int (-1), .ref q2, .ref q45, .ref q50, .ref q5])), (q2, .inr (7, [.ref q4, .int 0, .int 0]))] s.heap := hP
  have hl := lv_entry ([.ref h0]) (n := 1) (Nat.le_of_ble_eq_true rfl)
  rw [lg_entry_eq]
  generalize (lg_sl ([.ref h0]) ++ List.replicate (1 - (lg_sl ([.ref h0])).length) Slot.unset).toArray = ls at hl ⊢
  have hl : lv_has ls 1 [(0, .ref h0)] := hl
  refine lv_aload_n hx hb dX11_forget_0 rfl (lv_at hl 0 rfl) ?_
  refine va_get (D := (dC, dI)) (ci := 14) (v := .ref q2) (C := RX11) (T := TX11) (N := 12) hx hb ht itX11 hown hK hP 0 rfl rfl 8 (by decide) (ht _ tw_95) (fun _ h9 => h9) rfl dX11_forget_1 ?_
  refine ca_i (wr := [(h0, .inr (14, [.ref q1, .int 0, .ref q9, .ref q18, .ref q27, .ref q42, .int 0, .int (-1), .ref q2, .ref q45, .ref q50, .ref q5]))]) (rn_V (n := 0) (As := []) (rest := []) hx hb hml hown ht hKK hFx hP hD hS hA (c_X3_clear l dC dI cI cB cZ cJ cR tb s.heap.size q2 q4) tw_224 tw_225 (by decide +kernel) rfl rfl ⟨Nat.le_of_ble_eq_true rfl, Nat.le_of_ble_eq_true rfl⟩ [1] rfl (by decide) rfl rfl rfl rfl hl.1 rfl (Nat.le_of_ble_eq_true rfl) dX11_forget_4 ⟨Nat.le_of_ble_eq_true rfl, Nat.le_of_ble_eq_true rfl⟩) hP hD hS hA (isC := [1]) (isR := [0]) rfl rfl (by decide) (by decide) (fun r2 u H locs hw1 hP hD hS => ?_)
  subst hw1
  have hP : va_P (dC, dI) vwCl [(h0, .inr (14, [.ref q1, .int 0, .ref q9, .ref q18, .ref q27, .ref q42, .int 0, .int (-1), .ref q2, .ref q45, .ref q50, .ref q5])), (q2, .inr (7, [.ref q4, .int 0, .int 0]))] H := hP
  have hD : va_D A [(h0, .inr (14, [.ref q1, .int 0, .ref q9, .ref q18, .ref q27, .ref q42, .int 0, .int (-1), .ref q2, .ref q45, .ref q50, .ref q5])), (q2, .inr (7, [.ref q4, .int 0, .int 0]))] := hD
  refine W.widen (k := 0) (n := 0) (by omega) (by omega) ?_
  have hP9 := hP.sub (ws' := []) [] rfl
  have hD9 := hD.sub (ws' := []) [] (by decide) rfl
  refine W.widen (k := 0) (n := 0) (by omega) (by omega) ?_
  exact W.iret (v := 0) hx hb hr (fun t ht9 hW => ⟨⟨0, (), rfl, rfl, by rw [ht9]; exact hP9, hD9⟩, hS.F ht9⟩) hS.2.2 dX11_forget_7
set_option maxHeartbeats 4000000 in
set_option maxRecDepth 100000 in
theorem c_X7_functionFact_2 (l : Launch) (dC : Nat → ClassId) (dI : Nat → Nat → Nat) (cI cB cZ cJ cR : ClassId) (tb : Nat → Nat) (sz : Nat) (a0_ : Nat) (x0_ : Int32) (a1_ : Nat) (a2_ : Nat) (a3_ : Nat) (a4_ : Nat) (a5_ : Nat) (a6_ : Nat) (a7_ : Nat)  : Met l yX7_functionFact (Cond.code yX7_functionFact cX7_functionFact 3 (some .int) :: tw_W) ({ frames := 0, cells := 0, slots := 0, locals := 0 }) (pc_ (dC, dI) (tyS cI cB cZ cJ cR) tb [(a0_, .inr (10, [.ref a1_, .int 0, .ref a2_, .int 0, .ref a3_, .int 0, .ref a4_, .ref a5_, .ref a6_, .int 0, .ref a7_, .int 2, .int 8]))] sz [.ref a0_, .int x0_, .int 0]) (qi_ (dC, dI) [(a0_, .inr (10, [.ref a1_, .int 0, .ref a2_, .int 0, .ref a3_, .int 0, .ref a4_, .ref a5_, .ref a6_, .int 0, .ref a7_, .int 2, .int 8]))] sz (fun (r : Int32) (u : Unit) => r = (-1)) (fun (u : Unit) => [(a0_, .inr (10, [.ref a1_, .int 0, .ref a2_, .int 0, .ref a3_, .int 0, .ref a4_, .ref a5_, .ref a6_, .int 0, .ref a7_, .int 2, .int 8]))])) 0 0 (va_A [(a0_, .inr (10, [.ref a1_, .int 0, .ref a2_, .int 0, .ref a3_, .int 0, .ref a4_, .ref a5_, .ref a6_, .int 0, .ref a7_, .int 2, .int 8]))] sz) := by
  refine Met.ofW (cc := cX7_functionFact) (maxL := 3) (ret := (some .int)) (by decide) rfl ?_
  intro p e s m args below meth c s₁ B hml hv
  obtain ⟨rfl, hsz, hP, hKK, hD0, hFx⟩ := hv
  have hK := hKK.1
  have hx := B.exec
  have hb := B.bytes
  have hr := B.returns
  have ht : ∀ w ∈ tw_W, w.before _ s = true := fun w h => atoms_spec (ws := Cond.code yX7_functionFact cX7_functionFact 3 (some .int) :: tw_W) B.pre w (List.mem_cons_of_mem _ h)
  have hown : s.vm.findClass RX7 = some m.cls := findClass_of_methodNamed B.named
  have hlocks := B.notSynchronized
  subst hsz
  unfold qi_
  have hD := hD0.self (sz := s.heap.size)
  generalize hAe : va_A [(a0_, .inr (10, [.ref a1_, .int 0, .ref a2_, .int 0, .ref a3_, .int 0, .ref a4_, .ref a5_, .ref a6_, .int 0, .ref a7_, .int 2, .int 8]))] s.heap.size = A at hD hFx ⊢
  have hA : ∀ q : Nat, s.heap.size ≤ q → A q := fun q h => by rw [← hAe]; exact Or.inr h
  have hS : va_S A s.heap s.heap [] := va_S.rf
  have hP : va_P (dC, dI) vwCl [(a0_, .inr (10, [.ref a1_, .int 0, .ref a2_, .int 0, .ref a3_, .int 0, .ref a4_, .ref a5_, .ref a6_, .int 0, .ref a7_, .int 2, .int 8]))] s.heap := hP
  have hl := lv_entry ([.ref a0_, .int x0_, .int 0]) (n := 3) (Nat.le_of_ble_eq_true rfl)
  rw [lg_entry_eq]
  generalize (lg_sl ([.ref a0_, .int x0_, .int 0]) ++ List.replicate (3 - (lg_sl ([.ref a0_, .int x0_, .int 0])).length) Slot.unset).toArray = ls at hl ⊢
  have hl : lv_has ls 3 [(0, .ref a0_), (1, .int x0_), (2, .int 0)] := hl
  refine lv_iload_n hx hb dX7_functionFact_0 rfl (lv_at hl 1 rfl) ?_
  refine lv_if_lt (tgt := 21) hx hb dX7_functionFact_1 (by decide) (fun h1 => ?_) (fun h1 => ?_)
  · refine lv_iconst (v := -1) hx hb dX7_functionFact_21 (by decide) ?_
    have hP9 := hP.sub (ws' := [(a0_, .inr (10, [.ref a1_, .int 0, .ref a2_, .int 0, .ref a3_, .int 0, .ref a4_, .ref a5_, .ref a6_, .int 0, .ref a7_, .int 2, .int 8]))]) [0] rfl
    have hD9 := hD.sub (ws' := [(a0_, .inr (10, [.ref a1_, .int 0, .ref a2_, .int 0, .ref a3_, .int 0, .ref a4_, .ref a5_, .ref a6_, .int 0, .ref a7_, .int 2, .int 8]))]) [0] (by decide) rfl
    refine W.widen (k := 0) (n := 0) (by omega) (by omega) ?_
    exact W.iret (v := (-1)) hx hb hr (fun t ht9 hW => ⟨⟨(-1), (), rfl, rfl, by rw [ht9]; exact hP9, hD9⟩, hS.F ht9⟩) hS.2.2 dX7_functionFact_22
  · refine lv_iload_n hx hb dX7_functionFact_4 rfl (lv_at hl 1 rfl) ?_
    refine lv_aload_n hx hb dX7_functionFact_5 rfl (lv_at hl 0 rfl) ?_
    refine va_get (D := (dC, dI)) (ci := 10) (v := .int 0) (C := RX7) (T := TX7) (N := 13) hx hb ht itX7 hown hK hP 0 rfl rfl 3 (by decide) (ht _ tw_167) (fun _ h9 => h9) rfl dX7_functionFact_6 ?_
    refine lv_icmp_ge (tgt := 21) hx hb dX7_functionFact_9 (by decide) (fun _ => ?_) (fun k2 => False.elim (by rw [Int32.lt_iff_toInt_lt] at h1; rw [Int32.le_iff_toInt_le] at k2; have : (0 : Int32).toInt = 0 := (by decide); omega))
    refine lv_iconst (v := -1) hx hb dX7_functionFact_21 (by decide) ?_
    have hP9 := hP.sub (ws' := [(a0_, .inr (10, [.ref a1_, .int 0, .ref a2_, .int 0, .ref a3_, .int 0, .ref a4_, .ref a5_, .ref a6_, .int 0, .ref a7_, .int 2, .int 8]))]) [0] rfl
    have hD9 := hD.sub (ws' := [(a0_, .inr (10, [.ref a1_, .int 0, .ref a2_, .int 0, .ref a3_, .int 0, .ref a4_, .ref a5_, .ref a6_, .int 0, .ref a7_, .int 2, .int 8]))]) [0] (by decide) rfl
    refine W.widen (k := 0) (n := 0) (by omega) (by omega) ?_
    exact W.iret (v := (-1)) hx hb hr (fun t ht9 hW => ⟨⟨(-1), (), rfl, rfl, by rw [ht9]; exact hP9, hD9⟩, hS.F ht9⟩) hS.2.2 dX7_functionFact_22
set_option maxHeartbeats 4000000 in
set_option maxRecDepth 100000 in
/-- X11_start on a new object -/
theorem c_X11_start (l : Launch) (dC : Nat → ClassId) (dI : Nat → Nat → Nat) (cI cB cZ cJ cR : ClassId) (tb : Nat → Nat) (sz : Nat) (h0 : Nat) (pa : Int32) (pb : Int32) (pc : Int32) (q1 : Nat) (q9 : Nat) (q18 : Nat) (q27 : Nat) (q42 : Nat) (q2 : Nat) (q45 : Nat) (q50 : Nat) (q5 : Nat) (q11 : Nat) (q12 : Nat) (q13 : Nat) (q14 : Nat) (q15 : Nat) (q16 : Nat) (q17 : Nat)  : Met l yX11_start (Cond.code yX11_start cX11_start 5 (some .boolean) :: tw_W) ({ frames := 1, cells := 0, slots := 0, locals := 22 }) (pc_ (dC, dI) (tyS cI cB cZ cJ cR) tb [(h0, .inr (14, [.ref q1, .int 0, .ref q9, .ref q18, .ref q27, .ref q42, .int 0, .int (-1), .ref q2, .ref q45, .ref q50, .ref q5])), (q9, .inr (10, [.ref q11, .int 0, .ref q12, .int 0, .ref q13, .int 0, .ref q14, .ref q15, .ref q16, .int 0, .ref q17, .int 2, .int 8]))] sz [.ref h0, .int pa, .int pb, .int pc]) (qi_ (dC, dI) [(h0, .inr (14, [.ref q1, .int 0, .ref q9, .ref q18, .ref q27, .ref q42, .int 0, .int (-1), .ref q2, .ref q45, .ref q50, .ref q5])), (q9, .inr (10, [.ref q11, .int 0, .ref q12, .int 0, .ref q13, .int 0, .ref q14, .ref q15, .ref q16, .int 0, .ref q17, .int 2, .int 8]))] sz (fun (r : Int32) (u : Unit) => r = 0) (fun (u : Unit) => [])) 0 0 (va_A [(h0, .inr (14, [.ref q1, .int 0, .ref q9, .ref q18, .ref q27, .ref q42, .int 0, .int (-1), .ref q2, .ref q45, .ref q50, .ref q5])), (q9, .inr (10, [.ref q11, .int 0, .ref q12, .int 0, .ref q13, .int 0, .ref q14, .ref q15, .ref q16, .int 0, .ref q17, .int 2, .int 8]))] sz) := by
  refine Met.ofW (cc := cX11_start) (maxL := 5) (ret := (some .boolean)) (by decide) rfl ?_
  intro p e s m args below meth c s₁ B hml hv
  obtain ⟨rfl, hsz, hP, hKK, hD0, hFx⟩ := hv
  have hK := hKK.1
  have hx := B.exec
  have hb := B.bytes
  have hr := B.returns
  have ht : ∀ w ∈ tw_W, w.before _ s = true := fun w h => atoms_spec (ws := Cond.code yX11_start cX11_start 5 (some .boolean) :: tw_W) B.pre w (List.mem_cons_of_mem _ h)
  have hown : s.vm.findClass RX11 = some m.cls := findClass_of_methodNamed B.named
  have hlocks := B.notSynchronized
  subst hsz
  unfold qi_
  have hD := hD0.self (sz := s.heap.size)
  generalize hAe : va_A [(h0, .inr (14, [.ref q1, .int 0, .ref q9, .ref q18, .ref q27, .ref q42, .int 0, .int (-1), .ref q2, .ref q45, .ref q50, .ref q5])), (q9, .inr (10, [.ref q11, .int 0, .ref q12, .int 0, .ref q13, .int 0, .ref q14, .ref q15, .ref q16, .int 0, .ref q17, .int 2, .int 8]))] s.heap.size = A at hD hFx ⊢
  have hA : ∀ q : Nat, s.heap.size ≤ q → A q := fun q h => by rw [← hAe]; exact Or.inr h
  have hS : va_S A s.heap s.heap [] := va_S.rf
  have hP : va_P (dC, dI) vwCl [(h0, .inr (14, [.ref q1, .int 0, .ref q9, .ref q18, .ref q27, .ref q42, .int 0, .int (-1), .ref q2, .ref q45, .ref q50, .ref q5])), (q9, .inr (10, [.ref q11, .int 0, .ref q12, .int 0, .ref q13, .int 0, .ref q14, .ref q15, .ref q16, .int 0, .ref q17, .int 2, .int 8]))] s.heap := hP
  have hl := lv_entry ([.ref h0, .int pa, .int pb, .int pc]) (n := 5) (Nat.le_of_ble_eq_true rfl)
  rw [lg_entry_eq]
  generalize (lg_sl ([.ref h0, .int pa, .int pb, .int pc]) ++ List.replicate (5 - (lg_sl ([.ref h0, .int pa, .int pb, .int pc])).length) Slot.unset).toArray = ls at hl ⊢
  have hl : lv_has ls 5 [(0, .ref h0), (1, .int pa), (2, .int pb), (3, .int pc)] := hl
  refine lv_aload_n hx hb dX11_start_0 rfl (lv_at hl 0 rfl) ?_
  refine va_get (D := (dC, dI)) (ci := 14) (v := .ref q9) (C := RX11) (T := TX11) (N := 12) hx hb ht itX11 hown hK hP 0 rfl rfl 2 (by decide) (ht _ tw_110) (fun _ h9 => h9) rfl dX11_start_1 ?_
  refine lv_iload_n hx hb dX11_start_4 rfl (lv_at hl 1 rfl) ?_
  refine lv_iconst (v := 0) hx hb dX11_start_5 (by decide) ?_
  refine ca_i (wr := [(h0, .inr (14, [.ref q1, .int 0, .ref q9, .ref q18, .ref q27, .ref q42, .int 0, .int (-1), .ref q2, .ref q45, .ref q50, .ref q5]))]) (rn_V (n := 2) (As := [.int pa, .int 0]) (rest := []) hx hb hml hown ht hKK hFx hP hD hS hA (c_X7_functionFact_2 l dC dI cI cB cZ cJ cR tb s.heap.size q9 pa q11 q12 q13 q14 q15 q16 q17) tw_216 tw_217 (by decide +kernel) rfl rfl ⟨Nat.le_of_ble_eq_true rfl, Nat.le_of_ble_eq_true rfl⟩ [1] rfl (by decide) rfl rfl rfl rfl hl.1 rfl (Nat.le_of_ble_eq_true rfl) dX11_start_6 ⟨Nat.le_of_ble_eq_true rfl, Nat.le_of_ble_eq_true rfl⟩) hP hD hS hA (isC := [1]) (isR := [0]) rfl rfl (by decide) (by decide) (fun r2 u H locs hw1 hP hD hS => ?_)
  subst hw1
  have hP : va_P (dC, dI) vwCl [(h0, .inr (14, [.ref q1, .int 0, .ref q9, .ref q18, .ref q27, .ref q42, .int 0, .int (-1), .ref q2, .ref q45, .ref q50, .ref q5])), (q9, .inr (10, [.ref q11, .int 0, .ref q12, .int 0, .ref q13, .int 0, .ref q14, .ref q15, .ref q16, .int 0, .ref q17, .int 2, .int 8]))] H := hP
  have hD : va_D A [(h0, .inr (14, [.ref q1, .int 0, .ref q9, .ref q18, .ref q27, .ref q42, .int 0, .int (-1), .ref q2, .ref q45, .ref q50, .ref q5])), (q9, .inr (10, [.ref q11, .int 0, .ref q12, .int 0, .ref q13, .int 0, .ref q14, .ref q15, .ref q16, .int 0, .ref q17, .int 2, .int 8]))] := hD
  refine W.widen (k := 0) (n := 0) (by omega) (by omega) ?_
  refine lv_istore (lv' := [(4, .int (-1)), (0, .ref h0), (1, .int pa), (2, .int pb), (3, .int pc)]) hx hb dX11_start_9 hl (by decide) rfl (fun ls hl => ?_)
  refine lv_iload hx hb dX11_start_11 (lv_at hl 0 rfl) ?_
  refine lv_iconst (v := -1) hx hb dX11_start_13 (by decide) ?_
  refine lv_icmp_eq (tgt := 23) hx hb dX11_start_14 (by decide) (fun _ => ?_) (fun k3 => absurd k3 (by decide))
  refine lv_iconst (v := 0) hx hb dX11_start_23 (by decide) ?_
  have hP9 := hP.sub (ws' := []) [] rfl
  have hD9 := hD.sub (ws' := []) [] (by decide) rfl
  refine W.widen (k := 0) (n := 0) (by omega) (by omega) ?_
  exact W.zret (v := 0) hx hb hr rfl (fun t ht9 hW => ⟨⟨0, (), rfl, rfl, by rw [ht9]; exact hP9, hD9⟩, hS.F ht9⟩) hS.2.2 dX11_start_24
set_option maxHeartbeats 4000000 in
set_option maxRecDepth 100000 in
theorem c_X6_hasWord (l : Launch) (dC : Nat → ClassId) (dI : Nat → Nat → Nat) (cI cB cZ cJ cR : ClassId) (tb : Nat → Nat) (sz : Nat) (a0_ : Nat) (a1_ : Nat) (a2_ : Nat) (a3_ : Nat) (a4_ : Nat) (N : Nat) (hf_N_0 : 256 ≤ N) (hf_N_1 : N ≤ 4096) : Met l yX6_hasWord (Cond.code yX6_hasWord cX6_hasWord 2 (some .boolean) :: tw_W) ({ frames := 0, cells := 0, slots := 0, locals := 0 }) (pc_ (dC, dI) (tyS cI cB cZ cJ cR) tb [(a0_, .inr (9, [.ref a1_, .ref a2_, .int 0, .int 0, .int 0, .int 1, .ref a3_, .int 0, .ref a4_])), (a1_, .inl (cI, N, .inl (fun _ => 0)))] sz [.ref a0_, .int 0]) (qi_ (dC, dI) [(a0_, .inr (9, [.ref a1_, .ref a2_, .int 0, .int 0, .int 0, .int 1, .ref a3_, .int 0, .ref a4_])), (a1_, .inl (cI, N, .inl (fun _ => 0)))] sz (fun (r : Int32) (u : Unit) => r = 1) (fun (u : Unit) => [(a0_, .inr (9, [.ref a1_, .ref a2_, .int 0, .int 0, .int 0, .int 1, .ref a3_, .int 0, .ref a4_])), (a1_, .inl (cI, N, .inl (fun _ => 0)))])) 0 0 (va_A [(a0_, .inr (9, [.ref a1_, .ref a2_, .int 0, .int 0, .int 0, .int 1, .ref a3_, .int 0, .ref a4_])), (a1_, .inl (cI, N, .inl (fun _ => 0)))] sz) := by
  refine Met.ofW (cc := cX6_hasWord) (maxL := 2) (ret := (some .boolean)) (by decide) rfl ?_
  intro p e s m args below meth c s₁ B hml hv
  obtain ⟨rfl, hsz, hP, hKK, hD0, hFx⟩ := hv
  have hK := hKK.1
  have hx := B.exec
  have hb := B.bytes
  have hr := B.returns
  have ht : ∀ w ∈ tw_W, w.before _ s = true := fun w h => atoms_spec (ws := Cond.code yX6_hasWord cX6_hasWord 2 (some .boolean) :: tw_W) B.pre w (List.mem_cons_of_mem _ h)
  have hown : s.vm.findClass RX6 = some m.cls := findClass_of_methodNamed B.named
  have hlocks := B.notSynchronized
  subst hsz
  unfold qi_
  have hD := hD0.self (sz := s.heap.size)
  generalize hAe : va_A [(a0_, .inr (9, [.ref a1_, .ref a2_, .int 0, .int 0, .int 0, .int 1, .ref a3_, .int 0, .ref a4_])), (a1_, .inl (cI, N, .inl (fun _ => 0)))] s.heap.size = A at hD hFx ⊢
  have hA : ∀ q : Nat, s.heap.size ≤ q → A q := fun q h => by rw [← hAe]; exact Or.inr h
  have hS : va_S A s.heap s.heap [] := va_S.rf
  have hP : va_P (dC, dI) vwCl [(a0_, .inr (9, [.ref a1_, .ref a2_, .int 0, .int 0, .int 0, .int 1, .ref a3_, .int 0, .ref a4_])), (a1_, .inl (cI, N, .inl (fun _ => 0)))] s.heap := hP
  have hl := lv_entry ([.ref a0_, .int 0]) (n := 2) (Nat.le_of_ble_eq_true rfl)
  rw [lg_entry_eq]
  generalize (lg_sl ([.ref a0_, .int 0]) ++ List.replicate (2 - (lg_sl ([.ref a0_, .int 0])).length) Slot.unset).toArray = ls at hl ⊢
  have hl : lv_has ls 2 [(0, .ref a0_), (1, .int 0)] := hl
  refine lv_iload_n hx hb dX6_hasWord_0 rfl (lv_at hl 1 rfl) ?_
  refine lv_iconst (v := 3) hx hb dX6_hasWord_1 (by decide) ?_
  refine lv_iand hx hb dX6_hasWord_2 ?_
  refine tp_i (y := 0) (by decide) ?_
  refine lv_if_ne (tgt := 21) hx hb dX6_hasWord_3 (by decide) (fun k1 => absurd k1 (by decide)) (fun _ => ?_)
  refine lv_iload_n hx hb dX6_hasWord_6 rfl (lv_at hl 1 rfl) ?_
  refine lv_iconst (v := 2) hx hb dX6_hasWord_7 (by decide) ?_
  refine lv_iushr (v := 0) hx hb dX6_hasWord_8 (by decide) ?_
  refine lv_aload_n hx hb dX6_hasWord_9 rfl (lv_at hl 0 rfl) ?_
  refine va_get (D := (dC, dI)) (ci := 9) (v := .ref a1_) (C := RX6) (T := TX6) (N := 9) hx hb ht itX6 hown hK hP 0 rfl rfl 0 (by decide) (ht _ tw_134) (fun _ h9 => h9) rfl dX6_hasWord_10 ?_
  refine va_alen (D := (dC, dI)) (v := (nI N)) hx hb hK hP 1 0 rfl rfl rfl dX6_hasWord_13 ?_
  refine lv_icmp_ge (tgt := 21) hx hb dX6_hasWord_14 (by decide) (fun k2 => absurd k2 (nge_c (j := 0) (by decide) (by omega) (by omega))) (fun _ => ?_)
  refine lv_iconst (v := 1) hx hb dX6_hasWord_17 (by decide) ?_
  refine lv_goto (tgt := 22) hx hb dX6_hasWord_18 (by decide) ?_
  have hP9 := hP.sub (ws' := [(a0_, .inr (9, [.ref a1_, .ref a2_, .int 0, .int 0, .int 0, .int 1, .ref a3_, .int 0, .ref a4_])), (a1_, .inl (cI, N, .inl (fun _ => 0)))]) [0, 1] rfl
  have hD9 := hD.sub (ws' := [(a0_, .inr (9, [.ref a1_, .ref a2_, .int 0, .int 0, .int 0, .int 1, .ref a3_, .int 0, .ref a4_])), (a1_, .inl (cI, N, .inl (fun _ => 0)))]) [0, 1] (by decide) rfl
  refine W.widen (k := 0) (n := 0) (by omega) (by omega) ?_
  exact W.zret (v := 1) hx hb hr rfl (fun t ht9 hW => ⟨⟨1, (), rfl, rfl, by rw [ht9]; exact hP9, hD9⟩, hS.F ht9⟩) hS.2.2 dX6_hasWord_22
set_option maxHeartbeats 4000000 in
set_option maxRecDepth 100000 in
theorem c_X6_wordAt (l : Launch) (dC : Nat → ClassId) (dI : Nat → Nat → Nat) (cI cB cZ cJ cR : ClassId) (tb : Nat → Nat) (sz : Nat) (a0_ : Nat) (a1_ : Nat) (a2_ : Nat) (a3_ : Nat) (a4_ : Nat) (N : Nat) (hf_N_0 : 256 ≤ N) (hf_N_1 : N ≤ 4096) : Met l yX6_wordAt (Cond.code yX6_wordAt cX6_wordAt 3 (some .int) :: tw_W) ({ frames := 0, cells := 0, slots := 0, locals := 0 }) (pc_ (dC, dI) (tyS cI cB cZ cJ cR) tb [(a0_, .inr (9, [.ref a1_, .ref a2_, .int 0, .int 0, .int 0, .int 1, .ref a3_, .int 0, .ref a4_])), (a1_, .inl (cI, N, .inl (fun _ => 0)))] sz [.ref a0_, .int 0]) (qi_ (dC, dI) [(a0_, .inr (9, [.ref a1_, .ref a2_, .int 0, .int 0, .int 0, .int 1, .ref a3_, .int 0, .ref a4_])), (a1_, .inl (cI, N, .inl (fun _ => 0)))] sz (fun (r : Int32) (u : Unit) => r = 0) (fun (u : Unit) => [(a0_, .inr (9, [.ref a1_, .ref a2_, .int 0, .int 0, .int 0, .int 1, .ref a3_, .int 0, .ref a4_])), (a1_, .inl (cI, N, .inl (fun _ => 0)))])) 0 0 (va_A [(a0_, .inr (9, [.ref a1_, .ref a2_, .int 0, .int 0, .int 0, .int 1, .ref a3_, .int 0, .ref a4_])), (a1_, .inl (cI, N, .inl (fun _ => 0)))] sz) := by
  refine Met.ofW (cc := cX6_wordAt) (maxL := 3) (ret := (some .int)) (by decide) rfl ?_
  intro p e s m args below meth c s₁ B hml hv
  obtain ⟨rfl, hsz, hP, hKK, hD0, hFx⟩ := hv
  have hK := hKK.1
  have hx := B.exec
  have hb := B.bytes
  have hr := B.returns
  have ht : ∀ w ∈ tw_W, w.before _ s = true := fun w h => atoms_spec (ws := Cond.code yX6_wordAt cX6_wordAt 3 (some .int) :: tw_W) B.pre w (List.mem_cons_of_mem _ h)
  have hown : s.vm.findClass RX6 = some m.cls := findClass_of_methodNamed B.named
  have hlocks := B.notSynchronized
  subst hsz
  unfold qi_
  have hD := hD0.self (sz := s.heap.size)
  generalize hAe : va_A [(a0_, .inr (9, [.ref a1_, .ref a2_, .int 0, .int 0, .int 0, .int 1, .ref a3_, .int 0, .ref a4_])), (a1_, .inl (cI, N, .inl (fun _ => 0)))] s.heap.size = A at hD hFx ⊢
  have hA : ∀ q : Nat, s.heap.size ≤ q → A q := fun q h => by rw [← hAe]; exact Or.inr h
  have hS : va_S A s.heap s.heap [] := va_S.rf
  have hP : va_P (dC, dI) vwCl [(a0_, .inr (9, [.ref a1_, .ref a2_, .int 0, .int 0, .int 0, .int 1, .ref a3_, .int 0, .ref a4_])), (a1_, .inl (cI, N, .inl (fun _ => 0)))] s.heap := hP
  have hl := lv_entry ([.ref a0_, .int 0]) (n := 3) (Nat.le_of_ble_eq_true rfl)
  rw [lg_entry_eq]
  generalize (lg_sl ([.ref a0_, .int 0]) ++ List.replicate (3 - (lg_sl ([.ref a0_, .int 0])).length) Slot.unset).toArray = ls at hl ⊢
  have hl : lv_has ls 3 [(0, .ref a0_), (1, .int 0)] := hl
  refine lv_iload_n hx hb dX6_wordAt_0 rfl (lv_at hl 1 rfl) ?_
  refine lv_iconst (v := 2) hx hb dX6_wordAt_1 (by decide) ?_
  refine lv_iushr (v := 0) hx hb dX6_wordAt_2 (by decide) ?_
  refine lv_istore_n (lv' := [(2, .int 0), (0, .ref a0_), (1, .int 0)]) hx hb dX6_wordAt_3 rfl hl (by decide) rfl (fun ls hl => ?_)
  refine lv_iload_n hx hb dX6_wordAt_4 rfl (lv_at hl 0 rfl) ?_
  refine lv_aload_n hx hb dX6_wordAt_5 rfl (lv_at hl 1 rfl) ?_
  refine va_get (D := (dC, dI)) (ci := 9) (v := .ref a1_) (C := RX6) (T := TX6) (N := 9) hx hb ht itX6 hown hK hP 0 rfl rfl 0 (by decide) (ht _ tw_134) (fun _ h9 => h9) rfl dX6_wordAt_6 ?_
  refine va_alen (D := (dC, dI)) (v := (nI N)) hx hb hK hP 1 0 rfl rfl rfl dX6_wordAt_9 ?_
  refine lv_icmp_ge (tgt := 22) hx hb dX6_wordAt_10 (by decide) (fun k1 => absurd k1 (nge_c (j := 0) (by decide) (by omega) (by omega))) (fun _ => ?_)
  refine lv_aload_n hx hb dX6_wordAt_13 rfl (lv_at hl 1 rfl) ?_
  refine va_get (D := (dC, dI)) (ci := 9) (v := .ref a1_) (C := RX6) (T := TX6) (N := 9) hx hb ht itX6 hown hK hP 0 rfl rfl 0 (by decide) (ht _ tw_134) (fun _ h9 => h9) rfl dX6_wordAt_14 ?_
  refine lv_iload_n hx hb dX6_wordAt_17 rfl (lv_at hl 0 rfl) ?_
  refine va_iald (D := (dC, dI)) hx hb hK hP 1 0 rfl rfl (in_c (j := 0) (by decide) (by omega) (by omega)) dX6_wordAt_18 ?_
  refine tp_i (y := 0) (rfl) ?_
  refine lv_goto (tgt := 23) hx hb dX6_wordAt_19 (by decide) ?_
  have hP9 := hP.sub (ws' := [(a0_, .inr (9, [.ref a1_, .ref a2_, .int 0, .int 0, .int 0, .int 1, .ref a3_, .int 0, .ref a4_])), (a1_, .inl (cI, N, .inl (fun _ => 0)))]) [0, 1] rfl
  have hD9 := hD.sub (ws' := [(a0_, .inr (9, [.ref a1_, .ref a2_, .int 0, .int 0, .int 0, .int 1, .ref a3_, .int 0, .ref a4_])), (a1_, .inl (cI, N, .inl (fun _ => 0)))]) [0, 1] (by decide) rfl
  refine W.widen (k := 0) (n := 0) (by omega) (by omega) ?_
  exact W.iret (v := 0) hx hb hr (fun t ht9 hW => ⟨⟨0, (), rfl, rfl, by rw [ht9]; exact hP9, hD9⟩, hS.F ht9⟩) hS.2.2 dX6_wordAt_23
set_option maxHeartbeats 4000000 in
set_option maxRecDepth 100000 in
theorem c_X4_kindOf (l : Launch) (dC : Nat → ClassId) (dI : Nat → Nat → Nat) (cI cB cZ cJ cR : ClassId) (tb : Nat → Nat) (sz : Nat)   : Met l yX4_kindOf (Cond.code yX4_kindOf cX4_kindOf 2 (some .int) :: tw_W) ({ frames := 0, cells := 0, slots := 0, locals := 0 }) (pc_ (dC, dI) (tyS cI cB cZ cJ cR) tb [] sz [.int 0]) (qi_ (dC, dI) [] sz (fun (r : Int32) (u : Unit) => r = 40) (fun (u : Unit) => [])) 0 0 (va_A [] sz) := by
  refine Met.ofW (cc := cX4_kindOf) (maxL := 2) (ret := (some .int)) (by decide) rfl ?_
  intro p e s m args below meth c s₁ B hml hv
  obtain ⟨rfl, hsz, hP, hKK, hD0, hFx⟩ := hv
  have hK := hKK.1
  have hx := B.exec
  have hb := B.bytes
  have hr := B.returns
  have ht : ∀ w ∈ tw_W, w.before _ s = true := fun w h => atoms_spec (ws := Cond.code yX4_kindOf cX4_kindOf 2 (some .int) :: tw_W) B.pre w (List.mem_cons_of_mem _ h)
  have hown : s.vm.findClass RX4 = some m.cls := findClass_of_methodNamed B.named
  have hlocks := B.notSynchronized
  subst hsz
  unfold qi_
  have hD := hD0.self (sz := s.heap.size)
  generalize hAe : va_A [] s.heap.size = A at hD hFx ⊢
  have hA : ∀ q : Nat, s.heap.size ≤ q → A q := fun q h => by rw [← hAe]; exact Or.inr h
  have hS : va_S A s.heap s.heap [] := va_S.rf
  have hP : va_P (dC, dI) vwCl [] s.heap := hP
  have hl := lv_entry ([.int 0]) (n := 2) (Nat.le_of_ble_eq_true rfl)
  rw [lg_entry_eq]
  generalize (lg_sl ([.int 0]) ++ List.replicate (2 - (lg_sl ([.int 0])).length) Slot.unset).toArray = ls at hl ⊢
  have hl : lv_has ls 2 [(0, .int 0)] := hl
  refine lv_iload_n hx hb dX4_kindOf_0 rfl (lv_at hl 0 rfl) ?_
  refine lv_bipush (v := 12) hx hb dX4_kindOf_1 (by decide) ?_
  refine lv_iushr (v := 0) hx hb dX4_kindOf_3 (by decide) ?_
  refine lv_bipush (v := 7) hx hb dX4_kindOf_4 (by decide) ?_
  refine lv_iand hx hb dX4_kindOf_6 ?_
  refine tp_i (y := 0) (by decide) ?_
  refine lv_istore_n (lv' := [(1, .int 0), (0, .int 0)]) hx hb dX4_kindOf_7 rfl hl (by decide) rfl (fun ls hl => ?_)
  refine lv_iload_n hx hb dX4_kindOf_8 rfl (lv_at hl 1 rfl) ?_
  refine lv_bipush (v := 127) hx hb dX4_kindOf_9 (by decide) ?_
  refine lv_iand hx hb dX4_kindOf_11 ?_
  refine tp_i (y := 0) (by decide) ?_
  refine lv_lookup (off := 190) (tgt := 202) hx hb dX4_kindOf_12 (by decide) (by decide) (by decide) ?_
  refine lv_bipush (v := 40) hx hb dX4_kindOf_202 (by decide) ?_
  have hP9 := hP.sub (ws' := []) [] rfl
  have hD9 := hD.sub (ws' := []) [] (by decide) rfl
  refine W.widen (k := 0) (n := 0) (by omega) (by omega) ?_
  exact W.iret (v := 40) hx hb hr (fun t ht9 hW => ⟨⟨40, (), rfl, rfl, by rw [ht9]; exact hP9, hD9⟩, hS.F ht9⟩) hS.2.2 dX4_kindOf_204
set_option maxHeartbeats 4000000 in
set_option maxRecDepth 100000 in
theorem c_X4_first (l : Launch) (dC : Nat → ClassId) (dI : Nat → Nat → Nat) (cI cB cZ cJ cR : ClassId) (tb : Nat → Nat) (sz : Nat)   : Met l yX4_first (Cond.code yX4_first cX4_first 1 (some .int) :: tw_W) ({ frames := 0, cells := 0, slots := 0, locals := 0 }) (pc_ (dC, dI) (tyS cI cB cZ cJ cR) tb [] sz [.int 0]) (qi_ (dC, dI) [] sz (fun (r : Int32) (u : Unit) => r = 0) (fun (u : Unit) => [])) 0 0 (va_A [] sz) := by
  refine Met.ofW (cc := cX4_first) (maxL := 1) (ret := (some .int)) (by decide) rfl ?_
  intro p e s m args below meth c s₁ B hml hv
  obtain ⟨rfl, hsz, hP, hKK, hD0, hFx⟩ := hv
  have hK := hKK.1
  have hx := B.exec
  have hb := B.bytes
  have hr := B.returns
  have ht : ∀ w ∈ tw_W, w.before _ s = true := fun w h => atoms_spec (ws := Cond.code yX4_first cX4_first 1 (some .int) :: tw_W) B.pre w (List.mem_cons_of_mem _ h)
  have hown : s.vm.findClass RX4 = some m.cls := findClass_of_methodNamed B.named
  have hlocks := B.notSynchronized
  subst hsz
  unfold qi_
  have hD := hD0.self (sz := s.heap.size)
  generalize hAe : va_A [] s.heap.size = A at hD hFx ⊢
  have hA : ∀ q : Nat, s.heap.size ≤ q → A q := fun q h => by rw [← hAe]; exact Or.inr h
  have hS : va_S A s.heap s.heap [] := va_S.rf
  have hP : va_P (dC, dI) vwCl [] s.heap := hP
  have hl := lv_entry ([.int 0]) (n := 1) (Nat.le_of_ble_eq_true rfl)
  rw [lg_entry_eq]
  generalize (lg_sl ([.int 0]) ++ List.replicate (1 - (lg_sl ([.int 0])).length) Slot.unset).toArray = ls at hl ⊢
  have hl : lv_has ls 1 [(0, .int 0)] := hl
  refine lv_iload_n hx hb dX4_first_0 rfl (lv_at hl 0 rfl) ?_
  refine lv_bipush (v := 15) hx hb dX4_first_1 (by decide) ?_
  refine lv_iushr (v := 0) hx hb dX4_first_3 (by decide) ?_
  refine lv_bipush (v := 31) hx hb dX4_first_4 (by decide) ?_
  refine lv_iand hx hb dX4_first_6 ?_
  refine tp_i (y := 0) (by decide) ?_
  have hP9 := hP.sub (ws' := []) [] rfl
  have hD9 := hD.sub (ws' := []) [] (by decide) rfl
  refine W.widen (k := 0) (n := 0) (by omega) (by omega) ?_
  exact W.iret (v := 0) hx hb hr (fun t ht9 hW => ⟨⟨0, (), rfl, rfl, by rw [ht9]; exact hP9, hD9⟩, hS.F ht9⟩) hS.2.2 dX4_first_7
set_option maxHeartbeats 4000000 in
set_option maxRecDepth 100000 in
theorem c_X6_valueOf (l : Launch) (dC : Nat → ClassId) (dI : Nat → Nat → Nat) (cI cB cZ cJ cR : ClassId) (tb : Nat → Nat) (sz : Nat) (a0_ : Nat) (a1_ : Nat) (a2_ : Nat) (a3_ : Nat) (a4_ : Nat)  : Met l yX6_valueOf (Cond.code yX6_valueOf cX6_valueOf 2 (some .int) :: tw_W) ({ frames := 0, cells := 0, slots := 0, locals := 0 }) (pc_ (dC, dI) (tyS cI cB cZ cJ cR) tb [(a0_, .inr (9, [.ref a1_, .ref a2_, .int 0, .int 4, .int 0, .int 1, .ref a3_, .int 0, .ref a4_])), (a2_, .inl (cI, 32, .inl (fun _ => 0)))] sz [.ref a0_, .int 0]) (qi_ (dC, dI) [(a0_, .inr (9, [.ref a1_, .ref a2_, .int 0, .int 4, .int 0, .int 1, .ref a3_, .int 0, .ref a4_])), (a2_, .inl (cI, 32, .inl (fun _ => 0)))] sz (fun (r : Int32) (u : Unit) => r = 0) (fun (u : Unit) => [(a0_, .inr (9, [.ref a1_, .ref a2_, .int 0, .int 4, .int 0, .int 1, .ref a3_, .int 0, .ref a4_])), (a2_, .inl (cI, 32, .inl (fun _ => 0)))])) 0 0 (va_A [(a0_, .inr (9, [.ref a1_, .ref a2_, .int 0, .int 4, .int 0, .int 1, .ref a3_, .int 0, .ref a4_])), (a2_, .inl (cI, 32, .inl (fun _ => 0)))] sz) := by
  refine Met.ofW (cc := cX6_valueOf) (maxL := 2) (ret := (some .int)) (by decide) rfl ?_
  intro p e s m args below meth c s₁ B hml hv
  obtain ⟨rfl, hsz, hP, hKK, hD0, hFx⟩ := hv
  have hK := hKK.1
  have hx := B.exec
  have hb := B.bytes
  have hr := B.returns
  have ht : ∀ w ∈ tw_W, w.before _ s = true := fun w h => atoms_spec (ws := Cond.code yX6_valueOf cX6_valueOf 2 (some .int) :: tw_W) B.pre w (List.mem_cons_of_mem _ h)
  have hown : s.vm.findClass RX6 = some m.cls := findClass_of_methodNamed B.named
  have hlocks := B.notSynchronized
  subst hsz
  unfold qi_
  have hD := hD0.self (sz := s.heap.size)
  generalize hAe : va_A [(a0_, .inr (9, [.ref a1_, .ref a2_, .int 0, .int 4, .int 0, .int 1, .ref a3_, .int 0, .ref a4_])), (a2_, .inl (cI, 32, .inl (fun _ => 0)))] s.heap.size = A at hD hFx ⊢
  have hA : ∀ q : Nat, s.heap.size ≤ q → A q := fun q h => by rw [← hAe]; exact Or.inr h
  have hS : va_S A s.heap s.heap [] := va_S.rf
  have hP : va_P (dC, dI) vwCl [(a0_, .inr (9, [.ref a1_, .ref a2_, .int 0, .int 4, .int 0, .int 1, .ref a3_, .int 0, .ref a4_])), (a2_, .inl (cI, 32, .inl (fun _ => 0)))] s.heap := hP
  have hl := lv_entry ([.ref a0_, .int 0]) (n := 2) (Nat.le_of_ble_eq_true rfl)
  rw [lg_entry_eq]
  generalize (lg_sl ([.ref a0_, .int 0]) ++ List.replicate (2 - (lg_sl ([.ref a0_, .int 0])).length) Slot.unset).toArray = ls at hl ⊢
  have hl : lv_has ls 2 [(0, .ref a0_), (1, .int 0)] := hl
  refine lv_aload_n hx hb dX6_valueOf_0 rfl (lv_at hl 0 rfl) ?_
  refine va_get (D := (dC, dI)) (ci := 9) (v := .ref a2_) (C := RX6) (T := TX6) (N := 9) hx hb ht itX6 hown hK hP 0 rfl rfl 1 (by decide) (ht _ tw_132) (fun _ h9 => h9) rfl dX6_valueOf_1 ?_
  refine lv_iload_n hx hb dX6_valueOf_4 rfl (lv_at hl 1 rfl) ?_
  refine lv_bipush (v := 31) hx hb dX6_valueOf_5 (by decide) ?_
  refine lv_iand hx hb dX6_valueOf_7 ?_
  refine tp_i (y := 0) (by decide) ?_
  refine va_iald (D := (dC, dI)) hx hb hK hP 1 0 rfl rfl (vp_in_iff.mpr (by decide)) dX6_valueOf_8 ?_
  refine tp_i (y := 0) (rfl) ?_
  have hP9 := hP.sub (ws' := [(a0_, .inr (9, [.ref a1_, .ref a2_, .int 0, .int 4, .int 0, .int 1, .ref a3_, .int 0, .ref a4_])), (a2_, .inl (cI, 32, .inl (fun _ => 0)))]) [0, 1] rfl
  have hD9 := hD.sub (ws' := [(a0_, .inr (9, [.ref a1_, .ref a2_, .int 0, .int 4, .int 0, .int 1, .ref a3_, .int 0, .ref a4_])), (a2_, .inl (cI, 32, .inl (fun _ => 0)))]) [0, 1] (by decide) rfl
  refine W.widen (k := 0) (n := 0) (by omega) (by omega) ?_
  exact W.iret (v := 0) hx hb hr (fun t ht9 hW => ⟨⟨0, (), rfl, rfl, by rw [ht9]; exact hP9, hD9⟩, hS.F ht9⟩) hS.2.2 dX6_valueOf_9
set_option maxHeartbeats 4000000 in
set_option maxRecDepth 100000 in
theorem c_X4_second (l : Launch) (dC : Nat → ClassId) (dI : Nat → Nat → Nat) (cI cB cZ cJ cR : ClassId) (tb : Nat → Nat) (sz : Nat)   : Met l yX4_second (Cond.code yX4_second cX4_second 1 (some .int) :: tw_W) ({ frames := 0, cells := 0, slots := 0, locals := 0 }) (pc_ (dC, dI) (tyS cI cB cZ cJ cR) tb [] sz [.int 0]) (qi_ (dC, dI) [] sz (fun (r : Int32) (u : Unit) => r = 0) (fun (u : Unit) => [])) 0 0 (va_A [] sz) := by
  refine Met.ofW (cc := cX4_second) (maxL := 1) (ret := (some .int)) (by decide) rfl ?_
  intro p e s m args below meth c s₁ B hml hv
  obtain ⟨rfl, hsz, hP, hKK, hD0, hFx⟩ := hv
  have hK := hKK.1
  have hx := B.exec
  have hb := B.bytes
  have hr := B.returns
  have ht : ∀ w ∈ tw_W, w.before _ s = true := fun w h => atoms_spec (ws := Cond.code yX4_second cX4_second 1 (some .int) :: tw_W) B.pre w (List.mem_cons_of_mem _ h)
  have hown : s.vm.findClass RX4 = some m.cls := findClass_of_methodNamed B.named
  have hlocks := B.notSynchronized
  subst hsz
  unfold qi_
  have hD := hD0.self (sz := s.heap.size)
  generalize hAe : va_A [] s.heap.size = A at hD hFx ⊢
  have hA : ∀ q : Nat, s.heap.size ≤ q → A q := fun q h => by rw [← hAe]; exact Or.inr h
  have hS : va_S A s.heap s.heap [] := va_S.rf
  have hP : va_P (dC, dI) vwCl [] s.heap := hP
  have hl := lv_entry ([.int 0]) (n := 1) (Nat.le_of_ble_eq_true rfl)
  rw [lg_entry_eq]
  generalize (lg_sl ([.int 0]) ++ List.replicate (1 - (lg_sl ([.int 0])).length) Slot.unset).toArray = ls at hl ⊢
  have hl : lv_has ls 1 [(0, .int 0)] := hl
  refine lv_iload_n hx hb dX4_second_0 rfl (lv_at hl 0 rfl) ?_
  refine lv_bipush (v := 20) hx hb dX4_second_1 (by decide) ?_
  refine lv_iushr (v := 0) hx hb dX4_second_3 (by decide) ?_
  refine lv_bipush (v := 31) hx hb dX4_second_4 (by decide) ?_
  refine lv_iand hx hb dX4_second_6 ?_
  refine tp_i (y := 0) (by decide) ?_
  have hP9 := hP.sub (ws' := []) [] rfl
  have hD9 := hD.sub (ws' := []) [] (by decide) rfl
  refine W.widen (k := 0) (n := 0) (by omega) (by omega) ?_
  exact W.iret (v := 0) hx hb hr (fun t ht9 hW => ⟨⟨0, (), rfl, rfl, by rw [ht9]; exact hP9, hD9⟩, hS.F ht9⟩) hS.2.2 dX4_second_7
set_option maxHeartbeats 4000000 in
set_option maxRecDepth 100000 in
theorem c_X4_number (l : Launch) (dC : Nat → ClassId) (dI : Nat → Nat → Nat) (cI cB cZ cJ cR : ClassId) (tb : Nat → Nat) (sz : Nat)   : Met l yX4_number (Cond.code yX4_number cX4_number 2 (some .int) :: tw_W) ({ frames := 0, cells := 0, slots := 0, locals := 0 }) (pc_ (dC, dI) (tyS cI cB cZ cJ cR) tb [] sz [.int 0, .int 40]) (qi_ (dC, dI) [] sz (fun (r : Int32) (u : Unit) => r = 0) (fun (u : Unit) => [])) 0 0 (va_A [] sz) := by
  refine Met.ofW (cc := cX4_number) (maxL := 2) (ret := (some .int)) (by decide) rfl ?_
  intro p e s m args below meth c s₁ B hml hv
  obtain ⟨rfl, hsz, hP, hKK, hD0, hFx⟩ := hv
  have hK := hKK.1
  have hx := B.exec
  have hb := B.bytes
  have hr := B.returns
  have ht : ∀ w ∈ tw_W, w.before _ s = true := fun w h => atoms_spec (ws := Cond.code yX4_number cX4_number 2 (some .int) :: tw_W) B.pre w (List.mem_cons_of_mem _ h)
  have hown : s.vm.findClass RX4 = some m.cls := findClass_of_methodNamed B.named
  have hlocks := B.notSynchronized
  subst hsz
  unfold qi_
  have hD := hD0.self (sz := s.heap.size)
  generalize hAe : va_A [] s.heap.size = A at hD hFx ⊢
  have hA : ∀ q : Nat, s.heap.size ≤ q → A q := fun q h => by rw [← hAe]; exact Or.inr h
  have hS : va_S A s.heap s.heap [] := va_S.rf
  have hP : va_P (dC, dI) vwCl [] s.heap := hP
  have hl := lv_entry ([.int 0, .int 40]) (n := 2) (Nat.le_of_ble_eq_true rfl)
  rw [lg_entry_eq]
  generalize (lg_sl ([.int 0, .int 40]) ++ List.replicate (2 - (lg_sl ([.int 0, .int 40])).length) Slot.unset).toArray = ls at hl ⊢
  have hl : lv_has ls 2 [(0, .int 0), (1, .int 40)] := hl
  refine lv_iload_n hx hb dX4_number_0 rfl (lv_at hl 1 rfl) ?_
  refine lv_if_eq (tgt := 9) hx hb dX4_number_1 (by decide) (fun k1 => absurd k1 (by decide)) (fun _ => ?_)
  refine lv_iload_n hx hb dX4_number_4 rfl (lv_at hl 1 rfl) ?_
  refine lv_iconst (v := 1) hx hb dX4_number_5 (by decide) ?_
  refine lv_icmp_ne (tgt := 15) hx hb dX4_number_6 (by decide) (fun _ => ?_) (fun k2 => absurd k2 (by decide))
  refine lv_iload_n hx hb dX4_number_15 rfl (lv_at hl 1 rfl) ?_
  refine lv_iconst (v := 2) hx hb dX4_number_16 (by decide) ?_
  refine lv_icmp_ne (tgt := 61) hx hb dX4_number_17 (by decide) (fun _ => ?_) (fun k3 => absurd k3 (by decide))
  refine lv_iload_n hx hb dX4_number_61 rfl (lv_at hl 1 rfl) ?_
  refine lv_iconst (v := 4) hx hb dX4_number_62 (by decide) ?_
  refine lv_icmp_lt (tgt := 110) hx hb dX4_number_63 (by decide) (fun k4 => absurd k4 (by decide)) (fun _ => ?_)
  refine lv_iload_n hx hb dX4_number_66 rfl (lv_at hl 1 rfl) ?_
  refine lv_bipush (v := 9) hx hb dX4_number_67 (by decide) ?_
  refine lv_icmp_gt (tgt := 110) hx hb dX4_number_69 (by decide) (fun _ => ?_) (fun k5 => absurd k5 (by decide))
  refine lv_iload_n hx hb dX4_number_110 rfl (lv_at hl 1 rfl) ?_
  refine lv_bipush (v := 15) hx hb dX4_number_111 (by decide) ?_
  refine lv_icmp_lt (tgt := 137) hx hb dX4_number_113 (by decide) (fun k6 => absurd k6 (by decide)) (fun _ => ?_)
  refine lv_iload_n hx hb dX4_number_116 rfl (lv_at hl 1 rfl) ?_
  refine lv_bipush (v := 17) hx hb dX4_number_117 (by decide) ?_
  refine lv_icmp_gt (tgt := 137) hx hb dX4_number_119 (by decide) (fun _ => ?_) (fun k7 => absurd k7 (by decide))
  refine lv_iload_n hx hb dX4_number_137 rfl (lv_at hl 1 rfl) ?_
  refine lv_bipush (v := 24) hx hb dX4_number_138 (by decide) ?_
  refine lv_icmp_lt (tgt := 156) hx hb dX4_number_140 (by decide) (fun k8 => absurd k8 (by decide)) (fun _ => ?_)
  refine lv_iload_n hx hb dX4_number_143 rfl (lv_at hl 1 rfl) ?_
  refine lv_bipush (v := 26) hx hb dX4_number_144 (by decide) ?_
  refine lv_icmp_gt (tgt := 156) hx hb dX4_number_146 (by decide) (fun _ => ?_) (fun k9 => absurd k9 (by decide))
  refine lv_iload_n hx hb dX4_number_156 rfl (lv_at hl 0 rfl) ?_
  refine lv_bipush (v := 20) hx hb dX4_number_157 (by decide) ?_
  refine lv_ishr hx hb dX4_number_159 ?_
  refine tp_i (y := 0) (by decide) ?_
  have hP9 := hP.sub (ws' := []) [] rfl
  have hD9 := hD.sub (ws' := []) [] (by decide) rfl
  refine W.widen (k := 0) (n := 0) (by omega) (by omega) ?_
  exact W.iret (v := 0) hx hb hr (fun t ht9 hW => ⟨⟨0, (), rfl, rfl, by rw [ht9]; exact hP9, hD9⟩, hS.F ht9⟩) hS.2.2 dX4_number_160
set_option maxHeartbeats 4000000 in
set_option maxRecDepth 100000 in
theorem c_X4_target (l : Launch) (dC : Nat → ClassId) (dI : Nat → Nat → Nat) (cI cB cZ cJ cR : ClassId) (tb : Nat → Nat) (sz : Nat)   : Met l yX4_target (Cond.code yX4_target cX4_target 1 (some .int) :: tw_W) ({ frames := 0, cells := 0, slots := 0, locals := 0 }) (pc_ (dC, dI) (tyS cI cB cZ cJ cR) tb [] sz [.int 0]) (qi_ (dC, dI) [] sz (fun (r : Int32) (u : Unit) => r = 0) (fun (u : Unit) => [])) 0 0 (va_A [] sz) := by
  refine Met.ofW (cc := cX4_target) (maxL := 1) (ret := (some .int)) (by decide) rfl ?_
  intro p e s m args below meth c s₁ B hml hv
  obtain ⟨rfl, hsz, hP, hKK, hD0, hFx⟩ := hv
  have hK := hKK.1
  have hx := B.exec
  have hb := B.bytes
  have hr := B.returns
  have ht : ∀ w ∈ tw_W, w.before _ s = true := fun w h => atoms_spec (ws := Cond.code yX4_target cX4_target 1 (some .int) :: tw_W) B.pre w (List.mem_cons_of_mem _ h)
  have hown : s.vm.findClass RX4 = some m.cls := findClass_of_methodNamed B.named
  have hlocks := B.notSynchronized
  subst hsz
  unfold qi_
  have hD := hD0.self (sz := s.heap.size)
  generalize hAe : va_A [] s.heap.size = A at hD hFx ⊢
  have hA : ∀ q : Nat, s.heap.size ≤ q → A q := fun q h => by rw [← hAe]; exact Or.inr h
  have hS : va_S A s.heap s.heap [] := va_S.rf
  have hP : va_P (dC, dI) vwCl [] s.heap := hP
  have hl := lv_entry ([.int 0]) (n := 1) (Nat.le_of_ble_eq_true rfl)
  rw [lg_entry_eq]
  generalize (lg_sl ([.int 0]) ++ List.replicate (1 - (lg_sl ([.int 0])).length) Slot.unset).toArray = ls at hl ⊢
  have hl : lv_has ls 1 [(0, .int 0)] := hl
  refine lv_iload_n hx hb dX4_target_0 rfl (lv_at hl 0 rfl) ?_
  refine lv_bipush (v := 7) hx hb dX4_target_1 (by decide) ?_
  refine lv_iushr (v := 0) hx hb dX4_target_3 (by decide) ?_
  refine lv_bipush (v := 31) hx hb dX4_target_4 (by decide) ?_
  refine lv_iand hx hb dX4_target_6 ?_
  refine tp_i (y := 0) (by decide) ?_
  have hP9 := hP.sub (ws' := []) [] rfl
  have hD9 := hD.sub (ws' := []) [] (by decide) rfl
  refine W.widen (k := 0) (n := 0) (by omega) (by omega) ?_
  exact W.iret (v := 0) hx hb hr (fun t ht9 hW => ⟨⟨0, (), rfl, rfl, by rw [ht9]; exact hP9, hD9⟩, hS.F ht9⟩) hS.2.2 dX4_target_7
set_option maxHeartbeats 4000000 in
set_option maxRecDepth 100000 in
theorem c_X6_perform (l : Launch) (dC : Nat → ClassId) (dI : Nat → Nat → Nat) (cI cB cZ cJ cR : ClassId) (tb : Nat → Nat) (sz : Nat) (a0_ : Nat) (a1_ : Nat) (a2_ : Nat) (a3_ : Nat) (a4_ : Nat)  : Met l yX6_perform (Cond.code yX6_perform cX6_perform 7 none :: tw_W) ({ frames := 1, cells := 0, slots := 0, locals := 21 }) (pc_ (dC, dI) (tyS cI cB cZ cJ cR) tb [(a0_, .inr (9, [.ref a1_, .ref a2_, .int 0, .int 4, .int 0, .int 1, .ref a3_, .int 0, .ref a4_])), (a2_, .inl (cI, 32, .inl (fun _ => 0)))] sz [.ref a0_, .int 40, .int 0]) (qv_ (dC, dI) [(a0_, .inr (9, [.ref a1_, .ref a2_, .int 0, .int 4, .int 0, .int 1, .ref a3_, .int 0, .ref a4_])), (a2_, .inl (cI, 32, .inl (fun _ => 0)))] sz (fun (u : Unit) => True) (fun (u : Unit) => [(a0_, .inr (9, [.ref a1_, .ref a2_, .int 0, .int 4, .int 2, .int 1, .ref a3_, .int 0, .ref a4_])), (a2_, .inl (cI, 32, .inl (fun _ => 0)))])) 0 0 (va_A [(a0_, .inr (9, [.ref a1_, .ref a2_, .int 0, .int 4, .int 0, .int 1, .ref a3_, .int 0, .ref a4_])), (a2_, .inl (cI, 32, .inl (fun _ => 0)))] sz) := by
  refine Met.ofW (cc := cX6_perform) (maxL := 7) (ret := none) (by decide) rfl ?_
  intro p e s m args below meth c s₁ B hml hv
  obtain ⟨rfl, hsz, hP, hKK, hD0, hFx⟩ := hv
  have hK := hKK.1
  have hx := B.exec
  have hb := B.bytes
  have hr := B.returns
  have ht : ∀ w ∈ tw_W, w.before _ s = true := fun w h => atoms_spec (ws := Cond.code yX6_perform cX6_perform 7 none :: tw_W) B.pre w (List.mem_cons_of_mem _ h)
  have hown : s.vm.findClass RX6 = some m.cls := findClass_of_methodNamed B.named
  have hlocks := B.notSynchronized
  subst hsz
  unfold qv_
  have hD := hD0.self (sz := s.heap.size)
  generalize hAe : va_A [(a0_, .inr (9, [.ref a1_, .ref a2_, .int 0, .int 4, .int 0, .int 1, .ref a3_, .int 0, .ref a4_])), (a2_, .inl (cI, 32, .inl (fun _ => 0)))] s.heap.size = A at hD hFx ⊢
  have hA : ∀ q : Nat, s.heap.size ≤ q → A q := fun q h => by rw [← hAe]; exact Or.inr h
  have hS : va_S A s.heap s.heap [] := va_S.rf
  have hP : va_P (dC, dI) vwCl [(a0_, .inr (9, [.ref a1_, .ref a2_, .int 0, .int 4, .int 0, .int 1, .ref a3_, .int 0, .ref a4_])), (a2_, .inl (cI, 32, .inl (fun _ => 0)))] s.heap := hP
  have hl := lv_entry ([.ref a0_, .int 40, .int 0]) (n := 7) (Nat.le_of_ble_eq_true rfl)
  rw [lg_entry_eq]
  generalize (lg_sl ([.ref a0_, .int 40, .int 0]) ++ List.replicate (7 - (lg_sl ([.ref a0_, .int 40, .int 0])).length) Slot.unset).toArray = ls at hl ⊢
  have hl : lv_has ls 7 [(0, .ref a0_), (1, .int 40), (2, .int 0)] := hl
  refine lv_aload_n hx hb dX6_perform_0 rfl (lv_at hl 0 rfl) ?_
  refine lv_iload_n hx hb dX6_perform_1 rfl (lv_at hl 2 rfl) ?_
  refine ca_i (wr := [(a0_, .inr (9, [.ref a1_, .ref a2_, .int 0, .int 4, .int 0, .int 1, .ref a3_, .int 0, .ref a4_])), (a2_, .inl (cI, 32, .inl (fun _ => 0)))]) (rn_S (n := 1) (As := [.int 0]) (rest := [.ref a0_]) hx hb hml hown ht hKK hFx hP hD hS hA (c_X4_first l dC dI cI cB cZ cJ cR tb s.heap.size ) tw_236 tw_237 (by decide +kernel) rfl rfl ⟨Nat.le_of_ble_eq_true rfl, Nat.le_of_ble_eq_true rfl⟩ [] rfl (by decide) rfl hl.1 rfl (Nat.le_of_ble_eq_true rfl) dX6_perform_2 ⟨Nat.le_of_ble_eq_true rfl, Nat.le_of_ble_eq_true rfl⟩) hP hD hS hA (isC := []) (isR := [0, 1]) rfl rfl (by decide) (by decide) (fun r2 u H locs hw1 hP hD hS => ?_)
  subst hw1
  have hP : va_P (dC, dI) vwCl [(a0_, .inr (9, [.ref a1_, .ref a2_, .int 0, .int 4, .int 0, .int 1, .ref a3_, .int 0, .ref a4_])), (a2_, .inl (cI, 32, .inl (fun _ => 0)))] H := hP
  have hD : va_D A [(a0_, .inr (9, [.ref a1_, .ref a2_, .int 0, .int 4, .int 0, .int 1, .ref a3_, .int 0, .ref a4_])), (a2_, .inl (cI, 32, .inl (fun _ => 0)))] := hD
  refine W.widen (k := 0) (n := 0) (by omega) (by omega) ?_
  refine ca_i (wr := []) (rn_V (n := 1) (As := [.int 0]) (rest := []) hx hb hml hown ht hKK hFx hP hD hS hA (c_X6_valueOf l dC dI cI cB cZ cJ cR tb H.size a0_ a1_ a2_ a3_ a4_) tw_238 tw_239 (by decide +kernel) rfl rfl ⟨Nat.le_of_ble_eq_true rfl, Nat.le_of_ble_eq_true rfl⟩ [0, 1] rfl (by decide) rfl rfl rfl rfl hl.1 rfl (Nat.le_of_ble_eq_true rfl) dX6_perform_5 ⟨Nat.le_of_ble_eq_true rfl, Nat.le_of_ble_eq_true rfl⟩) hP hD hS hA (isC := [0, 1]) (isR := []) rfl rfl (by decide) (by decide) (fun r4 u H locs hw3 hP hD hS => ?_)
  subst hw3
  have hP : va_P (dC, dI) vwCl [(a0_, .inr (9, [.ref a1_, .ref a2_, .int 0, .int 4, .int 0, .int 1, .ref a3_, .int 0, .ref a4_])), (a2_, .inl (cI, 32, .inl (fun _ => 0)))] H := hP
  have hD : va_D A [(a0_, .inr (9, [.ref a1_, .ref a2_, .int 0, .int 4, .int 0, .int 1, .ref a3_, .int 0, .ref a4_])), (a2_, .inl (cI, 32, .inl (fun _ => 0)))] := hD
  refine W.widen (k := 0) (n := 0) (by omega) (by omega) ?_
  refine lv_istore_n (lv' := [(3, .int 0), (0, .ref a0_), (1, .int 40), (2, .int 0)]) hx hb dX6_perform_8 rfl hl (by decide) rfl (fun ls hl => ?_)
  refine lv_aload_n hx hb dX6_perform_9 rfl (lv_at hl 1 rfl) ?_
  refine lv_iload_n hx hb dX6_perform_10 rfl (lv_at hl 3 rfl) ?_
  refine ca_i (wr := [(a0_, .inr (9, [.ref a1_, .ref a2_, .int 0, .int 4, .int 0, .int 1, .ref a3_, .int 0, .ref a4_])), (a2_, .inl (cI, 32, .inl (fun _ => 0)))]) (rn_S (n := 1) (As := [.int 0]) (rest := [.ref a0_]) hx hb hml hown ht hKK hFx hP hD hS hA (c_X4_second l dC dI cI cB cZ cJ cR tb H.size ) tw_240 tw_241 (by decide +kernel) rfl rfl ⟨Nat.le_of_ble_eq_true rfl, Nat.le_of_ble_eq_true rfl⟩ [] rfl (by decide) rfl hl.1 rfl (Nat.le_of_ble_eq_true rfl) dX6_perform_11 ⟨Nat.le_of_ble_eq_true rfl, Nat.le_of_ble_eq_true rfl⟩) hP hD hS hA (isC := []) (isR := [0, 1]) rfl rfl (by decide) (by decide) (fun r6 u H locs hw5 hP hD hS => ?_)
  subst hw5
  have hP : va_P (dC, dI) vwCl [(a0_, .inr (9, [.ref a1_, .ref a2_, .int 0, .int 4, .int 0, .int 1, .ref a3_, .int 0, .ref a4_])), (a2_, .inl (cI, 32, .inl (fun _ => 0)))] H := hP
  have hD : va_D A [(a0_, .inr (9, [.ref a1_, .ref a2_, .int 0, .int 4, .int 0, .int 1, .ref a3_, .int 0, .ref a4_])), (a2_, .inl (cI, 32, .inl (fun _ => 0)))] := hD
  refine W.widen (k := 0) (n := 0) (by omega) (by omega) ?_
  refine ca_i (wr := []) (rn_V (n := 1) (As := [.int 0]) (rest := []) hx hb hml hown ht hKK hFx hP hD hS hA (c_X6_valueOf l dC dI cI cB cZ cJ cR tb H.size a0_ a1_ a2_ a3_ a4_) tw_238 tw_239 (by decide +kernel) rfl rfl ⟨Nat.le_of_ble_eq_true rfl, Nat.le_of_ble_eq_true rfl⟩ [0, 1] rfl (by decide) rfl rfl rfl rfl hl.1 rfl (Nat.le_of_ble_eq_true rfl) dX6_perform_14 ⟨Nat.le_of_ble_eq_true rfl, Nat.le_of_ble_eq_true rfl⟩) hP hD hS hA (isC := [0, 1]) (isR := []) rfl rfl (by decide) (by decide) (fun r8 u H locs hw7 hP hD hS => ?_)
  subst hw7
  have hP : va_P (dC, dI) vwCl [(a0_, .inr (9, [.ref a1_, .ref a2_, .int 0, .int 4, .int 0, .int 1, .ref a3_, .int 0, .ref a4_])), (a2_, .inl (cI, 32, .inl (fun _ => 0)))] H := hP
  have hD : va_D A [(a0_, .inr (9, [.ref a1_, .ref a2_, .int 0, .int 4, .int 0, .int 1, .ref a3_, .int 0, .ref a4_])), (a2_, .inl (cI, 32, .inl (fun _ => 0)))] := hD
  refine W.widen (k := 0) (n := 0) (by omega) (by omega) ?_
  refine lv_istore (lv' := [(4, .int 0), (3, .int 0), (0, .ref a0_), (1, .int 40), (2, .int 0)]) hx hb dX6_perform_17 hl (by decide) rfl (fun ls hl => ?_)
  refine lv_iload_n hx hb dX6_perform_19 rfl (lv_at hl 4 rfl) ?_
  refine lv_iload_n hx hb dX6_perform_20 rfl (lv_at hl 3 rfl) ?_
  refine ca_i (wr := [(a0_, .inr (9, [.ref a1_, .ref a2_, .int 0, .int 4, .int 0, .int 1, .ref a3_, .int 0, .ref a4_])), (a2_, .inl (cI, 32, .inl (fun _ => 0)))]) (rn_S (n := 2) (As := [.int 0, .int 40]) (rest := []) hx hb hml hown ht hKK hFx hP hD hS hA (c_X4_number l dC dI cI cB cZ cJ cR tb H.size ) tw_242 tw_243 (by decide +kernel) rfl rfl ⟨Nat.le_of_ble_eq_true rfl, Nat.le_of_ble_eq_true rfl⟩ [] rfl (by decide) rfl hl.1 rfl (Nat.le_of_ble_eq_true rfl) dX6_perform_21 ⟨Nat.le_of_ble_eq_true rfl, Nat.le_of_ble_eq_true rfl⟩) hP hD hS hA (isC := []) (isR := [0, 1]) rfl rfl (by decide) (by decide) (fun r10 u H locs hw9 hP hD hS => ?_)
  subst hw9
  have hP : va_P (dC, dI) vwCl [(a0_, .inr (9, [.ref a1_, .ref a2_, .int 0, .int 4, .int 0, .int 1, .ref a3_, .int 0, .ref a4_])), (a2_, .inl (cI, 32, .inl (fun _ => 0)))] H := hP
  have hD : va_D A [(a0_, .inr (9, [.ref a1_, .ref a2_, .int 0, .int 4, .int 0, .int 1, .ref a3_, .int 0, .ref a4_])), (a2_, .inl (cI, 32, .inl (fun _ => 0)))] := hD
  refine W.widen (k := 0) (n := 0) (by omega) (by omega) ?_
  refine lv_istore (lv' := [(5, .int 0), (4, .int 0), (3, .int 0), (0, .ref a0_), (1, .int 40), (2, .int 0)]) hx hb dX6_perform_24 hl (by decide) rfl (fun ls hl => ?_)
  refine lv_iload_n hx hb dX6_perform_26 rfl (lv_at hl 5 rfl) ?_
  refine ca_i (wr := [(a0_, .inr (9, [.ref a1_, .ref a2_, .int 0, .int 4, .int 0, .int 1, .ref a3_, .int 0, .ref a4_])), (a2_, .inl (cI, 32, .inl (fun _ => 0)))]) (rn_S (n := 1) (As := [.int 0]) (rest := []) hx hb hml hown ht hKK hFx hP hD hS hA (c_X4_target l dC dI cI cB cZ cJ cR tb H.size ) tw_244 tw_245 (by decide +kernel) rfl rfl ⟨Nat.le_of_ble_eq_true rfl, Nat.le_of_ble_eq_true rfl⟩ [] rfl (by decide) rfl hl.1 rfl (Nat.le_of_ble_eq_true rfl) dX6_perform_27 ⟨Nat.le_of_ble_eq_true rfl, Nat.le_of_ble_eq_true rfl⟩) hP hD hS hA (isC := []) (isR := [0, 1]) rfl rfl (by decide) (by decide) (fun r12 u H locs hw11 hP hD hS => ?_)
  subst hw11
  have hP : va_P (dC, dI) vwCl [(a0_, .inr (9, [.ref a1_, .ref a2_, .int 0, .int 4, .int 0, .int 1, .ref a3_, .int 0, .ref a4_])), (a2_, .inl (cI, 32, .inl (fun _ => 0)))] H := hP
  have hD : va_D A [(a0_, .inr (9, [.ref a1_, .ref a2_, .int 0, .int 4, .int 0, .int 1, .ref a3_, .int 0, .ref a4_])), (a2_, .inl (cI, 32, .inl (fun _ => 0)))] := hD
  refine W.widen (k := 0) (n := 0) (by omega) (by omega) ?_
  refine lv_istore (lv' := [(6, .int 0), (5, .int 0), (4, .int 0), (3, .int 0), (0, .ref a0_), (1, .int 40), (2, .int 0)]) hx hb dX6_perform_30 hl (by decide) rfl (fun ls hl => ?_)
  refine lv_iload_n hx hb dX6_perform_32 rfl (lv_at hl 5 rfl) ?_
  refine lv_if_ne (tgt := 47) hx hb dX6_perform_33 (by decide) (fun _ => ?_) (fun k13 => absurd k13 (by decide))
  refine lv_iload_n hx hb dX6_perform_47 rfl (lv_at hl 5 rfl) ?_
  refine lv_iconst (v := 1) hx hb dX6_perform_48 (by decide) ?_
  refine lv_icmp_ne (tgt := 68) hx hb dX6_perform_49 (by decide) (fun _ => ?_) (fun k14 => absurd k14 (by decide))
  refine lv_iload_n hx hb dX6_perform_68 rfl (lv_at hl 5 rfl) ?_
  refine lv_iconst (v := 2) hx hb dX6_perform_69 (by decide) ?_
  refine lv_icmp_ne (tgt := 89) hx hb dX6_perform_70 (by decide) (fun _ => ?_) (fun k15 => absurd k15 (by decide))
  refine lv_iload_n hx hb dX6_perform_89 rfl (lv_at hl 5 rfl) ?_
  refine lv_iconst (v := 3) hx hb dX6_perform_90 (by decide) ?_
  refine lv_icmp_ne (tgt := 110) hx hb dX6_perform_91 (by decide) (fun _ => ?_) (fun k16 => absurd k16 (by decide))
  refine lv_iload_n hx hb dX6_perform_110 rfl (lv_at hl 5 rfl) ?_
  refine lv_bipush (v := 9) hx hb dX6_perform_111 (by decide) ?_
  refine lv_icmp_gt (tgt := 137) hx hb dX6_perform_113 (by decide) (fun _ => ?_) (fun k17 => absurd k17 (by decide))
  refine lv_iload_n hx hb dX6_perform_137 rfl (lv_at hl 5 rfl) ?_
  refine lv_bipush (v := 14) hx hb dX6_perform_138 (by decide) ?_
  refine lv_icmp_gt (tgt := 157) hx hb dX6_perform_140 (by decide) (fun _ => ?_) (fun k18 => absurd k18 (by decide))
  refine lv_iload_n hx hb dX6_perform_157 rfl (lv_at hl 5 rfl) ?_
  refine lv_bipush (v := 17) hx hb dX6_perform_158 (by decide) ?_
  refine lv_icmp_gt (tgt := 177) hx hb dX6_perform_160 (by decide) (fun _ => ?_) (fun k19 => absurd k19 (by decide))
  refine lv_iload_n hx hb dX6_perform_177 rfl (lv_at hl 5 rfl) ?_
  refine lv_bipush (v := 26) hx hb dX6_perform_178 (by decide) ?_
  refine lv_icmp_gt (tgt := 199) hx hb dX6_perform_180 (by decide) (fun _ => ?_) (fun k20 => absurd k20 (by decide))
  refine lv_iload_n hx hb dX6_perform_199 rfl (lv_at hl 5 rfl) ?_
  refine lv_bipush (v := 36) hx hb dX6_perform_200 (by decide) ?_
  refine lv_icmp_gt (tgt := 221) hx hb dX6_perform_202 (by decide) (fun _ => ?_) (fun k21 => absurd k21 (by decide))
  refine lv_iload_n hx hb dX6_perform_221 rfl (lv_at hl 5 rfl) ?_
  refine lv_bipush (v := 38) hx hb dX6_perform_222 (by decide) ?_
  refine lv_icmp_ne (tgt := 234) hx hb dX6_perform_224 (by decide) (fun _ => ?_) (fun k22 => absurd k22 (by decide))
  refine lv_iload_n hx hb dX6_perform_234 rfl (lv_at hl 5 rfl) ?_
  refine lv_bipush (v := 39) hx hb dX6_perform_235 (by decide) ?_
  refine lv_icmp_ne (tgt := 248) hx hb dX6_perform_237 (by decide) (fun _ => ?_) (fun k23 => absurd k23 (by decide))
  refine lv_iload_n hx hb dX6_perform_248 rfl (lv_at hl 5 rfl) ?_
  refine lv_bipush (v := 37) hx hb dX6_perform_249 (by decide) ?_
  refine lv_icmp_eq (tgt := 259) hx hb dX6_perform_251 (by decide) (fun k24 => absurd k24 (by decide)) (fun _ => ?_)
  refine lv_aload_n hx hb dX6_perform_254 rfl (lv_at hl 4 rfl) ?_
  refine lv_iconst (v := 2) hx hb dX6_perform_255 (by decide) ?_
  refine va_put (D := (dC, dI)) (ci := 9) (v := .int 2) (ty := .int) (C := RX6) (T := TX6) (N := 9) hx hb ht itX6 tyX6 tyX6_ok nmX6 hown hK hP hD hS 0 rfl rfl 4 (by decide) (ht _ tw_226) (fun _ h9 => h9) rfl (by decide +kernel) rfl rfl (Nat.le_of_ble_eq_true rfl) dX6_perform_256 (fun H locs hP hD hS => ?_)
  have hP : va_P (dC, dI) vwCl [(a0_, .inr (9, [.ref a1_, .ref a2_, .int 0, .int 4, .int 2, .int 1, .ref a3_, .int 0, .ref a4_])), (a2_, .inl (cI, 32, .inl (fun _ => 0)))] H := hP
  have hD : va_D A [(a0_, .inr (9, [.ref a1_, .ref a2_, .int 0, .int 4, .int 2, .int 1, .ref a3_, .int 0, .ref a4_])), (a2_, .inl (cI, 32, .inl (fun _ => 0)))] := hD
  have hP9 := hP.sub (ws' := [(a0_, .inr (9, [.ref a1_, .ref a2_, .int 0, .int 4, .int 2, .int 1, .ref a3_, .int 0, .ref a4_])), (a2_, .inl (cI, 32, .inl (fun _ => 0)))]) [0, 1] rfl
  have hD9 := hD.sub (ws' := [(a0_, .inr (9, [.ref a1_, .ref a2_, .int 0, .int 4, .int 2, .int 1, .ref a3_, .int 0, .ref a4_])), (a2_, .inl (cI, 32, .inl (fun _ => 0)))]) [0, 1] (by decide) rfl
  refine W.widen (k := 0) (n := 0) (by omega) (by omega) ?_
  exact W.vret hx hb hr (fun t ht9 hW => ⟨⟨(), rfl, trivial, by rw [ht9]; exact hP9, hD9⟩, hS.F ht9⟩) hS.2.2 dX6_perform_259
set_option maxHeartbeats 4000000 in
set_option maxRecDepth 100000 in
theorem c_X6_tick (l : Launch) (dC : Nat → ClassId) (dI : Nat → Nat → Nat) (cI cB cZ cJ cR : ClassId) (tb : Nat → Nat) (sz : Nat) (a0_ : Nat) (a1_ : Nat) (a2_ : Nat) (a3_ : Nat) (a4_ : Nat) (N : Nat) (hf_N_0 : 256 ≤ N) (hf_N_1 : N ≤ 4096) : Met l yX6_tick (Cond.code yX6_tick cX6_tick 3 none :: tw_W) ({ frames := 2, cells := 0, slots := 0, locals := 47 }) (pc_ (dC, dI) (tyS cI cB cZ cJ cR) tb [(a0_, .inr (9, [.ref a1_, .ref a2_, .int 0, .int 0, .int 0, .int 0, .ref a3_, .int 0, .ref a4_])), (a2_, .inl (cI, 32, .inl (fun _ => 0))), (a1_, .inl (cI, N, .inl (fun _ => 0)))] sz [.ref a0_]) (qv_ (dC, dI) [(a0_, .inr (9, [.ref a1_, .ref a2_, .int 0, .int 0, .int 0, .int 0, .ref a3_, .int 0, .ref a4_])), (a2_, .inl (cI, 32, .inl (fun _ => 0))), (a1_, .inl (cI, N, .inl (fun _ => 0)))] sz (fun (u : Unit) => True) (fun (u : Unit) => [(a0_, .inr (9, [.ref a1_, .ref a2_, .int 0, .int 4, .int 2, .int 1, .ref a3_, .int 0, .ref a4_])), (a2_, .inl (cI, 32, .inl (fun _ => 0))), (a1_, .inl (cI, N, .inl (fun _ => 0)))])) 0 0 (va_A [(a0_, .inr (9, [.ref a1_, .ref a2_, .int 0, .int 0, .int 0, .int 0, .ref a3_, .int 0, .ref a4_])), (a2_, .inl (cI, 32, .inl (fun _ => 0))), (a1_, .inl (cI, N, .inl (fun _ => 0)))] sz) := by
  refine Met.ofW (cc := cX6_tick) (maxL := 3) (ret := none) (by decide) rfl ?_
  intro p e s m args below meth c s₁ B hml hv
  obtain ⟨rfl, hsz, hP, hKK, hD0, hFx⟩ := hv
  have hK := hKK.1
  have hx := B.exec
  have hb := B.bytes
  have hr := B.returns
  have ht : ∀ w ∈ tw_W, w.before _ s = true := fun w h => atoms_spec (ws := Cond.code yX6_tick cX6_tick 3 none :: tw_W) B.pre w (List.mem_cons_of_mem _ h)
  have hown : s.vm.findClass RX6 = some m.cls := findClass_of_methodNamed B.named
  have hlocks := B.notSynchronized
  subst hsz
  unfold qv_
  have hD := hD0.self (sz := s.heap.size)
  generalize hAe : va_A [(a0_, .inr (9, [.ref a1_, .ref a2_, .int 0, .int 0, .int 0, .int 0, .ref a3_, .int 0, .ref a4_])), (a2_, .inl (cI, 32, .inl (fun _ => 0))), (a1_, .inl (cI, N, .inl (fun _ => 0)))] s.heap.size = A at hD hFx ⊢
  have hA : ∀ q : Nat, s.heap.size ≤ q → A q := fun q h => by rw [← hAe]; exact Or.inr h
  have hS : va_S A s.heap s.heap [] := va_S.rf
  have hP : va_P (dC, dI) vwCl [(a0_, .inr (9, [.ref a1_, .ref a2_, .int 0, .int 0, .int 0, .int 0, .ref a3_, .int 0, .ref a4_])), (a2_, .inl (cI, 32, .inl (fun _ => 0))), (a1_, .inl (cI, N, .inl (fun _ => 0)))] s.heap := hP
  have hl := lv_entry ([.ref a0_]) (n := 3) (Nat.le_of_ble_eq_true rfl)
  rw [lg_entry_eq]
  generalize (lg_sl ([.ref a0_]) ++ List.replicate (3 - (lg_sl ([.ref a0_])).length) Slot.unset).toArray = ls at hl ⊢
  have hl : lv_has ls 3 [(0, .ref a0_)] := hl
  refine lv_aload_n hx hb dX6_tick_0 rfl (lv_at hl 0 rfl) ?_
  refine va_get (D := (dC, dI)) (ci := 9) (v := .int 0) (C := RX6) (T := TX6) (N := 9) hx hb ht itX6 hown hK hP 0 rfl rfl 4 (by decide) (ht _ tw_226) (fun _ h9 => h9) rfl dX6_tick_1 ?_
  refine lv_if_eq (tgt := 8) hx hb dX6_tick_4 (by decide) (fun _ => ?_) (fun k1 => absurd k1 (by decide))
  refine lv_aload_n hx hb dX6_tick_8 rfl (lv_at hl 0 rfl) ?_
  refine lv_dup hx hb dX6_tick_9 rfl ?_
  refine va_get (D := (dC, dI)) (ci := 9) (v := .int 0) (C := RX6) (T := TX6) (N := 9) hx hb ht itX6 hown hK hP 0 rfl rfl 5 (by decide) (ht _ tw_227) (fun _ h9 => h9) rfl dX6_tick_10 ?_
  refine lv_iconst (v := 1) hx hb dX6_tick_13 (by decide) ?_
  refine lv_iadd hx hb dX6_tick_14 ?_
  refine tp_i (y := 1) (by decide) ?_
  refine va_put (D := (dC, dI)) (ci := 9) (v := .int 1) (ty := .int) (C := RX6) (T := TX6) (N := 9) hx hb ht itX6 tyX6 tyX6_ok nmX6 hown hK hP hD hS 0 rfl rfl 5 (by decide) (ht _ tw_227) (fun _ h9 => h9) rfl (by decide +kernel) rfl rfl (Nat.le_of_ble_eq_true rfl) dX6_tick_15 (fun H locs hP hD hS => ?_)
  have hP : va_P (dC, dI) vwCl [(a0_, .inr (9, [.ref a1_, .ref a2_, .int 0, .int 0, .int 0, .int 1, .ref a3_, .int 0, .ref a4_])), (a2_, .inl (cI, 32, .inl (fun _ => 0))), (a1_, .inl (cI, N, .inl (fun _ => 0)))] H := hP
  have hD : va_D A [(a0_, .inr (9, [.ref a1_, .ref a2_, .int 0, .int 0, .int 0, .int 1, .ref a3_, .int 0, .ref a4_])), (a2_, .inl (cI, 32, .inl (fun _ => 0))), (a1_, .inl (cI, N, .inl (fun _ => 0)))] := hD
  refine lv_aload_n hx hb dX6_tick_18 rfl (lv_at hl 0 rfl) ?_
  refine lv_aload_n hx hb dX6_tick_19 rfl (lv_at hl 0 rfl) ?_
  refine va_get (D := (dC, dI)) (ci := 9) (v := .int 0) (C := RX6) (T := TX6) (N := 9) hx hb ht itX6 hown hK hP 0 rfl rfl 2 (by decide) (ht _ tw_228) (fun _ h9 => h9) rfl dX6_tick_20 ?_
  refine ca_i (wr := [(a2_, .inl (cI, 32, .inl (fun _ => 0)))]) (rn_V (n := 1) (As := [.int 0]) (rest := []) hx hb hml hown ht hKK hFx hP hD hS hA (c_X6_hasWord l dC dI cI cB cZ cJ cR tb H.size a0_ a1_ a2_ a3_ a4_ N (by omega) (by omega)) tw_229 tw_230 (by decide +kernel) rfl rfl ⟨Nat.le_of_ble_eq_true rfl, Nat.le_of_ble_eq_true rfl⟩ [0, 2] rfl (by decide) rfl rfl rfl rfl hl.1 rfl (Nat.le_of_ble_eq_true rfl) dX6_tick_23 ⟨Nat.le_of_ble_eq_true rfl, Nat.le_of_ble_eq_true rfl⟩) hP hD hS hA (isC := [0, 2]) (isR := [1]) rfl rfl (by decide) (by decide) (fun r3 u H locs hw2 hP hD hS => ?_)
  subst hw2
  have hP : va_P (dC, dI) vwCl [(a2_, .inl (cI, 32, .inl (fun _ => 0))), (a0_, .inr (9, [.ref a1_, .ref a2_, .int 0, .int 0, .int 0, .int 1, .ref a3_, .int 0, .ref a4_])), (a1_, .inl (cI, N, .inl (fun _ => 0)))] H := hP
  have hD : va_D A [(a2_, .inl (cI, 32, .inl (fun _ => 0))), (a0_, .inr (9, [.ref a1_, .ref a2_, .int 0, .int 0, .int 0, .int 1, .ref a3_, .int 0, .ref a4_])), (a1_, .inl (cI, N, .inl (fun _ => 0)))] := hD
  refine W.widen (k := 0) (n := 0) (by omega) (by omega) ?_
  refine lv_if_ne (tgt := 35) hx hb dX6_tick_26 (by decide) (fun _ => ?_) (fun k4 => absurd k4 (by decide))
  refine lv_aload_n hx hb dX6_tick_35 rfl (lv_at hl 0 rfl) ?_
  refine lv_aload_n hx hb dX6_tick_36 rfl (lv_at hl 0 rfl) ?_
  refine va_get (D := (dC, dI)) (ci := 9) (v := .int 0) (C := RX6) (T := TX6) (N := 9) hx hb ht itX6 hown hK hP 1 rfl rfl 2 (by decide) (ht _ tw_228) (fun _ h9 => h9) rfl dX6_tick_37 ?_
  refine ca_i (wr := [(a2_, .inl (cI, 32, .inl (fun _ => 0)))]) (rn_V (n := 1) (As := [.int 0]) (rest := []) hx hb hml hown ht hKK hFx hP hD hS hA (c_X6_wordAt l dC dI cI cB cZ cJ cR tb H.size a0_ a1_ a2_ a3_ a4_ N (by omega) (by omega)) tw_231 tw_232 (by decide +kernel) rfl rfl ⟨Nat.le_of_ble_eq_true rfl, Nat.le_of_ble_eq_true rfl⟩ [1, 2] rfl (by decide) rfl rfl rfl rfl hl.1 rfl (Nat.le_of_ble_eq_true rfl) dX6_tick_40 ⟨Nat.le_of_ble_eq_true rfl, Nat.le_of_ble_eq_true rfl⟩) hP hD hS hA (isC := [1, 2]) (isR := [0]) rfl rfl (by decide) (by decide) (fun r6 u H locs hw5 hP hD hS => ?_)
  subst hw5
  have hP : va_P (dC, dI) vwCl [(a2_, .inl (cI, 32, .inl (fun _ => 0))), (a0_, .inr (9, [.ref a1_, .ref a2_, .int 0, .int 0, .int 0, .int 1, .ref a3_, .int 0, .ref a4_])), (a1_, .inl (cI, N, .inl (fun _ => 0)))] H := hP
  have hD : va_D A [(a2_, .inl (cI, 32, .inl (fun _ => 0))), (a0_, .inr (9, [.ref a1_, .ref a2_, .int 0, .int 0, .int 0, .int 1, .ref a3_, .int 0, .ref a4_])), (a1_, .inl (cI, N, .inl (fun _ => 0)))] := hD
  refine W.widen (k := 0) (n := 0) (by omega) (by omega) ?_
  refine lv_istore_n (lv' := [(1, .int 0), (0, .ref a0_)]) hx hb dX6_tick_43 rfl hl (by decide) rfl (fun ls hl => ?_)
  refine lv_iload_n hx hb dX6_tick_44 rfl (lv_at hl 0 rfl) ?_
  refine ca_i (wr := [(a2_, .inl (cI, 32, .inl (fun _ => 0))), (a0_, .inr (9, [.ref a1_, .ref a2_, .int 0, .int 0, .int 0, .int 1, .ref a3_, .int 0, .ref a4_])), (a1_, .inl (cI, N, .inl (fun _ => 0)))]) (rn_S (n := 1) (As := [.int 0]) (rest := []) hx hb hml hown ht hKK hFx hP hD hS hA (c_X4_kindOf l dC dI cI cB cZ cJ cR tb H.size ) tw_233 tw_234 (by decide +kernel) rfl rfl ⟨Nat.le_of_ble_eq_true rfl, Nat.le_of_ble_eq_true rfl⟩ [] rfl (by decide) rfl hl.1 rfl (Nat.le_of_ble_eq_true rfl) dX6_tick_45 ⟨Nat.le_of_ble_eq_true rfl, Nat.le_of_ble_eq_true rfl⟩) hP hD hS hA (isC := []) (isR := [0, 1, 2]) rfl rfl (by decide) (by decide) (fun r8 u H locs hw7 hP hD hS => ?_)
  subst hw7
  have hP : va_P (dC, dI) vwCl [(a2_, .inl (cI, 32, .inl (fun _ => 0))), (a0_, .inr (9, [.ref a1_, .ref a2_, .int 0, .int 0, .int 0, .int 1, .ref a3_, .int 0, .ref a4_])), (a1_, .inl (cI, N, .inl (fun _ => 0)))] H := hP
  have hD : va_D A [(a2_, .inl (cI, 32, .inl (fun _ => 0))), (a0_, .inr (9, [.ref a1_, .ref a2_, .int 0, .int 0, .int 0, .int 1, .ref a3_, .int 0, .ref a4_])), (a1_, .inl (cI, N, .inl (fun _ => 0)))] := hD
  refine W.widen (k := 0) (n := 0) (by omega) (by omega) ?_
  refine lv_istore_n (lv' := [(2, .int 40), (1, .int 0), (0, .ref a0_)]) hx hb dX6_tick_48 rfl hl (by decide) rfl (fun ls hl => ?_)
  refine lv_aload_n hx hb dX6_tick_49 rfl (lv_at hl 2 rfl) ?_
  refine lv_aload_n hx hb dX6_tick_50 rfl (lv_at hl 2 rfl) ?_
  refine va_get (D := (dC, dI)) (ci := 9) (v := .int 0) (C := RX6) (T := TX6) (N := 9) hx hb ht itX6 hown hK hP 1 rfl rfl 2 (by decide) (ht _ tw_228) (fun _ h9 => h9) rfl dX6_tick_51 ?_
  refine lv_iconst (v := 4) hx hb dX6_tick_54 (by decide) ?_
  refine lv_iadd hx hb dX6_tick_55 ?_
  refine tp_i (y := 4) (by decide) ?_
  refine va_put (D := (dC, dI)) (ci := 9) (v := .int 4) (ty := .int) (C := RX6) (T := TX6) (N := 9) hx hb ht itX6 tyX6 tyX6_ok nmX6 hown hK hP hD hS 1 rfl rfl 3 (by decide) (ht _ tw_235) (fun _ h9 => h9) rfl (by decide +kernel) rfl rfl (Nat.le_of_ble_eq_true rfl) dX6_tick_56 (fun H locs hP hD hS => ?_)
  have hP : va_P (dC, dI) vwCl [(a2_, .inl (cI, 32, .inl (fun _ => 0))), (a0_, .inr (9, [.ref a1_, .ref a2_, .int 0, .int 4, .int 0, .int 1, .ref a3_, .int 0, .ref a4_])), (a1_, .inl (cI, N, .inl (fun _ => 0)))] H := hP
  have hD : va_D A [(a2_, .inl (cI, 32, .inl (fun _ => 0))), (a0_, .inr (9, [.ref a1_, .ref a2_, .int 0, .int 4, .int 0, .int 1, .ref a3_, .int 0, .ref a4_])), (a1_, .inl (cI, N, .inl (fun _ => 0)))] := hD
  refine lv_aload_n hx hb dX6_tick_59 rfl (lv_at hl 2 rfl) ?_
  refine lv_iload_n hx hb dX6_tick_60 rfl (lv_at hl 0 rfl) ?_
  refine lv_iload_n hx hb dX6_tick_61 rfl (lv_at hl 1 rfl) ?_
  refine ca_v (wr := [(a1_, .inl (cI, N, .inl (fun _ => 0)))]) (rn_V (n := 2) (As := [.int 40, .int 0]) (rest := []) hx hb hml hown ht hKK hFx hP hD hS hA (c_X6_perform l dC dI cI cB cZ cJ cR tb H.size a0_ a1_ a2_ a3_ a4_) tw_246 tw_247 (by decide +kernel) rfl rfl ⟨Nat.le_of_ble_eq_true rfl, Nat.le_of_ble_eq_true rfl⟩ [1, 0] rfl (by decide) rfl rfl rfl rfl hl.1 rfl (Nat.le_of_ble_eq_true rfl) dX6_tick_62 ⟨Nat.le_of_ble_eq_true rfl, Nat.le_of_ble_eq_true rfl⟩) hP hD hS hA (isC := [1, 0]) (isR := [2]) rfl rfl (by decide) (by decide) (fun u H locs hw9 hP hD hS => ?_)
  have hP : va_P (dC, dI) vwCl [(a1_, .inl (cI, N, .inl (fun _ => 0))), (a0_, .inr (9, [.ref a1_, .ref a2_, .int 0, .int 4, .int 2, .int 1, .ref a3_, .int 0, .ref a4_])), (a2_, .inl (cI, 32, .inl (fun _ => 0)))] H := hP
  have hD : va_D A [(a1_, .inl (cI, N, .inl (fun _ => 0))), (a0_, .inr (9, [.ref a1_, .ref a2_, .int 0, .int 4, .int 2, .int 1, .ref a3_, .int 0, .ref a4_])), (a2_, .inl (cI, 32, .inl (fun _ => 0)))] := hD
  refine W.widen (k := 0) (n := 0) (by omega) (by omega) ?_
  refine lv_aload_n hx hb dX6_tick_65 rfl (lv_at hl 2 rfl) ?_
  refine va_get (D := (dC, dI)) (ci := 9) (v := .int 2) (C := RX6) (T := TX6) (N := 9) hx hb ht itX6 hown hK hP 1 rfl rfl 4 (by decide) (ht _ tw_226) (fun _ h9 => h9) rfl dX6_tick_66 ?_
  refine lv_if_ne (tgt := 80) hx hb dX6_tick_69 (by decide) (fun _ => ?_) (fun k10 => absurd k10 (by decide))
  have hP9 := hP.sub (ws' := [(a0_, .inr (9, [.ref a1_, .ref a2_, .int 0, .int 4, .int 2, .int 1, .ref a3_, .int 0, .ref a4_])), (a2_, .inl (cI, 32, .inl (fun _ => 0))), (a1_, .inl (cI, N, .inl (fun _ => 0)))]) [1, 2, 0] rfl
  have hD9 := hD.sub (ws' := [(a0_, .inr (9, [.ref a1_, .ref a2_, .int 0, .int 4, .int 2, .int 1, .ref a3_, .int 0, .ref a4_])), (a2_, .inl (cI, 32, .inl (fun _ => 0))), (a1_, .inl (cI, N, .inl (fun _ => 0)))]) [1, 2, 0] (by decide) rfl
  refine W.widen (k := 0) (n := 0) (by omega) (by omega) ?_
  exact W.vret hx hb hr (fun t ht9 hW => ⟨⟨(), rfl, trivial, by rw [ht9]; exact hP9, hD9⟩, hS.F ht9⟩) hS.2.2 dX6_tick_80
set_option maxHeartbeats 4000000 in
set_option maxRecDepth 100000 in
/-- X11_step on a new object -/
theorem c_X11_step (l : Launch) (dC : Nat → ClassId) (dI : Nat → Nat → Nat) (cI cB cZ cJ cR : ClassId) (tb : Nat → Nat) (sz : Nat) (h0 : Nat) (q1 : Nat) (q9 : Nat) (q18 : Nat) (q27 : Nat) (q42 : Nat) (q2 : Nat) (q45 : Nat) (q50 : Nat) (q5 : Nat) (q47 : Nat) (q48 : Nat) (q49 : Nat) (N : Nat) (hf_N_0 : 256 ≤ N) (hf_N_1 : N ≤ 4096) : Met l yX11_step (Cond.code yX11_step cX11_step 1 (some .int) :: tw_W) ({ frames := 3, cells := 0, slots := 0, locals := 69 }) (pc_ (dC, dI) (tyS cI cB cZ cJ cR) tb [(h0, .inr (14, [.ref q1, .int 0, .ref q9, .ref q18, .ref q27, .ref q42, .int 0, .int (-1), .ref q2, .ref q45, .ref q50, .ref q5])), (q45, .inr (9, [.ref q47, .ref q48, .int 0, .int 0, .int 0, .int 0, .ref q49, .int 0, .ref q2])), (q48, .inl (cI, 32, .inl (fun _ => 0))), (q47, .inl (cI, N, .inl (fun _ => 0)))] sz [.ref h0]) (qi_ (dC, dI) [(h0, .inr (14, [.ref q1, .int 0, .ref q9, .ref q18, .ref q27, .ref q42, .int 0, .int (-1), .ref q2, .ref q45, .ref q50, .ref q5])), (q45, .inr (9, [.ref q47, .ref q48, .int 0, .int 0, .int 0, .int 0, .ref q49, .int 0, .ref q2])), (q48, .inl (cI, 32, .inl (fun _ => 0))), (q47, .inl (cI, N, .inl (fun _ => 0)))] sz (fun (r : Int32) (u : Unit) => r = 2) (fun (u : Unit) => [])) 0 0 (va_A [(h0, .inr (14, [.ref q1, .int 0, .ref q9, .ref q18, .ref q27, .ref q42, .int 0, .int (-1), .ref q2, .ref q45, .ref q50, .ref q5])), (q45, .inr (9, [.ref q47, .ref q48, .int 0, .int 0, .int 0, .int 0, .ref q49, .int 0, .ref q2])), (q48, .inl (cI, 32, .inl (fun _ => 0))), (q47, .inl (cI, N, .inl (fun _ => 0)))] sz) := by
  refine Met.ofW (cc := cX11_step) (maxL := 1) (ret := (some .int)) (by decide) rfl ?_
  intro p e s m args below meth c s₁ B hml hv
  obtain ⟨rfl, hsz, hP, hKK, hD0, hFx⟩ := hv
  have hK := hKK.1
  have hx := B.exec
  have hb := B.bytes
  have hr := B.returns
  have ht : ∀ w ∈ tw_W, w.before _ s = true := fun w h => atoms_spec (ws := Cond.code yX11_step cX11_step 1 (some .int) :: tw_W) B.pre w (List.mem_cons_of_mem _ h)
  have hown : s.vm.findClass RX11 = some m.cls := findClass_of_methodNamed B.named
  have hlocks := B.notSynchronized
  subst hsz
  unfold qi_
  have hD := hD0.self (sz := s.heap.size)
  generalize hAe : va_A [(h0, .inr (14, [.ref q1, .int 0, .ref q9, .ref q18, .ref q27, .ref q42, .int 0, .int (-1), .ref q2, .ref q45, .ref q50, .ref q5])), (q45, .inr (9, [.ref q47, .ref q48, .int 0, .int 0, .int 0, .int 0, .ref q49, .int 0, .ref q2])), (q48, .inl (cI, 32, .inl (fun _ => 0))), (q47, .inl (cI, N, .inl (fun _ => 0)))] s.heap.size = A at hD hFx ⊢
  have hA : ∀ q : Nat, s.heap.size ≤ q → A q := fun q h => by rw [← hAe]; exact Or.inr h
  have hS : va_S A s.heap s.heap [] := va_S.rf
  have hP : va_P (dC, dI) vwCl [(h0, .inr (14, [.ref q1, .int 0, .ref q9, .ref q18, .ref q27, .ref q42, .int 0, .int (-1), .ref q2, .ref q45, .ref q50, .ref q5])), (q45, .inr (9, [.ref q47, .ref q48, .int 0, .int 0, .int 0, .int 0, .ref q49, .int 0, .ref q2])), (q48, .inl (cI, 32, .inl (fun _ => 0))), (q47, .inl (cI, N, .inl (fun _ => 0)))] s.heap := hP
  have hl := lv_entry ([.ref h0]) (n := 1) (Nat.le_of_ble_eq_true rfl)
  rw [lg_entry_eq]
  generalize (lg_sl ([.ref h0]) ++ List.replicate (1 - (lg_sl ([.ref h0])).length) Slot.unset).toArray = ls at hl ⊢
  have hl : lv_has ls 1 [(0, .ref h0)] := hl
  refine lv_aload_n hx hb dX11_step_0 rfl (lv_at hl 0 rfl) ?_
  refine va_get (D := (dC, dI)) (ci := 14) (v := .ref q45) (C := RX11) (T := TX11) (N := 12) hx hb ht itX11 hown hK hP 0 rfl rfl 9 (by decide) (ht _ tw_140) (fun _ h9 => h9) rfl dX11_step_1 ?_
  refine ca_v (wr := [(h0, .inr (14, [.ref q1, .int 0, .ref q9, .ref q18, .ref q27, .ref q42, .int 0, .int (-1), .ref q2, .ref q45, .ref q50, .ref q5]))]) (rn_V (n := 0) (As := []) (rest := []) hx hb hml hown ht hKK hFx hP hD hS hA (c_X6_tick l dC dI cI cB cZ cJ cR tb s.heap.size q45 q47 q48 q49 q2 N (by omega) (by omega)) tw_248 tw_249 (by decide +kernel) rfl rfl ⟨Nat.le_of_ble_eq_true rfl, Nat.le_of_ble_eq_true rfl⟩ [1, 2, 3] rfl (by decide) rfl rfl rfl rfl hl.1 rfl (Nat.le_of_ble_eq_true rfl) dX11_step_4 ⟨Nat.le_of_ble_eq_true rfl, Nat.le_of_ble_eq_true rfl⟩) hP hD hS hA (isC := [1, 2, 3]) (isR := [0]) rfl rfl (by decide) (by decide) (fun u H locs hw1 hP hD hS => ?_)
  have hP : va_P (dC, dI) vwCl [(h0, .inr (14, [.ref q1, .int 0, .ref q9, .ref q18, .ref q27, .ref q42, .int 0, .int (-1), .ref q2, .ref q45, .ref q50, .ref q5])), (q45, .inr (9, [.ref q47, .ref q48, .int 0, .int 4, .int 2, .int 1, .ref q49, .int 0, .ref q2])), (q48, .inl (cI, 32, .inl (fun _ => 0))), (q47, .inl (cI, N, .inl (fun _ => 0)))] H := hP
  have hD : va_D A [(h0, .inr (14, [.ref q1, .int 0, .ref q9, .ref q18, .ref q27, .ref q42, .int 0, .int (-1), .ref q2, .ref q45, .ref q50, .ref q5])), (q45, .inr (9, [.ref q47, .ref q48, .int 0, .int 4, .int 2, .int 1, .ref q49, .int 0, .ref q2])), (q48, .inl (cI, 32, .inl (fun _ => 0))), (q47, .inl (cI, N, .inl (fun _ => 0)))] := hD
  refine W.widen (k := 0) (n := 0) (by omega) (by omega) ?_
  refine lv_aload_n hx hb dX11_step_7 rfl (lv_at hl 0 rfl) ?_
  refine va_get (D := (dC, dI)) (ci := 14) (v := .ref q45) (C := RX11) (T := TX11) (N := 12) hx hb ht itX11 hown hK hP 0 rfl rfl 9 (by decide) (ht _ tw_140) (fun _ h9 => h9) rfl dX11_step_8 ?_
  refine va_getN (D := (dC, dI)) (ci := 9) (v := .int 2) (C := RX6) (T := TX6) (N := 9) hx hb ht itX6 hown hK hP 1 rfl rfl 4 (by decide) (hKK.fld 10 rfl) (fun _ h9 => h9) rfl dX11_step_11 ?_
  have hP9 := hP.sub (ws' := []) [] rfl
  have hD9 := hD.sub (ws' := []) [] (by decide) rfl
  refine W.widen (k := 0) (n := 0) (by omega) (by omega) ?_
  exact W.iret (v := 2) hx hb hr (fun t ht9 hW => ⟨⟨2, (), rfl, rfl, by rw [ht9]; exact hP9, hD9⟩, hS.F ht9⟩) hS.2.2 dX11_step_14
set_option maxHeartbeats 4000000 in
set_option maxRecDepth 100000 in
/-- X11_result on a new object -/
theorem c_X11_result (l : Launch) (dC : Nat → ClassId) (dI : Nat → Nat → Nat) (cI cB cZ cJ cR : ClassId) (tb : Nat → Nat) (sz : Nat) (h0 : Nat) (q1 : Nat) (q9 : Nat) (q18 : Nat) (q27 : Nat) (q42 : Nat) (q2 : Nat) (q45 : Nat) (q50 : Nat) (q5 : Nat) (q47 : Nat) (q48 : Nat) (q49 : Nat)  : Met l yX11_result (Cond.code yX11_result cX11_result 1 (some .int) :: tw_W) ({ frames := 0, cells := 0, slots := 0, locals := 0 }) (pc_ (dC, dI) (tyS cI cB cZ cJ cR) tb [(h0, .inr (14, [.ref q1, .int 0, .ref q9, .ref q18, .ref q27, .ref q42, .int 0, .int (-1), .ref q2, .ref q45, .ref q50, .ref q5])), (q45, .inr (9, [.ref q47, .ref q48, .int 0, .int 0, .int 0, .int 0, .ref q49, .int 0, .ref q2]))] sz [.ref h0]) (qi_ (dC, dI) [(h0, .inr (14, [.ref q1, .int 0, .ref q9, .ref q18, .ref q27, .ref q42, .int 0, .int (-1), .ref q2, .ref q45, .ref q50, .ref q5])), (q45, .inr (9, [.ref q47, .ref q48, .int 0, .int 0, .int 0, .int 0, .ref q49, .int 0, .ref q2]))] sz (fun (r : Int32) (u : Unit) => r = 0) (fun (u : Unit) => [])) 0 0 (va_A [(h0, .inr (14, [.ref q1, .int 0, .ref q9, .ref q18, .ref q27, .ref q42, .int 0, .int (-1), .ref q2, .ref q45, .ref q50, .ref q5])), (q45, .inr (9, [.ref q47, .ref q48, .int 0, .int 0, .int 0, .int 0, .ref q49, .int 0, .ref q2]))] sz) := by
  refine Met.ofW (cc := cX11_result) (maxL := 1) (ret := (some .int)) (by decide) rfl ?_
  intro p e s m args below meth c s₁ B hml hv
  obtain ⟨rfl, hsz, hP, hKK, hD0, hFx⟩ := hv
  have hK := hKK.1
  have hx := B.exec
  have hb := B.bytes
  have hr := B.returns
  have ht : ∀ w ∈ tw_W, w.before _ s = true := fun w h => atoms_spec (ws := Cond.code yX11_result cX11_result 1 (some .int) :: tw_W) B.pre w (List.mem_cons_of_mem _ h)
  have hown : s.vm.findClass RX11 = some m.cls := findClass_of_methodNamed B.named
  have hlocks := B.notSynchronized
  subst hsz
  unfold qi_
  have hD := hD0.self (sz := s.heap.size)
  generalize hAe : va_A [(h0, .inr (14, [.ref q1, .int 0, .ref q9, .ref q18, .ref q27, .ref q42, .int 0, .int (-1), .ref q2, .ref q45, .ref q50, .ref q5])), (q45, .inr (9, [.ref q47, .ref q48, .int 0, .int 0, .int 0, .int 0, .ref q49, .int 0, .ref q2]))] s.heap.size = A at hD hFx ⊢
  have hA : ∀ q : Nat, s.heap.size ≤ q → A q := fun q h => by rw [← hAe]; exact Or.inr h
  have hS : va_S A s.heap s.heap [] := va_S.rf
  have hP : va_P (dC, dI) vwCl [(h0, .inr (14, [.ref q1, .int 0, .ref q9, .ref q18, .ref q27, .ref q42, .int 0, .int (-1), .ref q2, .ref q45, .ref q50, .ref q5])), (q45, .inr (9, [.ref q47, .ref q48, .int 0, .int 0, .int 0, .int 0, .ref q49, .int 0, .ref q2]))] s.heap := hP
  have hl := lv_entry ([.ref h0]) (n := 1) (Nat.le_of_ble_eq_true rfl)
  rw [lg_entry_eq]
  generalize (lg_sl ([.ref h0]) ++ List.replicate (1 - (lg_sl ([.ref h0])).length) Slot.unset).toArray = ls at hl ⊢
  have hl : lv_has ls 1 [(0, .ref h0)] := hl
  refine lv_aload_n hx hb dX11_result_0 rfl (lv_at hl 0 rfl) ?_
  refine va_get (D := (dC, dI)) (ci := 14) (v := .ref q45) (C := RX11) (T := TX11) (N := 12) hx hb ht itX11 hown hK hP 0 rfl rfl 9 (by decide) (ht _ tw_140) (fun _ h9 => h9) rfl dX11_result_1 ?_
  refine va_getN (D := (dC, dI)) (ci := 9) (v := .int 0) (C := RX6) (T := TX6) (N := 9) hx hb ht itX6 hown hK hP 1 rfl rfl 4 (by decide) (hKK.fld 10 rfl) (fun _ h9 => h9) rfl dX11_result_4 ?_
  refine lv_iconst (v := 1) hx hb dX11_result_7 (by decide) ?_
  refine lv_icmp_ne (tgt := 23) hx hb dX11_result_8 (by decide) (fun _ => ?_) (fun k1 => absurd k1 (by decide))
  refine lv_iconst (v := 0) hx hb dX11_result_23 (by decide) ?_
  have hP9 := hP.sub (ws' := []) [] rfl
  have hD9 := hD.sub (ws' := []) [] (by decide) rfl
  refine W.widen (k := 0) (n := 0) (by omega) (by omega) ?_
  exact W.iret (v := 0) hx hb hr (fun t ht9 hW => ⟨⟨0, (), rfl, rfl, by rw [ht9]; exact hP9, hD9⟩, hS.F ht9⟩) hS.2.2 dX11_result_24
set_option maxHeartbeats 4000000 in
set_option maxRecDepth 100000 in
theorem c_X10_fact (l : Launch) (dC : Nat → ClassId) (dI : Nat → Nat → Nat) (cI cB cZ cJ cR : ClassId) (tb : Nat → Nat) (sz : Nat) (a0_ : Nat) (x0_ : Int32) (a1_ : Nat) (a2_ : Nat) (N : Nat) (a3_ : Nat) (a4_ : Nat) (a5_ : Nat) (hf_N_0 : 256 ≤ N) (hf_N_1 : N ≤ 4096) : Met l yX10_fact (Cond.code yX10_fact cX10_fact 2 (some .int) :: tw_W) ({ frames := 0, cells := 0, slots := 0, locals := 0 }) (pc_ (dC, dI) (tyS cI cB cZ cJ cR) tb [(a0_, .inr (13, [.ref a1_, .ref a2_, .int (4 * (nI N)), .ref a3_, .ref a4_, .ref a5_, .int 0, .int 0, .int 0, .int 0, .int 0, .int 0, .int 0, .int 0, .int 0, .int 0, .int 0]))] sz [.ref a0_, .int x0_]) (qi_ (dC, dI) [(a0_, .inr (13, [.ref a1_, .ref a2_, .int (4 * (nI N)), .ref a3_, .ref a4_, .ref a5_, .int 0, .int 0, .int 0, .int 0, .int 0, .int 0, .int 0, .int 0, .int 0, .int 0, .int 0]))] sz (fun (r : Int32) (u : Unit) => r = (-1)) (fun (u : Unit) => [(a0_, .inr (13, [.ref a1_, .ref a2_, .int (4 * (nI N)), .ref a3_, .ref a4_, .ref a5_, .int 0, .int 0, .int 0, .int 0, .int 0, .int 0, .int 0, .int 0, .int 0, .int 0, .int 0]))])) 0 0 (va_A [(a0_, .inr (13, [.ref a1_, .ref a2_, .int (4 * (nI N)), .ref a3_, .ref a4_, .ref a5_, .int 0, .int 0, .int 0, .int 0, .int 0, .int 0, .int 0, .int 0, .int 0, .int 0, .int 0]))] sz) := by
  refine Met.ofW (cc := cX10_fact) (maxL := 2) (ret := (some .int)) (by decide) rfl ?_
  intro p e s m args below meth c s₁ B hml hv
  obtain ⟨rfl, hsz, hP, hKK, hD0, hFx⟩ := hv
  have hK := hKK.1
  have hx := B.exec
  have hb := B.bytes
  have hr := B.returns
  have ht : ∀ w ∈ tw_W, w.before _ s = true := fun w h => atoms_spec (ws := Cond.code yX10_fact cX10_fact 2 (some .int) :: tw_W) B.pre w (List.mem_cons_of_mem _ h)
  have hown : s.vm.findClass RX10 = some m.cls := findClass_of_methodNamed B.named
  have hlocks := B.notSynchronized
  subst hsz
  unfold qi_
  have hD := hD0.self (sz := s.heap.size)
  generalize hAe : va_A [(a0_, .inr (13, [.ref a1_, .ref a2_, .int (4 * (nI N)), .ref a3_, .ref a4_, .ref a5_, .int 0, .int 0, .int 0, .int 0, .int 0, .int 0, .int 0, .int 0, .int 0, .int 0, .int 0]))] s.heap.size = A at hD hFx ⊢
  have hA : ∀ q : Nat, s.heap.size ≤ q → A q := fun q h => by rw [← hAe]; exact Or.inr h
  have hS : va_S A s.heap s.heap [] := va_S.rf
  have hP : va_P (dC, dI) vwCl [(a0_, .inr (13, [.ref a1_, .ref a2_, .int (4 * (nI N)), .ref a3_, .ref a4_, .ref a5_, .int 0, .int 0, .int 0, .int 0, .int 0, .int 0, .int 0, .int 0, .int 0, .int 0, .int 0]))] s.heap := hP
  have hl := lv_entry ([.ref a0_, .int x0_]) (n := 2) (Nat.le_of_ble_eq_true rfl)
  rw [lg_entry_eq]
  generalize (lg_sl ([.ref a0_, .int x0_]) ++ List.replicate (2 - (lg_sl ([.ref a0_, .int x0_])).length) Slot.unset).toArray = ls at hl ⊢
  have hl : lv_has ls 2 [(0, .ref a0_), (1, .int x0_)] := hl
  refine lv_aload_n hx hb dX10_fact_0 rfl (lv_at hl 0 rfl) ?_
  refine va_get (D := (dC, dI)) (ci := 13) (v := .int 0) (C := RX10) (T := TX10) (N := 17) hx hb ht itX10 hown hK hP 0 rfl rfl 6 (by decide) (ht _ tw_250) (fun _ h9 => h9) rfl dX10_fact_1 ?_
  refine lv_if_ne (tgt := 9) hx hb dX10_fact_4 (by decide) (fun k1 => absurd k1 (by decide)) (fun _ => ?_)
  refine lv_iconst (v := -1) hx hb dX10_fact_7 (by decide) ?_
  have hP9 := hP.sub (ws' := [(a0_, .inr (13, [.ref a1_, .ref a2_, .int (4 * (nI N)), .ref a3_, .ref a4_, .ref a5_, .int 0, .int 0, .int 0, .int 0, .int 0, .int 0, .int 0, .int 0, .int 0, .int 0, .int 0]))]) [0] rfl
  have hD9 := hD.sub (ws' := [(a0_, .inr (13, [.ref a1_, .ref a2_, .int (4 * (nI N)), .ref a3_, .ref a4_, .ref a5_, .int 0, .int 0, .int 0, .int 0, .int 0, .int 0, .int 0, .int 0, .int 0, .int 0, .int 0]))]) [0] (by decide) rfl
  refine W.widen (k := 0) (n := 0) (by omega) (by omega) ?_
  exact W.iret (v := (-1)) hx hb hr (fun t ht9 hW => ⟨⟨(-1), (), rfl, rfl, by rw [ht9]; exact hP9, hD9⟩, hS.F ht9⟩) hS.2.2 dX10_fact_8
set_option maxHeartbeats 4000000 in
set_option maxRecDepth 100000 in
/-- X11_told on a new object -/
theorem c_X11_told (l : Launch) (dC : Nat → ClassId) (dI : Nat → Nat → Nat) (cI cB cZ cJ cR : ClassId) (tb : Nat → Nat) (sz : Nat) (h0 : Nat) (pa : Int32) (q1 : Nat) (q9 : Nat) (q18 : Nat) (q27 : Nat) (q42 : Nat) (q2 : Nat) (q45 : Nat) (q50 : Nat) (q5 : Nat) (N : Nat) (q52 : Nat) (q53 : Nat) (q54 : Nat) (hf_N_0 : 256 ≤ N) (hf_N_1 : N ≤ 4096) : Met l yX11_told (Cond.code yX11_told cX11_told 2 (some .int) :: tw_W) ({ frames := 1, cells := 0, slots := 0, locals := 21 }) (pc_ (dC, dI) (tyS cI cB cZ cJ cR) tb [(h0, .inr (14, [.ref q1, .int 0, .ref q9, .ref q18, .ref q27, .ref q42, .int 0, .int (-1), .ref q2, .ref q45, .ref q50, .ref q5])), (q50, .inr (13, [.ref q9, .ref q2, .int (4 * (nI N)), .ref q52, .ref q53, .ref q54, .int 0, .int 0, .int 0, .int 0, .int 0, .int 0, .int 0, .int 0, .int 0, .int 0, .int 0]))] sz [.ref h0, .int pa]) (qi_ (dC, dI) [(h0, .inr (14, [.ref q1, .int 0, .ref q9, .ref q18, .ref q27, .ref q42, .int 0, .int (-1), .ref q2, .ref q45, .ref q50, .ref q5])), (q50, .inr (13, [.ref q9, .ref q2, .int (4 * (nI N)), .ref q52, .ref q53, .ref q54, .int 0, .int 0, .int 0, .int 0, .int 0, .int 0, .int 0, .int 0, .int 0, .int 0, .int 0]))] sz (fun (r : Int32) (u : Unit) => r = (-1)) (fun (u : Unit) => [])) 0 0 (va_A [(h0, .inr (14, [.ref q1, .int 0, .ref q9, .ref q18, .ref q27, .ref q42, .int 0, .int (-1), .ref q2, .ref q45, .ref q50, .ref q5])), (q50, .inr (13, [.ref q9, .ref q2, .int (4 * (nI N)), .ref q52, .ref q53, .ref q54, .int 0, .int 0, .int 0, .int 0, .int 0, .int 0, .int 0, .int 0, .int 0, .int 0, .int 0]))] sz) := by
  refine Met.ofW (cc := cX11_told) (maxL := 2) (ret := (some .int)) (by decide) rfl ?_
  intro p e s m args below meth c s₁ B hml hv
  obtain ⟨rfl, hsz, hP, hKK, hD0, hFx⟩ := hv
  have hK := hKK.1
  have hx := B.exec
  have hb := B.bytes
  have hr := B.returns
  have ht : ∀ w ∈ tw_W, w.before _ s = true := fun w h => atoms_spec (ws := Cond.code yX11_told cX11_told 2 (some .int) :: tw_W) B.pre w (List.mem_cons_of_mem _ h)
  have hown : s.vm.findClass RX11 = some m.cls := findClass_of_methodNamed B.named
  have hlocks := B.notSynchronized
  subst hsz
  unfold qi_
  have hD := hD0.self (sz := s.heap.size)
  generalize hAe : va_A [(h0, .inr (14, [.ref q1, .int 0, .ref q9, .ref q18, .ref q27, .ref q42, .int 0, .int (-1), .ref q2, .ref q45, .ref q50, .ref q5])), (q50, .inr (13, [.ref q9, .ref q2, .int (4 * (nI N)), .ref q52, .ref q53, .ref q54, .int 0, .int 0, .int 0, .int 0, .int 0, .int 0, .int 0, .int 0, .int 0, .int 0, .int 0]))] s.heap.size = A at hD hFx ⊢
  have hA : ∀ q : Nat, s.heap.size ≤ q → A q := fun q h => by rw [← hAe]; exact Or.inr h
  have hS : va_S A s.heap s.heap [] := va_S.rf
  have hP : va_P (dC, dI) vwCl [(h0, .inr (14, [.ref q1, .int 0, .ref q9, .ref q18, .ref q27, .ref q42, .int 0, .int (-1), .ref q2, .ref q45, .ref q50, .ref q5])), (q50, .inr (13, [.ref q9, .ref q2, .int (4 * (nI N)), .ref q52, .ref q53, .ref q54, .int 0, .int 0, .int 0, .int 0, .int 0, .int 0, .int 0, .int 0, .int 0, .int 0, .int 0]))] s.heap := hP
  have hl := lv_entry ([.ref h0, .int pa]) (n := 2) (Nat.le_of_ble_eq_true rfl)
  rw [lg_entry_eq]
  generalize (lg_sl ([.ref h0, .int pa]) ++ List.replicate (2 - (lg_sl ([.ref h0, .int pa])).length) Slot.unset).toArray = ls at hl ⊢
  have hl : lv_has ls 2 [(0, .ref h0), (1, .int pa)] := hl
  refine lv_aload_n hx hb dX11_told_0 rfl (lv_at hl 0 rfl) ?_
  refine va_get (D := (dC, dI)) (ci := 14) (v := .ref q50) (C := RX11) (T := TX11) (N := 12) hx hb ht itX11 hown hK hP 0 rfl rfl 10 (by decide) (ht _ tw_148) (fun _ h9 => h9) rfl dX11_told_1 ?_
  refine lv_iload_n hx hb dX11_told_4 rfl (lv_at hl 1 rfl) ?_
  refine ca_i (wr := [(h0, .inr (14, [.ref q1, .int 0, .ref q9, .ref q18, .ref q27, .ref q42, .int 0, .int (-1), .ref q2, .ref q45, .ref q50, .ref q5]))]) (rn_V (n := 1) (As := [.int pa]) (rest := []) hx hb hml hown ht hKK hFx hP hD hS hA (c_X10_fact l dC dI cI cB cZ cJ cR tb s.heap.size q50 pa q9 q2 N q52 q53 q54 (by omega) (by omega)) tw_251 tw_252 (by decide +kernel) rfl rfl ⟨Nat.le_of_ble_eq_true rfl, Nat.le_of_ble_eq_true rfl⟩ [1] rfl (by decide) rfl rfl rfl rfl hl.1 rfl (Nat.le_of_ble_eq_true rfl) dX11_told_5 ⟨Nat.le_of_ble_eq_true rfl, Nat.le_of_ble_eq_true rfl⟩) hP hD hS hA (isC := [1]) (isR := [0]) rfl rfl (by decide) (by decide) (fun r2 u H locs hw1 hP hD hS => ?_)
  subst hw1
  have hP : va_P (dC, dI) vwCl [(h0, .inr (14, [.ref q1, .int 0, .ref q9, .ref q18, .ref q27, .ref q42, .int 0, .int (-1), .ref q2, .ref q45, .ref q50, .ref q5])), (q50, .inr (13, [.ref q9, .ref q2, .int (4 * (nI N)), .ref q52, .ref q53, .ref q54, .int 0, .int 0, .int 0, .int 0, .int 0, .int 0, .int 0, .int 0, .int 0, .int 0, .int 0]))] H := hP
  have hD : va_D A [(h0, .inr (14, [.ref q1, .int 0, .ref q9, .ref q18, .ref q27, .ref q42, .int 0, .int (-1), .ref q2, .ref q45, .ref q50, .ref q5])), (q50, .inr (13, [.ref q9, .ref q2, .int (4 * (nI N)), .ref q52, .ref q53, .ref q54, .int 0, .int 0, .int 0, .int 0, .int 0, .int 0, .int 0, .int 0, .int 0, .int 0, .int 0]))] := hD
  refine W.widen (k := 0) (n := 0) (by omega) (by omega) ?_
  have hP9 := hP.sub (ws' := []) [] rfl
  have hD9 := hD.sub (ws' := []) [] (by decide) rfl
  refine W.widen (k := 0) (n := 0) (by omega) (by omega) ?_
  exact W.iret (v := (-1)) hx hb hr (fun t ht9 hW => ⟨⟨(-1), (), rfl, rfl, by rw [ht9]; exact hP9, hD9⟩, hS.F ht9⟩) hS.2.2 dX11_told_8
set_option maxHeartbeats 4000000 in
set_option maxRecDepth 100000 in
theorem c_X6_size (l : Launch) (dC : Nat → ClassId) (dI : Nat → Nat → Nat) (cI cB cZ cJ cR : ClassId) (tb : Nat → Nat) (sz : Nat) (a0_ : Nat) (a1_ : Nat) (a2_ : Nat) (a3_ : Nat) (a4_ : Nat) (N : Nat) (hf_N_0 : 256 ≤ N) (hf_N_1 : N ≤ 4096) : Met l yX6_size (Cond.code yX6_size cX6_size 1 (some .int) :: tw_W) ({ frames := 0, cells := 0, slots := 0, locals := 0 }) (pc_ (dC, dI) (tyS cI cB cZ cJ cR) tb [(a0_, .inr (9, [.ref a1_, .ref a2_, .int 0, .int 0, .int 0, .int 0, .ref a3_, .int 0, .ref a4_])), (a1_, .inl (cI, N, .inl (fun _ => 0)))] sz [.ref a0_]) (qi_ (dC, dI) [(a0_, .inr (9, [.ref a1_, .ref a2_, .int 0, .int 0, .int 0, .int 0, .ref a3_, .int 0, .ref a4_])), (a1_, .inl (cI, N, .inl (fun _ => 0)))] sz (fun (r : Int32) (u : Unit) => r = (nI N)) (fun (u : Unit) => [(a0_, .inr (9, [.ref a1_, .ref a2_, .int 0, .int 0, .int 0, .int 0, .ref a3_, .int 0, .ref a4_])), (a1_, .inl (cI, N, .inl (fun _ => 0)))])) 0 0 (va_A [(a0_, .inr (9, [.ref a1_, .ref a2_, .int 0, .int 0, .int 0, .int 0, .ref a3_, .int 0, .ref a4_])), (a1_, .inl (cI, N, .inl (fun _ => 0)))] sz) := by
  refine Met.ofW (cc := cX6_size) (maxL := 1) (ret := (some .int)) (by decide) rfl ?_
  intro p e s m args below meth c s₁ B hml hv
  obtain ⟨rfl, hsz, hP, hKK, hD0, hFx⟩ := hv
  have hK := hKK.1
  have hx := B.exec
  have hb := B.bytes
  have hr := B.returns
  have ht : ∀ w ∈ tw_W, w.before _ s = true := fun w h => atoms_spec (ws := Cond.code yX6_size cX6_size 1 (some .int) :: tw_W) B.pre w (List.mem_cons_of_mem _ h)
  have hown : s.vm.findClass RX6 = some m.cls := findClass_of_methodNamed B.named
  have hlocks := B.notSynchronized
  subst hsz
  unfold qi_
  have hD := hD0.self (sz := s.heap.size)
  generalize hAe : va_A [(a0_, .inr (9, [.ref a1_, .ref a2_, .int 0, .int 0, .int 0, .int 0, .ref a3_, .int 0, .ref a4_])), (a1_, .inl (cI, N, .inl (fun _ => 0)))] s.heap.size = A at hD hFx ⊢
  have hA : ∀ q : Nat, s.heap.size ≤ q → A q := fun q h => by rw [← hAe]; exact Or.inr h
  have hS : va_S A s.heap s.heap [] := va_S.rf
  have hP : va_P (dC, dI) vwCl [(a0_, .inr (9, [.ref a1_, .ref a2_, .int 0, .int 0, .int 0, .int 0, .ref a3_, .int 0, .ref a4_])), (a1_, .inl (cI, N, .inl (fun _ => 0)))] s.heap := hP
  have hl := lv_entry ([.ref a0_]) (n := 1) (Nat.le_of_ble_eq_true rfl)
  rw [lg_entry_eq]
  generalize (lg_sl ([.ref a0_]) ++ List.replicate (1 - (lg_sl ([.ref a0_])).length) Slot.unset).toArray = ls at hl ⊢
  have hl : lv_has ls 1 [(0, .ref a0_)] := hl
  refine lv_aload_n hx hb dX6_size_0 rfl (lv_at hl 0 rfl) ?_
  refine va_get (D := (dC, dI)) (ci := 9) (v := .ref a1_) (C := RX6) (T := TX6) (N := 9) hx hb ht itX6 hown hK hP 0 rfl rfl 0 (by decide) (ht _ tw_134) (fun _ h9 => h9) rfl dX6_size_1 ?_
  refine va_alen (D := (dC, dI)) (v := (nI N)) hx hb hK hP 1 0 rfl rfl rfl dX6_size_4 ?_
  have hP9 := hP.sub (ws' := [(a0_, .inr (9, [.ref a1_, .ref a2_, .int 0, .int 0, .int 0, .int 0, .ref a3_, .int 0, .ref a4_])), (a1_, .inl (cI, N, .inl (fun _ => 0)))]) [0, 1] rfl
  have hD9 := hD.sub (ws' := [(a0_, .inr (9, [.ref a1_, .ref a2_, .int 0, .int 0, .int 0, .int 0, .ref a3_, .int 0, .ref a4_])), (a1_, .inl (cI, N, .inl (fun _ => 0)))]) [0, 1] (by decide) rfl
  refine W.widen (k := 0) (n := 0) (by omega) (by omega) ?_
  exact W.iret (v := (nI N)) hx hb hr (fun t ht9 hW => ⟨⟨(nI N), (), rfl, rfl, by rw [ht9]; exact hP9, hD9⟩, hS.F ht9⟩) hS.2.2 dX6_size_5
set_option maxHeartbeats 4000000 in
set_option maxRecDepth 100000 in
/-- X11_count on a new object -/
theorem c_X11_count (l : Launch) (dC : Nat → ClassId) (dI : Nat → Nat → Nat) (cI cB cZ cJ cR : ClassId) (tb : Nat → Nat) (sz : Nat) (h0 : Nat) (pa : Int32) (q1 : Nat) (q9 : Nat) (q18 : Nat) (q27 : Nat) (q42 : Nat) (q2 : Nat) (q45 : Nat) (q50 : Nat) (q5 : Nat) (q4 : Nat) (q47 : Nat) (q48 : Nat) (q49 : Nat) (N : Nat) (q11 : Nat) (q12 : Nat) (q13 : Nat) (q14 : Nat) (q15 : Nat) (q16 : Nat) (q17 : Nat) (hf_N_0 : 256 ≤ N) (hf_N_1 : N ≤ 4096) : Met l yX11_count (Cond.code yX11_count cX11_count 2 (some .int) :: tw_W) ({ frames := 1, cells := 0, slots := 0, locals := 20 }) (pc_ (dC, dI) (tyS cI cB cZ cJ cR) tb [(h0, .inr (14, [.ref q1, .int 0, .ref q9, .ref q18, .ref q27, .ref q42, .int 0, .int (-1), .ref q2, .ref q45, .ref q50, .ref q5])), (q2, .inr (7, [.ref q4, .int 0, .int 0])), (q45, .inr (9, [.ref q47, .ref q48, .int 0, .int 0, .int 0, .int 0, .ref q49, .int 0, .ref q2])), (q47, .inl (cI, N, .inl (fun _ => 0))), (q9, .inr (10, [.ref q11, .int 0, .ref q12, .int 0, .ref q13, .int 0, .ref q14, .ref q15, .ref q16, .int 0, .ref q17, .int 2, .int 8]))] sz [.ref h0, .int pa]) (qi_ (dC, dI) [(h0, .inr (14, [.ref q1, .int 0, .ref q9, .ref q18, .ref q27, .ref q42, .int 0, .int (-1), .ref q2, .ref q45, .ref q50, .ref q5])), (q2, .inr (7, [.ref q4, .int 0, .int 0])), (q45, .inr (9, [.ref q47, .ref q48, .int 0, .int 0, .int 0, .int 0, .ref q49, .int 0, .ref q2])), (q47, .inl (cI, N, .inl (fun _ => 0))), (q9, .inr (10, [.ref q11, .int 0, .ref q12, .int 0, .ref q13, .int 0, .ref q14, .ref q15, .ref q16, .int 0, .ref q17, .int 2, .int 8]))] sz (fun (r : Int32) (u : Unit) => r = (if pa = 0 then 0 else (if pa = 1 then 2 else (if pa = 2 then 0 else (if pa = 3 then 0 else (if pa = 4 then 8 else (if pa = 5 then 0 else (if pa = 6 then 0 else (if pa = 7 then 0 else (if pa = 8 then 0 else (if pa = 9 then (nI N) else (if pa = 10 then 0 else (-1))))))))))))) (fun (u : Unit) => [])) 0 0 (va_A [(h0, .inr (14, [.ref q1, .int 0, .ref q9, .ref q18, .ref q27, .ref q42, .int 0, .int (-1), .ref q2, .ref q45, .ref q50, .ref q5])), (q2, .inr (7, [.ref q4, .int 0, .int 0])), (q45, .inr (9, [.ref q47, .ref q48, .int 0, .int 0, .int 0, .int 0, .ref q49, .int 0, .ref q2])), (q47, .inl (cI, N, .inl (fun _ => 0))), (q9, .inr (10, [.ref q11, .int 0, .ref q12, .int 0, .ref q13, .int 0, .ref q14, .ref q15, .ref q16, .int 0, .ref q17, .int 2, .int 8]))] sz) := by
  refine Met.ofW (cc := cX11_count) (maxL := 2) (ret := (some .int)) (by decide) rfl ?_
  intro p e s m args below meth c s₁ B hml hv
  obtain ⟨rfl, hsz, hP, hKK, hD0, hFx⟩ := hv
  have hK := hKK.1
  have hx := B.exec
  have hb := B.bytes
  have hr := B.returns
  have ht : ∀ w ∈ tw_W, w.before _ s = true := fun w h => atoms_spec (ws := Cond.code yX11_count cX11_count 2 (some .int) :: tw_W) B.pre w (List.mem_cons_of_mem _ h)
  have hown : s.vm.findClass RX11 = some m.cls := findClass_of_methodNamed B.named
  have hlocks := B.notSynchronized
  subst hsz
  unfold qi_
  have hD := hD0.self (sz := s.heap.size)
  generalize hAe : va_A [(h0, .inr (14, [.ref q1, .int 0, .ref q9, .ref q18, .ref q27, .ref q42, .int 0, .int (-1), .ref q2, .ref q45, .ref q50, .ref q5])), (q2, .inr (7, [.ref q4, .int 0, .int 0])), (q45, .inr (9, [.ref q47, .ref q48, .int 0, .int 0, .int 0, .int 0, .ref q49, .int 0, .ref q2])), (q47, .inl (cI, N, .inl (fun _ => 0))), (q9, .inr (10, [.ref q11, .int 0, .ref q12, .int 0, .ref q13, .int 0, .ref q14, .ref q15, .ref q16, .int 0, .ref q17, .int 2, .int 8]))] s.heap.size = A at hD hFx ⊢
  have hA : ∀ q : Nat, s.heap.size ≤ q → A q := fun q h => by rw [← hAe]; exact Or.inr h
  have hS : va_S A s.heap s.heap [] := va_S.rf
  have hP : va_P (dC, dI) vwCl [(h0, .inr (14, [.ref q1, .int 0, .ref q9, .ref q18, .ref q27, .ref q42, .int 0, .int (-1), .ref q2, .ref q45, .ref q50, .ref q5])), (q2, .inr (7, [.ref q4, .int 0, .int 0])), (q45, .inr (9, [.ref q47, .ref q48, .int 0, .int 0, .int 0, .int 0, .ref q49, .int 0, .ref q2])), (q47, .inl (cI, N, .inl (fun _ => 0))), (q9, .inr (10, [.ref q11, .int 0, .ref q12, .int 0, .ref q13, .int 0, .ref q14, .ref q15, .ref q16, .int 0, .ref q17, .int 2, .int 8]))] s.heap := hP
  have hl := lv_entry ([.ref h0, .int pa]) (n := 2) (Nat.le_of_ble_eq_true rfl)
  rw [lg_entry_eq]
  generalize (lg_sl ([.ref h0, .int pa]) ++ List.replicate (2 - (lg_sl ([.ref h0, .int pa])).length) Slot.unset).toArray = ls at hl ⊢
  have hl : lv_has ls 2 [(0, .ref h0), (1, .int pa)] := hl
  refine lv_iload_n hx hb dX11_count_0 rfl (lv_at hl 1 rfl) ?_
  by_cases h1 : pa = 0
  · refine lv_tableIn (off := 59) (tgt := 60) hx hb dX11_count_1 (by rw [h1]; decide) (by rw [h1]; decide) (by rw [h1]; decide) (by decide) ?_
    refine lv_aload_n hx hb dX11_count_60 rfl (lv_at hl 0 rfl) ?_
    refine va_get (D := (dC, dI)) (ci := 14) (v := .int 0) (C := RX11) (T := TX11) (N := 12) hx hb ht itX11 hown hK hP 0 rfl rfl 1 (by decide) (ht _ tw_212) (fun _ h9 => h9) rfl dX11_count_61 ?_
    have hP9 := hP.sub (ws' := []) [] rfl
    have hD9 := hD.sub (ws' := []) [] (by decide) rfl
    refine W.widen (k := 0) (n := 0) (by omega) (by omega) ?_
    exact W.iret (v := 0) hx hb hr (fun t ht9 hW => ⟨⟨0, (), rfl, (by rw [if_pos h1]), by rw [ht9]; exact hP9, hD9⟩, hS.F ht9⟩) hS.2.2 dX11_count_64
  ·
    by_cases h2 : pa = 1
    · refine lv_tableIn (off := 64) (tgt := 65) hx hb dX11_count_1 (by rw [h2]; decide) (by rw [h2]; decide) (by rw [h2]; decide) (by decide) ?_
      refine lv_aload_n hx hb dX11_count_65 rfl (lv_at hl 0 rfl) ?_
      refine va_get (D := (dC, dI)) (ci := 14) (v := .ref q9) (C := RX11) (T := TX11) (N := 12) hx hb ht itX11 hown hK hP 0 rfl rfl 2 (by decide) (ht _ tw_110) (fun _ h9 => h9) rfl dX11_count_66 ?_
      refine va_get (D := (dC, dI)) (ci := 10) (v := .int 2) (C := RX7) (T := TX7) (N := 13) hx hb ht itX7 hown hK hP 4 rfl rfl 11 (by decide) (ht _ tw_253) (fun _ h9 => h9) rfl dX11_count_69 ?_
      have hP9 := hP.sub (ws' := []) [] rfl
      have hD9 := hD.sub (ws' := []) [] (by decide) rfl
      refine W.widen (k := 0) (n := 0) (by omega) (by omega) ?_
      exact W.iret (v := 2) hx hb hr (fun t ht9 hW => ⟨⟨2, (), rfl, (by rw [if_neg h1, if_pos h2]), by rw [ht9]; exact hP9, hD9⟩, hS.F ht9⟩) hS.2.2 dX11_count_72
    ·
      by_cases h3 : pa = 2
      · refine lv_tableIn (off := 72) (tgt := 73) hx hb dX11_count_1 (by rw [h3]; decide) (by rw [h3]; decide) (by rw [h3]; decide) (by decide) ?_
        refine lv_aload_n hx hb dX11_count_73 rfl (lv_at hl 0 rfl) ?_
        refine va_get (D := (dC, dI)) (ci := 14) (v := .ref q9) (C := RX11) (T := TX11) (N := 12) hx hb ht itX11 hown hK hP 0 rfl rfl 2 (by decide) (ht _ tw_110) (fun _ h9 => h9) rfl dX11_count_74 ?_
        refine va_get (D := (dC, dI)) (ci := 10) (v := .int 0) (C := RX7) (T := TX7) (N := 13) hx hb ht itX7 hown hK hP 4 rfl rfl 3 (by decide) (ht _ tw_254) (fun _ h9 => h9) rfl dX11_count_77 ?_
        have hP9 := hP.sub (ws' := []) [] rfl
        have hD9 := hD.sub (ws' := []) [] (by decide) rfl
        refine W.widen (k := 0) (n := 0) (by omega) (by omega) ?_
        exact W.iret (v := 0) hx hb hr (fun t ht9 hW => ⟨⟨0, (), rfl, (by rw [if_neg h1, if_neg h2, if_pos h3]), by rw [ht9]; exact hP9, hD9⟩, hS.F ht9⟩) hS.2.2 dX11_count_80
      ·
        by_cases h4 : pa = 3
        · refine lv_tableIn (off := 80) (tgt := 81) hx hb dX11_count_1 (by rw [h4]; decide) (by rw [h4]; decide) (by rw [h4]; decide) (by decide) ?_
          refine lv_aload_n hx hb dX11_count_81 rfl (lv_at hl 0 rfl) ?_
          refine va_get (D := (dC, dI)) (ci := 14) (v := .ref q9) (C := RX11) (T := TX11) (N := 12) hx hb ht itX11 hown hK hP 0 rfl rfl 2 (by decide) (ht _ tw_110) (fun _ h9 => h9) rfl dX11_count_82 ?_
          refine va_get (D := (dC, dI)) (ci := 10) (v := .int 0) (C := RX7) (T := TX7) (N := 13) hx hb ht itX7 hown hK hP 4 rfl rfl 5 (by decide) (ht _ tw_255) (fun _ h9 => h9) rfl dX11_count_85 ?_
          have hP9 := hP.sub (ws' := []) [] rfl
          have hD9 := hD.sub (ws' := []) [] (by decide) rfl
          refine W.widen (k := 0) (n := 0) (by omega) (by omega) ?_
          exact W.iret (v := 0) hx hb hr (fun t ht9 hW => ⟨⟨0, (), rfl, (by rw [if_neg h1, if_neg h2, if_neg h3, if_pos h4]), by rw [ht9]; exact hP9, hD9⟩, hS.F ht9⟩) hS.2.2 dX11_count_88
        ·
          by_cases h5 : pa = 4
          · refine lv_tableIn (off := 88) (tgt := 89) hx hb dX11_count_1 (by rw [h5]; decide) (by rw [h5]; decide) (by rw [h5]; decide) (by decide) ?_
            refine lv_aload_n hx hb dX11_count_89 rfl (lv_at hl 0 rfl) ?_
            refine va_get (D := (dC, dI)) (ci := 14) (v := .ref q9) (C := RX11) (T := TX11) (N := 12) hx hb ht itX11 hown hK hP 0 rfl rfl 2 (by decide) (ht _ tw_110) (fun _ h9 => h9) rfl dX11_count_90 ?_
            refine va_get (D := (dC, dI)) (ci := 10) (v := .int 8) (C := RX7) (T := TX7) (N := 13) hx hb ht itX7 hown hK hP 4 rfl rfl 12 (by decide) (ht _ tw_256) (fun _ h9 => h9) rfl dX11_count_93 ?_
            have hP9 := hP.sub (ws' := []) [] rfl
            have hD9 := hD.sub (ws' := []) [] (by decide) rfl
            refine W.widen (k := 0) (n := 0) (by omega) (by omega) ?_
            exact W.iret (v := 8) hx hb hr (fun t ht9 hW => ⟨⟨8, (), rfl, (by rw [if_neg h1, if_neg h2, if_neg h3, if_neg h4, if_pos h5]), by rw [ht9]; exact hP9, hD9⟩, hS.F ht9⟩) hS.2.2 dX11_count_96
          ·
            by_cases h6 : pa = 5
            · refine lv_tableIn (off := 96) (tgt := 97) hx hb dX11_count_1 (by rw [h6]; decide) (by rw [h6]; decide) (by rw [h6]; decide) (by decide) ?_
              refine lv_aload_n hx hb dX11_count_97 rfl (lv_at hl 0 rfl) ?_
              refine va_get (D := (dC, dI)) (ci := 14) (v := .ref q45) (C := RX11) (T := TX11) (N := 12) hx hb ht itX11 hown hK hP 0 rfl rfl 9 (by decide) (ht _ tw_140) (fun _ h9 => h9) rfl dX11_count_98 ?_
              refine va_getN (D := (dC, dI)) (ci := 9) (v := .int 0) (C := RX6) (T := TX6) (N := 9) hx hb ht itX6 hown hK hP 2 rfl rfl 4 (by decide) (hKK.fld 10 rfl) (fun _ h9 => h9) rfl dX11_count_101 ?_
              have hP9 := hP.sub (ws' := []) [] rfl
              have hD9 := hD.sub (ws' := []) [] (by decide) rfl
              refine W.widen (k := 0) (n := 0) (by omega) (by omega) ?_
              exact W.iret (v := 0) hx hb hr (fun t ht9 hW => ⟨⟨0, (), rfl, (by rw [if_neg h1, if_neg h2, if_neg h3, if_neg h4, if_neg h5, if_pos h6]), by rw [ht9]; exact hP9, hD9⟩, hS.F ht9⟩) hS.2.2 dX11_count_104
            ·
              by_cases h7 : pa = 6
              · refine lv_tableIn (off := 104) (tgt := 105) hx hb dX11_count_1 (by rw [h7]; decide) (by rw [h7]; decide) (by rw [h7]; decide) (by decide) ?_
                refine lv_aload_n hx hb dX11_count_105 rfl (lv_at hl 0 rfl) ?_
                refine va_get (D := (dC, dI)) (ci := 14) (v := .ref q45) (C := RX11) (T := TX11) (N := 12) hx hb ht itX11 hown hK hP 0 rfl rfl 9 (by decide) (ht _ tw_140) (fun _ h9 => h9) rfl dX11_count_106 ?_
                refine va_getN (D := (dC, dI)) (ci := 9) (v := .int 0) (C := RX6) (T := TX6) (N := 9) hx hb ht itX6 hown hK hP 2 rfl rfl 5 (by decide) (hKK.fld 11 rfl) (fun _ h9 => h9) rfl dX11_count_109 ?_
                have hP9 := hP.sub (ws' := []) [] rfl
                have hD9 := hD.sub (ws' := []) [] (by decide) rfl
                refine W.widen (k := 0) (n := 0) (by omega) (by omega) ?_
                exact W.iret (v := 0) hx hb hr (fun t ht9 hW => ⟨⟨0, (), rfl, (by rw [if_neg h1, if_neg h2, if_neg h3, if_neg h4, if_neg h5, if_neg h6, if_pos h7]), by rw [ht9]; exact hP9, hD9⟩, hS.F ht9⟩) hS.2.2 dX11_count_112
              ·
                by_cases h8 : pa = 7
                · refine lv_tableIn (off := 112) (tgt := 113) hx hb dX11_count_1 (by rw [h8]; decide) (by rw [h8]; decide) (by rw [h8]; decide) (by decide) ?_
                  refine lv_aload_n hx hb dX11_count_113 rfl (lv_at hl 0 rfl) ?_
                  refine va_get (D := (dC, dI)) (ci := 14) (v := .ref q45) (C := RX11) (T := TX11) (N := 12) hx hb ht itX11 hown hK hP 0 rfl rfl 9 (by decide) (ht _ tw_140) (fun _ h9 => h9) rfl dX11_count_114 ?_
                  refine va_getN (D := (dC, dI)) (ci := 9) (v := .int 0) (C := RX6) (T := TX6) (N := 9) hx hb ht itX6 hown hK hP 2 rfl rfl 7 (by decide) (hKK.fld 13 rfl) (fun _ h9 => h9) rfl dX11_count_117 ?_
                  have hP9 := hP.sub (ws' := []) [] rfl
                  have hD9 := hD.sub (ws' := []) [] (by decide) rfl
                  refine W.widen (k := 0) (n := 0) (by omega) (by omega) ?_
                  exact W.iret (v := 0) hx hb hr (fun t ht9 hW => ⟨⟨0, (), rfl, (by rw [if_neg h1, if_neg h2, if_neg h3, if_neg h4, if_neg h5, if_neg h6, if_neg h7, if_pos h8]), by rw [ht9]; exact hP9, hD9⟩, hS.F ht9⟩) hS.2.2 dX11_count_120
                ·
                  by_cases h9 : pa = 8
                  · refine lv_tableIn (off := 120) (tgt := 121) hx hb dX11_count_1 (by rw [h9]; decide) (by rw [h9]; decide) (by rw [h9]; decide) (by decide) ?_
                    refine lv_aload_n hx hb dX11_count_121 rfl (lv_at hl 0 rfl) ?_
                    refine va_get (D := (dC, dI)) (ci := 14) (v := .ref q2) (C := RX11) (T := TX11) (N := 12) hx hb ht itX11 hown hK hP 0 rfl rfl 8 (by decide) (ht _ tw_95) (fun _ h9 => h9) rfl dX11_count_122 ?_
                    refine va_getN (D := (dC, dI)) (ci := 7) (v := .int 0) (C := RX3) (T := TX3) (N := 3) hx hb ht itX3 hown hK hP 1 rfl rfl 1 (by decide) (hKK.fld 0 rfl) (fun _ h9 => h9) rfl dX11_count_125 ?_
                    have hP9 := hP.sub (ws' := []) [] rfl
                    have hD9 := hD.sub (ws' := []) [] (by decide) rfl
                    refine W.widen (k := 0) (n := 0) (by omega) (by omega) ?_
                    exact W.iret (v := 0) hx hb hr (fun t ht9 hW => ⟨⟨0, (), rfl, (by rw [if_neg h1, if_neg h2, if_neg h3, if_neg h4, if_neg h5, if_neg h6, if_neg h7, if_neg h8, if_pos h9]), by rw [ht9]; exact hP9, hD9⟩, hS.F ht9⟩) hS.2.2 dX11_count_128
                  ·
                    by_cases h10 : pa = 9
                    · refine lv_tableIn (off := 128) (tgt := 129) hx hb dX11_count_1 (by rw [h10]; decide) (by rw [h10]; decide) (by rw [h10]; decide) (by decide) ?_
                      refine lv_aload_n hx hb dX11_count_129 rfl (lv_at hl 0 rfl) ?_
                      refine va_get (D := (dC, dI)) (ci := 14) (v := .ref q45) (C := RX11) (T := TX11) (N := 12) hx hb ht itX11 hown hK hP 0 rfl rfl 9 (by decide) (ht _ tw_140) (fun _ h9 => h9) rfl dX11_count_130 ?_
                      refine ca_i (wr := [(h0, .inr (14, [.ref q1, .int 0, .ref q9, .ref q18, .ref q27, .ref q42, .int 0, .int (-1), .ref q2, .ref q45, .ref q50, .ref q5])), (q2, .inr (7, [.ref q4, .int 0, .int 0])), (q9, .inr (10, [.ref q11, .int 0, .ref q12, .int 0, .ref q13, .int 0, .ref q14, .ref q15, .ref q16, .int 0, .ref q17, .int 2, .int 8]))]) (rn_V (n := 0) (As := []) (rest := []) hx hb hml hown ht hKK hFx hP hD hS hA (c_X6_size l dC dI cI cB cZ cJ cR tb s.heap.size q45 q47 q48 q49 q2 N (by omega) (by omega)) tw_257 tw_258 (by decide +kernel) rfl rfl ⟨Nat.le_of_ble_eq_true rfl, Nat.le_of_ble_eq_true rfl⟩ [2, 3] rfl (by decide) rfl rfl rfl rfl hl.1 rfl (Nat.le_of_ble_eq_true rfl) dX11_count_133 ⟨Nat.le_of_ble_eq_true rfl, Nat.le_of_ble_eq_true rfl⟩) hP hD hS hA (isC := [2, 3]) (isR := [0, 1, 4]) rfl rfl (by decide) (by decide) (fun r12 u H locs hw11 hP hD hS => ?_)
                      subst hw11
                      have hP : va_P (dC, dI) vwCl [(h0, .inr (14, [.ref q1, .int 0, .ref q9, .ref q18, .ref q27, .ref q42, .int 0, .int (-1), .ref q2, .ref q45, .ref q50, .ref q5])), (q2, .inr (7, [.ref q4, .int 0, .int 0])), (q9, .inr (10, [.ref q11, .int 0, .ref q12, .int 0, .ref q13, .int 0, .ref q14, .ref q15, .ref q16, .int 0, .ref q17, .int 2, .int 8])), (q45, .inr (9, [.ref q47, .ref q48, .int 0, .int 0, .int 0, .int 0, .ref q49, .int 0, .ref q2])), (q47, .inl (cI, N, .inl (fun _ => 0)))] H := hP
                      have hD : va_D A [(h0, .inr (14, [.ref q1, .int 0, .ref q9, .ref q18, .ref q27, .ref q42, .int 0, .int (-1), .ref q2, .ref q45, .ref q50, .ref q5])), (q2, .inr (7, [.ref q4, .int 0, .int 0])), (q9, .inr (10, [.ref q11, .int 0, .ref q12, .int 0, .ref q13, .int 0, .ref q14, .ref q15, .ref q16, .int 0, .ref q17, .int 2, .int 8])), (q45, .inr (9, [.ref q47, .ref q48, .int 0, .int 0, .int 0, .int 0, .ref q49, .int 0, .ref q2])), (q47, .inl (cI, N, .inl (fun _ => 0)))] := hD
                      refine W.widen (k := 0) (n := 0) (by omega) (by omega) ?_
                      have hP9 := hP.sub (ws' := []) [] rfl
                      have hD9 := hD.sub (ws' := []) [] (by decide) rfl
                      refine W.widen (k := 0) (n := 0) (by omega) (by omega) ?_
                      exact W.iret (v := (nI N)) hx hb hr (fun t ht9 hW => ⟨⟨(nI N), (), rfl, (by rw [if_neg h1, if_neg h2, if_neg h3, if_neg h4, if_neg h5, if_neg h6, if_neg h7, if_neg h8, if_neg h9, if_pos h10]), by rw [ht9]; exact hP9, hD9⟩, hS.F ht9⟩) hS.2.2 dX11_count_136
                    ·
                      by_cases h13 : pa = 10
                      · refine lv_tableIn (off := 136) (tgt := 137) hx hb dX11_count_1 (by rw [h13]; decide) (by rw [h13]; decide) (by rw [h13]; decide) (by decide) ?_
                        refine lv_aload_n hx hb dX11_count_137 rfl (lv_at hl 0 rfl) ?_
                        refine va_get (D := (dC, dI)) (ci := 14) (v := .ref q45) (C := RX11) (T := TX11) (N := 12) hx hb ht itX11 hown hK hP 0 rfl rfl 9 (by decide) (ht _ tw_140) (fun _ h9 => h9) rfl dX11_count_138 ?_
                        refine va_getN (D := (dC, dI)) (ci := 9) (v := .int 0) (C := RX6) (T := TX6) (N := 9) hx hb ht itX6 hown hK hP 2 rfl rfl 4 (by decide) (hKK.fld 10 rfl) (fun _ h9 => h9) rfl dX11_count_141 ?_
                        refine lv_iconst (v := 1) hx hb dX11_count_144 (by decide) ?_
                        refine lv_icmp_ne (tgt := 160) hx hb dX11_count_145 (by decide) (fun _ => ?_) (fun k14 => absurd k14 (by decide))
                        refine lv_iconst (v := 0) hx hb dX11_count_160 (by decide) ?_
                        have hP9 := hP.sub (ws' := []) [] rfl
                        have hD9 := hD.sub (ws' := []) [] (by decide) rfl
                        refine W.widen (k := 0) (n := 0) (by omega) (by omega) ?_
                        exact W.iret (v := 0) hx hb hr (fun t ht9 hW => ⟨⟨0, (), rfl, (by rw [if_neg h1, if_neg h2, if_neg h3, if_neg h4, if_neg h5, if_neg h6, if_neg h7, if_neg h8, if_neg h9, if_neg h10, if_pos h13]), by rw [ht9]; exact hP9, hD9⟩, hS.F ht9⟩) hS.2.2 dX11_count_161
                      ·
                        refine lv_tableOut (tgt := 162) hx hb dX11_count_1 (by have := lv_neT h1 (a := 0) (by decide); have := lv_neT h2 (a := 1) (by decide); have := lv_neT h3 (a := 2) (by decide); have := lv_neT h4 (a := 3) (by decide); have := lv_neT h5 (a := 4) (by decide); have := lv_neT h6 (a := 5) (by decide); have := lv_neT h7 (a := 6) (by decide); have := lv_neT h8 (a := 7) (by decide); have := lv_neT h9 (a := 8) (by decide); have := lv_neT h10 (a := 9) (by decide); have := lv_neT h13 (a := 10) (by decide); omega) (by decide) ?_
                        refine lv_iconst (v := -1) hx hb dX11_count_162 (by decide) ?_
                        have hP9 := hP.sub (ws' := []) [] rfl
                        have hD9 := hD.sub (ws' := []) [] (by decide) rfl
                        refine W.widen (k := 0) (n := 0) (by omega) (by omega) ?_
                        exact W.iret (v := (-1)) hx hb hr (fun t ht9 hW => ⟨⟨(-1), (), rfl, (by rw [if_neg h1, if_neg h2, if_neg h3, if_neg h4, if_neg h5, if_neg h6, if_neg h7, if_neg h8, if_neg h9, if_neg h10, if_neg h13]), by rw [ht9]; exact hP9, hD9⟩, hS.F ht9⟩) hS.2.2 dX11_count_163
set_option maxHeartbeats 4000000 in
set_option maxRecDepth 100000 in
theorem c_J5_length_8abf5 (l : Launch) (dC : Nat → ClassId) (dI : Nat → Nat → Nat) (cI cB cZ cJ cR : ClassId) (tb : Nat → Nat) (sz : Nat) (a0_ : Nat) (a1_ : Nat)  : Met l yJ5_length_8abf5 (Cond.code yJ5_length_8abf5 cJ5_length_8abf5 1 (some .int) :: tw_W) ({ frames := 0, cells := 0, slots := 0, locals := 0 }) (pc_ (dC, dI) (tyS cI cB cZ cJ cR) tb [(a0_, .inr (1, [.ref a1_, .int 0, .int 0, .int 0]))] sz [.ref a0_]) (qi_ (dC, dI) [(a0_, .inr (1, [.ref a1_, .int 0, .int 0, .int 0]))] sz (fun (r : Int32) (u : Unit) => r = 0) (fun (u : Unit) => [(a0_, .inr (1, [.ref a1_, .int 0, .int 0, .int 0]))])) 0 0 (va_A [(a0_, .inr (1, [.ref a1_, .int 0, .int 0, .int 0]))] sz) := by
  refine Met.ofW (cc := cJ5_length_8abf5) (maxL := 1) (ret := (some .int)) (by decide) rfl ?_
  intro p e s m args below meth c s₁ B hml hv
  obtain ⟨rfl, hsz, hP, hKK, hD0, hFx⟩ := hv
  have hK := hKK.1
  have hx := B.exec
  have hb := B.bytes
  have hr := B.returns
  have ht : ∀ w ∈ tw_W, w.before _ s = true := fun w h => atoms_spec (ws := Cond.code yJ5_length_8abf5 cJ5_length_8abf5 1 (some .int) :: tw_W) B.pre w (List.mem_cons_of_mem _ h)
  have hown : s.vm.findClass RJ5 = some m.cls := findClass_of_methodNamed B.named
  have hlocks := B.notSynchronized
  subst hsz
  unfold qi_
  have hD := hD0.self (sz := s.heap.size)
  generalize hAe : va_A [(a0_, .inr (1, [.ref a1_, .int 0, .int 0, .int 0]))] s.heap.size = A at hD hFx ⊢
  have hA : ∀ q : Nat, s.heap.size ≤ q → A q := fun q h => by rw [← hAe]; exact Or.inr h
  have hS : va_S A s.heap s.heap [] := va_S.rf
  have hP : va_P (dC, dI) vwCl [(a0_, .inr (1, [.ref a1_, .int 0, .int 0, .int 0]))] s.heap := hP
  have hl := lv_entry ([.ref a0_]) (n := 1) (Nat.le_of_ble_eq_true rfl)
  rw [lg_entry_eq]
  generalize (lg_sl ([.ref a0_]) ++ List.replicate (1 - (lg_sl ([.ref a0_])).length) Slot.unset).toArray = ls at hl ⊢
  have hl : lv_has ls 1 [(0, .ref a0_)] := hl
  refine lv_aload_n hx hb dJ5_length_8abf5_0 rfl (lv_at hl 0 rfl) ?_
  refine va_get (D := (dC, dI)) (ci := 1) (v := .int 0) (C := RJ4) (T := TJ4) (N := 4) hx hb ht itJ4 hown hK hP 0 rfl rfl 3 (by decide) (ht _ tw_259) (fun _ h9 => h9) rfl dJ5_length_8abf5_1 ?_
  have hP9 := hP.sub (ws' := [(a0_, .inr (1, [.ref a1_, .int 0, .int 0, .int 0]))]) [0] rfl
  have hD9 := hD.sub (ws' := [(a0_, .inr (1, [.ref a1_, .int 0, .int 0, .int 0]))]) [0] (by decide) rfl
  refine W.widen (k := 0) (n := 0) (by omega) (by omega) ?_
  exact W.iret (v := 0) hx hb hr (fun t ht9 hW => ⟨⟨0, (), rfl, rfl, by rw [ht9]; exact hP9, hD9⟩, hS.F ht9⟩) hS.2.2 dJ5_length_8abf5_4
set_option maxHeartbeats 4000000 in
set_option maxRecDepth 100000 in
theorem c_J4_length_8abf5 (l : Launch) (dC : Nat → ClassId) (dI : Nat → Nat → Nat) (cI cB cZ cJ cR : ClassId) (tb : Nat → Nat) (sz : Nat) (a0_ : Nat) (a1_ : Nat)  : Met l yJ4_length_8abf5 (Cond.code yJ4_length_8abf5 cJ4_length_8abf5 1 (some .int) :: tw_W) ({ frames := 1, cells := 0, slots := 0, locals := 20 }) (pc_ (dC, dI) (tyS cI cB cZ cJ cR) tb [(a0_, .inr (1, [.ref a1_, .int 0, .int 0, .int 0]))] sz [.ref a0_]) (qi_ (dC, dI) [(a0_, .inr (1, [.ref a1_, .int 0, .int 0, .int 0]))] sz (fun (r : Int32) (u : Unit) => r = 0) (fun (u : Unit) => [(a0_, .inr (1, [.ref a1_, .int 0, .int 0, .int 0]))])) 0 0 (va_A [(a0_, .inr (1, [.ref a1_, .int 0, .int 0, .int 0]))] sz) := by
  refine Met.ofW (cc := cJ4_length_8abf5) (maxL := 1) (ret := (some .int)) (by decide) rfl ?_
  intro p e s m args below meth c s₁ B hml hv
  obtain ⟨rfl, hsz, hP, hKK, hD0, hFx⟩ := hv
  have hK := hKK.1
  have hx := B.exec
  have hb := B.bytes
  have hr := B.returns
  have ht : ∀ w ∈ tw_W, w.before _ s = true := fun w h => atoms_spec (ws := Cond.code yJ4_length_8abf5 cJ4_length_8abf5 1 (some .int) :: tw_W) B.pre w (List.mem_cons_of_mem _ h)
  have hown : s.vm.findClass RJ4 = some m.cls := findClass_of_methodNamed B.named
  have hlocks := B.notSynchronized
  subst hsz
  unfold qi_
  have hD := hD0.self (sz := s.heap.size)
  generalize hAe : va_A [(a0_, .inr (1, [.ref a1_, .int 0, .int 0, .int 0]))] s.heap.size = A at hD hFx ⊢
  have hA : ∀ q : Nat, s.heap.size ≤ q → A q := fun q h => by rw [← hAe]; exact Or.inr h
  have hS : va_S A s.heap s.heap [] := va_S.rf
  have hP : va_P (dC, dI) vwCl [(a0_, .inr (1, [.ref a1_, .int 0, .int 0, .int 0]))] s.heap := hP
  have hl := lv_entry ([.ref a0_]) (n := 1) (Nat.le_of_ble_eq_true rfl)
  rw [lg_entry_eq]
  generalize (lg_sl ([.ref a0_]) ++ List.replicate (1 - (lg_sl ([.ref a0_])).length) Slot.unset).toArray = ls at hl ⊢
  have hl : lv_has ls 1 [(0, .ref a0_)] := hl
  refine lv_aload_n hx hb dJ4_length_8abf5_0 rfl (lv_at hl 0 rfl) ?_
  refine ca_i (wr := []) (rn_SU (n := 0) (As := []) (rest := []) hx hb hml hown ht hKK hFx hP hD hS hA (c_J5_length_8abf5 l dC dI cI cB cZ cJ cR tb s.heap.size a0_ a1_) tw_260 tw_261 (by decide +kernel) rfl rfl ⟨Nat.le_of_ble_eq_true rfl, Nat.le_of_ble_eq_true rfl⟩ [0] rfl (by decide) rfl rfl rfl hl.1 rfl (Nat.le_of_ble_eq_true rfl) dJ4_length_8abf5_1 ⟨Nat.le_of_ble_eq_true rfl, Nat.le_of_ble_eq_true rfl⟩) hP hD hS hA (isC := [0]) (isR := []) rfl rfl (by decide) (by decide) (fun r2 u H locs hw1 hP hD hS => ?_)
  subst hw1
  have hP : va_P (dC, dI) vwCl [(a0_, .inr (1, [.ref a1_, .int 0, .int 0, .int 0]))] H := hP
  have hD : va_D A [(a0_, .inr (1, [.ref a1_, .int 0, .int 0, .int 0]))] := hD
  refine W.widen (k := 0) (n := 0) (by omega) (by omega) ?_
  have hP9 := hP.sub (ws' := [(a0_, .inr (1, [.ref a1_, .int 0, .int 0, .int 0]))]) [0] rfl
  have hD9 := hD.sub (ws' := [(a0_, .inr (1, [.ref a1_, .int 0, .int 0, .int 0]))]) [0] (by decide) rfl
  refine W.widen (k := 0) (n := 0) (by omega) (by omega) ?_
  exact W.iret (v := 0) hx hb hr (fun t ht9 hW => ⟨⟨0, (), rfl, rfl, by rw [ht9]; exact hP9, hD9⟩, hS.F ht9⟩) hS.2.2 dJ4_length_8abf5_4
set_option maxHeartbeats 4000000 in
set_option maxRecDepth 100000 in
theorem c_X8_byteAt (l : Launch) (dC : Nat → ClassId) (dI : Nat → Nat → Nat) (cI cB cZ cJ cR : ClassId) (tb : Nat → Nat) (sz : Nat) (a0_ : Nat) (x0_ : Int32) (a1_ : Nat) (a2_ : Nat)  : Met l yX8_byteAt (Cond.code yX8_byteAt cX8_byteAt 2 (some .int) :: tw_W) ({ frames := 2, cells := 0, slots := 0, locals := 40 }) (pc_ (dC, dI) (tyS cI cB cZ cJ cR) tb [(a0_, .inr (11, [.ref a1_])), (a1_, .inr (1, [.ref a2_, .int 0, .int 0, .int 0]))] sz [.ref a0_, .int x0_]) (qi_ (dC, dI) [(a0_, .inr (11, [.ref a1_])), (a1_, .inr (1, [.ref a2_, .int 0, .int 0, .int 0]))] sz (fun (r : Int32) (u : Unit) => r = (-1)) (fun (u : Unit) => [(a0_, .inr (11, [.ref a1_])), (a1_, .inr (1, [.ref a2_, .int 0, .int 0, .int 0]))])) 0 0 (va_A [(a0_, .inr (11, [.ref a1_])), (a1_, .inr (1, [.ref a2_, .int 0, .int 0, .int 0]))] sz) := by
  refine Met.ofW (cc := cX8_byteAt) (maxL := 2) (ret := (some .int)) (by decide) rfl ?_
  intro p e s m args below meth c s₁ B hml hv
  obtain ⟨rfl, hsz, hP, hKK, hD0, hFx⟩ := hv
  have hK := hKK.1
  have hx := B.exec
  have hb := B.bytes
  have hr := B.returns
  have ht : ∀ w ∈ tw_W, w.before _ s = true := fun w h => atoms_spec (ws := Cond.code yX8_byteAt cX8_byteAt 2 (some .int) :: tw_W) B.pre w (List.mem_cons_of_mem _ h)
  have hown : s.vm.findClass RX8 = some m.cls := findClass_of_methodNamed B.named
  have hlocks := B.notSynchronized
  subst hsz
  unfold qi_
  have hD := hD0.self (sz := s.heap.size)
  generalize hAe : va_A [(a0_, .inr (11, [.ref a1_])), (a1_, .inr (1, [.ref a2_, .int 0, .int 0, .int 0]))] s.heap.size = A at hD hFx ⊢
  have hA : ∀ q : Nat, s.heap.size ≤ q → A q := fun q h => by rw [← hAe]; exact Or.inr h
  have hS : va_S A s.heap s.heap [] := va_S.rf
  have hP : va_P (dC, dI) vwCl [(a0_, .inr (11, [.ref a1_])), (a1_, .inr (1, [.ref a2_, .int 0, .int 0, .int 0]))] s.heap := hP
  have hl := lv_entry ([.ref a0_, .int x0_]) (n := 2) (Nat.le_of_ble_eq_true rfl)
  rw [lg_entry_eq]
  generalize (lg_sl ([.ref a0_, .int x0_]) ++ List.replicate (2 - (lg_sl ([.ref a0_, .int x0_])).length) Slot.unset).toArray = ls at hl ⊢
  have hl : lv_has ls 2 [(0, .ref a0_), (1, .int x0_)] := hl
  refine lv_iload_n hx hb dX8_byteAt_0 rfl (lv_at hl 1 rfl) ?_
  refine lv_if_lt (tgt := 26) hx hb dX8_byteAt_1 (by decide) (fun h1 => ?_) (fun h1 => ?_)
  · refine lv_iconst (v := -1) hx hb dX8_byteAt_26 (by decide) ?_
    have hP9 := hP.sub (ws' := [(a0_, .inr (11, [.ref a1_])), (a1_, .inr (1, [.ref a2_, .int 0, .int 0, .int 0]))]) [0, 1] rfl
    have hD9 := hD.sub (ws' := [(a0_, .inr (11, [.ref a1_])), (a1_, .inr (1, [.ref a2_, .int 0, .int 0, .int 0]))]) [0, 1] (by decide) rfl
    refine W.widen (k := 0) (n := 0) (by omega) (by omega) ?_
    exact W.iret (v := (-1)) hx hb hr (fun t ht9 hW => ⟨⟨(-1), (), rfl, rfl, by rw [ht9]; exact hP9, hD9⟩, hS.F ht9⟩) hS.2.2 dX8_byteAt_27
  · refine lv_iload_n hx hb dX8_byteAt_4 rfl (lv_at hl 1 rfl) ?_
    refine lv_aload_n hx hb dX8_byteAt_5 rfl (lv_at hl 0 rfl) ?_
    refine va_get (D := (dC, dI)) (ci := 11) (v := .ref a1_) (C := RX8) (T := TX8) (N := 1) hx hb ht itX8 hown hK hP 0 rfl rfl 0 (by decide) (ht _ tw_29) (fun _ h9 => h9) rfl dX8_byteAt_6 ?_
    refine ca_i (wr := [(a0_, .inr (11, [.ref a1_]))]) (rn_V (n := 0) (As := []) (rest := [.int x0_]) hx hb hml hown ht hKK hFx hP hD hS hA (c_J4_length_8abf5 l dC dI cI cB cZ cJ cR tb s.heap.size a1_ a2_) tw_262 tw_263 (by decide +kernel) rfl rfl ⟨Nat.le_of_ble_eq_true rfl, Nat.le_of_ble_eq_true rfl⟩ [1] rfl (by decide) rfl rfl rfl rfl hl.1 rfl (Nat.le_of_ble_eq_true rfl) dX8_byteAt_9 ⟨Nat.le_of_ble_eq_true rfl, Nat.le_of_ble_eq_true rfl⟩) hP hD hS hA (isC := [1]) (isR := [0]) rfl rfl (by decide) (by decide) (fun r3 u H locs hw2 hP hD hS => ?_)
    subst hw2
    have hP : va_P (dC, dI) vwCl [(a0_, .inr (11, [.ref a1_])), (a1_, .inr (1, [.ref a2_, .int 0, .int 0, .int 0]))] H := hP
    have hD : va_D A [(a0_, .inr (11, [.ref a1_])), (a1_, .inr (1, [.ref a2_, .int 0, .int 0, .int 0]))] := hD
    refine W.widen (k := 0) (n := 0) (by omega) (by omega) ?_
    refine lv_icmp_ge (tgt := 26) hx hb dX8_byteAt_12 (by decide) (fun _ => ?_) (fun k4 => False.elim (by rw [Int32.lt_iff_toInt_lt] at h1; rw [Int32.le_iff_toInt_le] at k4; have : (0 : Int32).toInt = 0 := (by decide); omega))
    refine lv_iconst (v := -1) hx hb dX8_byteAt_26 (by decide) ?_
    have hP9 := hP.sub (ws' := [(a0_, .inr (11, [.ref a1_])), (a1_, .inr (1, [.ref a2_, .int 0, .int 0, .int 0]))]) [0, 1] rfl
    have hD9 := hD.sub (ws' := [(a0_, .inr (11, [.ref a1_])), (a1_, .inr (1, [.ref a2_, .int 0, .int 0, .int 0]))]) [0, 1] (by decide) rfl
    refine W.widen (k := 0) (n := 0) (by omega) (by omega) ?_
    exact W.iret (v := (-1)) hx hb hr (fun t ht9 hW => ⟨⟨(-1), (), rfl, rfl, by rw [ht9]; exact hP9, hD9⟩, hS.F ht9⟩) hS.2.2 dX8_byteAt_27
set_option maxHeartbeats 4000000 in
set_option maxRecDepth 100000 in
/-- X11_octet on a new object -/
theorem c_X11_octet (l : Launch) (dC : Nat → ClassId) (dI : Nat → Nat → Nat) (cI cB cZ cJ cR : ClassId) (tb : Nat → Nat) (sz : Nat) (h0 : Nat) (pa : Int32) (q1 : Nat) (q9 : Nat) (q18 : Nat) (q27 : Nat) (q42 : Nat) (q2 : Nat) (q45 : Nat) (q50 : Nat) (q5 : Nat) (q7 : Nat) (q8 : Nat)  : Met l yX11_octet (Cond.code yX11_octet cX11_octet 2 (some .int) :: tw_W) ({ frames := 3, cells := 0, slots := 0, locals := 61 }) (pc_ (dC, dI) (tyS cI cB cZ cJ cR) tb [(h0, .inr (14, [.ref q1, .int 0, .ref q9, .ref q18, .ref q27, .ref q42, .int 0, .int (-1), .ref q2, .ref q45, .ref q50, .ref q5])), (q5, .inr (11, [.ref q7])), (q7, .inr (1, [.ref q8, .int 0, .int 0, .int 0]))] sz [.ref h0, .int pa]) (qi_ (dC, dI) [(h0, .inr (14, [.ref q1, .int 0, .ref q9, .ref q18, .ref q27, .ref q42, .int 0, .int (-1), .ref q2, .ref q45, .ref q50, .ref q5])), (q5, .inr (11, [.ref q7])), (q7, .inr (1, [.ref q8, .int 0, .int 0, .int 0]))] sz (fun (r : Int32) (u : Unit) => r = (-1)) (fun (u : Unit) => [])) 0 0 (va_A [(h0, .inr (14, [.ref q1, .int 0, .ref q9, .ref q18, .ref q27, .ref q42, .int 0, .int (-1), .ref q2, .ref q45, .ref q50, .ref q5])), (q5, .inr (11, [.ref q7])), (q7, .inr (1, [.ref q8, .int 0, .int 0, .int 0]))] sz) := by
  refine Met.ofW (cc := cX11_octet) (maxL := 2) (ret := (some .int)) (by decide) rfl ?_
  intro p e s m args below meth c s₁ B hml hv
  obtain ⟨rfl, hsz, hP, hKK, hD0, hFx⟩ := hv
  have hK := hKK.1
  have hx := B.exec
  have hb := B.bytes
  have hr := B.returns
  have ht : ∀ w ∈ tw_W, w.before _ s = true := fun w h => atoms_spec (ws := Cond.code yX11_octet cX11_octet 2 (some .int) :: tw_W) B.pre w (List.mem_cons_of_mem _ h)
  have hown : s.vm.findClass RX11 = some m.cls := findClass_of_methodNamed B.named
  have hlocks := B.notSynchronized
  subst hsz
  unfold qi_
  have hD := hD0.self (sz := s.heap.size)
  generalize hAe : va_A [(h0, .inr (14, [.ref q1, .int 0, .ref q9, .ref q18, .ref q27, .ref q42, .int 0, .int (-1), .ref q2, .ref q45, .ref q50, .ref q5])), (q5, .inr (11, [.ref q7])), (q7, .inr (1, [.ref q8, .int 0, .int 0, .int 0]))] s.heap.size = A at hD hFx ⊢
  have hA : ∀ q : Nat, s.heap.size ≤ q → A q := fun q h => by rw [← hAe]; exact Or.inr h
  have hS : va_S A s.heap s.heap [] := va_S.rf
  have hP : va_P (dC, dI) vwCl [(h0, .inr (14, [.ref q1, .int 0, .ref q9, .ref q18, .ref q27, .ref q42, .int 0, .int (-1), .ref q2, .ref q45, .ref q50, .ref q5])), (q5, .inr (11, [.ref q7])), (q7, .inr (1, [.ref q8, .int 0, .int 0, .int 0]))] s.heap := hP
  have hl := lv_entry ([.ref h0, .int pa]) (n := 2) (Nat.le_of_ble_eq_true rfl)
  rw [lg_entry_eq]
  generalize (lg_sl ([.ref h0, .int pa]) ++ List.replicate (2 - (lg_sl ([.ref h0, .int pa])).length) Slot.unset).toArray = ls at hl ⊢
  have hl : lv_has ls 2 [(0, .ref h0), (1, .int pa)] := hl
  refine lv_aload_n hx hb dX11_octet_0 rfl (lv_at hl 0 rfl) ?_
  refine va_get (D := (dC, dI)) (ci := 14) (v := .ref q5) (C := RX11) (T := TX11) (N := 12) hx hb ht itX11 hown hK hP 0 rfl rfl 11 (by decide) (ht _ tw_102) (fun _ h9 => h9) rfl dX11_octet_1 ?_
  refine lv_iload_n hx hb dX11_octet_4 rfl (lv_at hl 1 rfl) ?_
  refine ca_i (wr := [(h0, .inr (14, [.ref q1, .int 0, .ref q9, .ref q18, .ref q27, .ref q42, .int 0, .int (-1), .ref q2, .ref q45, .ref q50, .ref q5]))]) (rn_V (n := 1) (As := [.int pa]) (rest := []) hx hb hml hown ht hKK hFx hP hD hS hA (c_X8_byteAt l dC dI cI cB cZ cJ cR tb s.heap.size q5 pa q7 q8) tw_264 tw_265 (by decide +kernel) rfl rfl ⟨Nat.le_of_ble_eq_true rfl, Nat.le_of_ble_eq_true rfl⟩ [1, 2] rfl (by decide) rfl rfl rfl rfl hl.1 rfl (Nat.le_of_ble_eq_true rfl) dX11_octet_5 ⟨Nat.le_of_ble_eq_true rfl, Nat.le_of_ble_eq_true rfl⟩) hP hD hS hA (isC := [1, 2]) (isR := [0]) rfl rfl (by decide) (by decide) (fun r2 u H locs hw1 hP hD hS => ?_)
  subst hw1
  have hP : va_P (dC, dI) vwCl [(h0, .inr (14, [.ref q1, .int 0, .ref q9, .ref q18, .ref q27, .ref q42, .int 0, .int (-1), .ref q2, .ref q45, .ref q50, .ref q5])), (q5, .inr (11, [.ref q7])), (q7, .inr (1, [.ref q8, .int 0, .int 0, .int 0]))] H := hP
  have hD : va_D A [(h0, .inr (14, [.ref q1, .int 0, .ref q9, .ref q18, .ref q27, .ref q42, .int 0, .int (-1), .ref q2, .ref q45, .ref q50, .ref q5])), (q5, .inr (11, [.ref q7])), (q7, .inr (1, [.ref q8, .int 0, .int 0, .int 0]))] := hD
  refine W.widen (k := 0) (n := 0) (by omega) (by omega) ?_
  have hP9 := hP.sub (ws' := []) [] rfl
  have hD9 := hD.sub (ws' := []) [] (by decide) rfl
  refine W.widen (k := 0) (n := 0) (by omega) (by omega) ?_
  exact W.iret (v := (-1)) hx hb hr (fun t ht9 hW => ⟨⟨(-1), (), rfl, rfl, by rw [ht9]; exact hP9, hD9⟩, hS.F ht9⟩) hS.2.2 dX11_octet_8
