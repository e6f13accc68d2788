theorem dX13_step_0 : decode cX13_step 0 = .ok (.aload_n 0, 1) := by decide +kernel
theorem dX13_step_1 : decode cX13_step 1 = .ok (.iconst 0, 1) := by decide +kernel
theorem dX13_step_2 : decode cX13_step 2 = .ok (.putfield 3, 3) := by decide +kernel
theorem tw_246 : (.fieldLink RX13 3 "PocketCompilerModel" "thrown" "I" : Cond) ∈ tw_W := tw_in (t8_10 (List.mem_of_getElem? (i := 157) rfl)) rfl
theorem dX13_step_5 : decode cX13_step 5 = .ok (.aload_n 0, 1) := by decide +kernel
theorem dX13_step_6 : decode cX13_step 6 = .ok (.getfield 636, 3) := by decide +kernel
theorem dX13_step_9 : decode cX13_step 9 = .ok (.ifCond .ne 7, 3) := by decide +kernel
theorem dX13_step_16 : decode cX13_step 16 = .ok (.aload_n 0, 1) := by decide +kernel
theorem dX13_step_17 : decode cX13_step 17 = .ok (.getfield 636, 3) := by decide +kernel
theorem dX13_step_20 : decode cX13_step 20 = .ok (.ireturn, 1) := by decide +kernel
theorem dX13_step_12 : decode cX13_step 12 = .ok (.aload_n 0, 1) := by decide +kernel
theorem dX13_step_13 : decode cX13_step 13 = .ok (.invokevirtual 648, 3) := by decide +kernel
theorem tw_247 : (.code yX13_doStep cX13_doStep 6 none : Cond) ∈ tw_W := tw_in (t8_12 (List.mem_of_getElem? (i := 97) rfl)) rfl
theorem tw_248 : ∀ w ∈ ([.methodLink RX13 648 yX13_doStep, .instanceMethod yX13_doStep, .selects RX13 yX13_doStep yX13_doStep, .initialized RX13] : List Cond), w ∈ tw_W := al_c (tw_in (t8_12 (List.mem_of_getElem? (i := 94) rfl)) rfl) (al_c (tw_in (t8_12 (List.mem_of_getElem? (i := 96) rfl)) rfl) (al_c (tw_in (t7_12 (q := (yX13_doStep, 124)) (List.mem_of_getElem? (i := 1) rfl)) rfl) (al_c (tw_in (t8_1 (List.mem_of_getElem? (i := 23) rfl)) rfl) al_n)))
theorem dX13_run_0 : decode cX13_run 0 = .ok (.aload_n 0, 1) := by decide +kernel
theorem dX13_run_1 : decode cX13_run 1 = .ok (.iload_n 1, 1) := by decide +kernel
theorem dX13_run_2 : decode cX13_run 2 = .ok (.ifCond .lt 10, 3) := by decide +kernel
theorem dX13_run_12 : decode cX13_run 12 = .ok (.iconst 1, 1) := by decide +kernel
theorem dX13_run_13 : decode cX13_run 13 = .ok (.goto 4, 3) := by decide +kernel
theorem dX13_run_17 : decode cX13_run 17 = .ok (.putfield 3, 3) := by decide +kernel
theorem dX13_run_20 : decode cX13_run 20 = .ok (.iconst 0, 1) := by decide +kernel
theorem dX13_run_21 : decode cX13_run 21 = .ok (.istore_n 2, 1) := by decide +kernel
theorem dX13_run_22 : decode cX13_run 22 = .ok (.aload_n 0, 1) := by decide +kernel
theorem dX13_run_23 : decode cX13_run 23 = .ok (.getfield 3, 3) := by decide +kernel
theorem dX13_run_26 : decode cX13_run 26 = .ok (.ifCond .ne 25, 3) := by decide +kernel
theorem dX13_run_51 : decode cX13_run 51 = .ok (.iload_n 2, 1) := by decide +kernel
theorem dX13_run_52 : decode cX13_run 52 = .ok (.ireturn, 1) := by decide +kernel
theorem dX13_run_5 : decode cX13_run 5 = .ok (.iload_n 1, 1) := by decide +kernel
theorem dX13_run_6 : decode cX13_run 6 = .ok (.ldc_w 651, 3) := by decide +kernel
theorem tw_249 : (.constant RX13 651 (50000) : Cond) ∈ tw_W := tw_in (t8_12 (List.mem_of_getElem? (i := 158) rfl)) rfl
theorem dX13_run_9 : decode cX13_run 9 = .ok (.if_icmp .le 7, 3) := by decide +kernel
theorem dX13_run_16 : decode cX13_run 16 = .ok (.iconst 0, 1) := by decide +kernel
theorem dX13_run_29 : decode cX13_run 29 = .ok (.iload_n 2, 1) := by decide +kernel
theorem dX13_run_30 : decode cX13_run 30 = .ok (.iload_n 1, 1) := by decide +kernel
theorem dX13_run_31 : decode cX13_run 31 = .ok (.if_icmp .ge 20, 3) := by decide +kernel
theorem dX13_run_34 : decode cX13_run 34 = .ok (.aload_n 0, 1) := by decide +kernel
theorem dX13_run_35 : decode cX13_run 35 = .ok (.getfield 636, 3) := by decide +kernel
theorem dX13_run_38 : decode cX13_run 38 = .ok (.ifCond .ne 13, 3) := by decide +kernel
theorem dX13_run_41 : decode cX13_run 41 = .ok (.aload_n 0, 1) := by decide +kernel
theorem dX13_run_42 : decode cX13_run 42 = .ok (.invokevirtual 648, 3) := by decide +kernel
theorem dX13_run_45 : decode cX13_run 45 = .ok (.iinc 2 1, 3) := by decide +kernel
theorem dX13_run_48 : decode cX13_run 48 = .ok (.goto (-26), 3) := by decide +kernel
theorem dX13_result_0 : decode cX13_result 0 = .ok (.aload_n 0, 1) := by decide +kernel
theorem dX13_result_1 : decode cX13_result 1 = .ok (.iconst 0, 1) := by decide +kernel
theorem dX13_result_2 : decode cX13_result 2 = .ok (.putfield 3, 3) := by decide +kernel
theorem dX13_result_5 : decode cX13_result 5 = .ok (.aload_n 0, 1) := by decide +kernel
theorem dX13_result_6 : decode cX13_result 6 = .ok (.getfield 636, 3) := by decide +kernel
theorem dX13_result_9 : decode cX13_result 9 = .ok (.iconst 1, 1) := by decide +kernel
theorem dX13_result_10 : decode cX13_result 10 = .ok (.if_icmp .ne 13, 3) := by decide +kernel
theorem dX13_result_23 : decode cX13_result 23 = .ok (.iconst 0, 1) := by decide +kernel
theorem dX13_result_24 : decode cX13_result 24 = .ok (.ireturn, 1) := by decide +kernel
theorem dX13_result_13 : decode cX13_result 13 = .ok (.aload_n 0, 1) := by decide +kernel
theorem dX13_result_14 : decode cX13_result 14 = .ok (.getfield 570, 3) := by decide +kernel
theorem dX13_result_17 : decode cX13_result 17 = .ok (.bipush 10, 2) := by decide +kernel
theorem dX13_result_19 : decode cX13_result 19 = .ok (.iaload, 1) := by decide +kernel
theorem dX13_result_20 : decode cX13_result 20 = .ok (.goto 4, 3) := by decide +kernel
theorem dX13_register_0 : decode cX13_register 0 = .ok (.aload_n 0, 1) := by decide +kernel
theorem dX13_register_1 : decode cX13_register 1 = .ok (.iload_n 1, 1) := by decide +kernel
theorem dX13_register_2 : decode cX13_register 2 = .ok (.ifCond .lt 9, 3) := by decide +kernel
theorem dX13_register_11 : decode cX13_register 11 = .ok (.iconst 1, 1) := by decide +kernel
theorem dX13_register_12 : decode cX13_register 12 = .ok (.goto 4, 3) := by decide +kernel
theorem dX13_register_16 : decode cX13_register 16 = .ok (.putfield 3, 3) := by decide +kernel
theorem dX13_register_19 : decode cX13_register 19 = .ok (.aload_n 0, 1) := by decide +kernel
theorem dX13_register_20 : decode cX13_register 20 = .ok (.getfield 3, 3) := by decide +kernel
theorem dX13_register_23 : decode cX13_register 23 = .ok (.ifCond .le 7, 3) := by decide +kernel
theorem dX13_register_26 : decode cX13_register 26 = .ok (.iconst 0, 1) := by decide +kernel
theorem dX13_register_27 : decode cX13_register 27 = .ok (.goto 22, 3) := by decide +kernel
theorem dX13_register_49 : decode cX13_register 49 = .ok (.ireturn, 1) := by decide +kernel
theorem dX13_register_5 : decode cX13_register 5 = .ok (.iload_n 1, 1) := by decide +kernel
theorem dX13_register_6 : decode cX13_register 6 = .ok (.bipush 32, 2) := by decide +kernel
theorem dX13_register_8 : decode cX13_register 8 = .ok (.if_icmp .le 7, 3) := by decide +kernel
theorem dX13_register_15 : decode cX13_register 15 = .ok (.iconst 0, 1) := by decide +kernel
theorem dX13_register_30 : decode cX13_register 30 = .ok (.iload_n 1, 1) := by decide +kernel
theorem dX13_register_31 : decode cX13_register 31 = .ok (.bipush 32, 2) := by decide +kernel
theorem dX13_register_33 : decode cX13_register 33 = .ok (.if_icmp .ne 10, 3) := by decide +kernel
theorem dX13_register_43 : decode cX13_register 43 = .ok (.aload_n 0, 1) := by decide +kernel
theorem dX13_register_44 : decode cX13_register 44 = .ok (.getfield 570, 3) := by decide +kernel
theorem dX13_register_47 : decode cX13_register 47 = .ok (.iload_n 1, 1) := by decide +kernel
theorem dX13_register_48 : decode cX13_register 48 = .ok (.iaload, 1) := by decide +kernel
theorem dX13_register_36 : decode cX13_register 36 = .ok (.aload_n 0, 1) := by decide +kernel
theorem dX13_register_37 : decode cX13_register 37 = .ok (.getfield 633, 3) := by decide +kernel
theorem dX13_register_40 : decode cX13_register 40 = .ok (.goto 9, 3) := by decide +kernel
theorem dX13_set_0 : decode cX13_set 0 = .ok (.aload_n 0, 1) := by decide +kernel
theorem dX13_set_1 : decode cX13_set 1 = .ok (.iload_n 1, 1) := by decide +kernel
theorem dX13_set_2 : decode cX13_set 2 = .ok (.ifCond .lt 9, 3) := by decide +kernel
theorem dX13_set_11 : decode cX13_set 11 = .ok (.iconst 1, 1) := by decide +kernel
theorem dX13_set_12 : decode cX13_set 12 = .ok (.goto 4, 3) := by decide +kernel
theorem dX13_set_16 : decode cX13_set 16 = .ok (.putfield 3, 3) := by decide +kernel
theorem dX13_set_19 : decode cX13_set 19 = .ok (.aload_n 0, 1) := by decide +kernel
theorem dX13_set_20 : decode cX13_set 20 = .ok (.getfield 3, 3) := by decide +kernel
theorem dX13_set_23 : decode cX13_set 23 = .ok (.ifCond .le 4, 3) := by decide +kernel
theorem dX13_set_26 : decode cX13_set 26 = .ok (.return_, 1) := by decide +kernel
theorem dX13_set_5 : decode cX13_set 5 = .ok (.iload_n 1, 1) := by decide +kernel
theorem dX13_set_6 : decode cX13_set 6 = .ok (.bipush 32, 2) := by decide +kernel
theorem dX13_set_8 : decode cX13_set 8 = .ok (.if_icmp .le 7, 3) := by decide +kernel
theorem dX13_set_15 : decode cX13_set 15 = .ok (.iconst 0, 1) := by decide +kernel
theorem dX13_set_27 : decode cX13_set 27 = .ok (.iload_n 1, 1) := by decide +kernel
theorem dX13_set_28 : decode cX13_set 28 = .ok (.bipush 32, 2) := by decide +kernel
theorem dX13_set_30 : decode cX13_set 30 = .ok (.if_icmp .ne 11, 3) := by decide +kernel
theorem dX13_set_41 : decode cX13_set 41 = .ok (.iload_n 1, 1) := by decide +kernel
theorem dX13_set_42 : decode cX13_set 42 = .ok (.ifCond .le 10, 3) := by decide +kernel
theorem dX13_set_52 : decode cX13_set 52 = .ok (.aload_n 0, 1) := by decide +kernel
theorem dX13_set_53 : decode cX13_set 53 = .ok (.iconst 0, 1) := by decide +kernel
theorem dX13_set_54 : decode cX13_set 54 = .ok (.putfield 636, 3) := by decide +kernel
theorem dX13_set_57 : decode cX13_set 57 = .ok (.return_, 1) := by decide +kernel
theorem dX13_set_45 : decode cX13_set 45 = .ok (.aload_n 0, 1) := by decide +kernel
theorem dX13_set_46 : decode cX13_set 46 = .ok (.getfield 570, 3) := by decide +kernel
theorem dX13_set_49 : decode cX13_set 49 = .ok (.iload_n 1, 1) := by decide +kernel
theorem dX13_set_50 : decode cX13_set 50 = .ok (.iload_n 2, 1) := by decide +kernel
theorem dX13_set_51 : decode cX13_set 51 = .ok (.iastore, 1) := by decide +kernel
theorem dX13_set_33 : decode cX13_set 33 = .ok (.aload_n 0, 1) := by decide +kernel
theorem dX13_set_34 : decode cX13_set 34 = .ok (.iload_n 2, 1) := by decide +kernel
theorem dX13_set_35 : decode cX13_set 35 = .ok (.putfield 633, 3) := by decide +kernel
theorem dX13_set_38 : decode cX13_set 38 = .ok (.goto 14, 3) := by decide +kernel
theorem dX13_word_0 : decode cX13_word 0 = .ok (.aload_n 0, 1) := by decide +kernel
theorem dX13_word_1 : decode cX13_word 1 = .ok (.iload_n 1, 1) := by decide +kernel
theorem dX13_word_2 : decode cX13_word 2 = .ok (.iconst 3, 1) := by decide +kernel
theorem dX13_word_3 : decode cX13_word 3 = .ok (.iand, 1) := by decide +kernel
theorem dX13_word_4 : decode cX13_word 4 = .ok (.ifCond .eq 7, 3) := by decide +kernel
theorem dX13_word_11 : decode cX13_word 11 = .ok (.aload_n 0, 1) := by decide +kernel
theorem dX13_word_12 : decode cX13_word 12 = .ok (.iload_n 1, 1) := by decide +kernel
theorem dX13_word_13 : decode cX13_word 13 = .ok (.iconst 4, 1) := by decide +kernel
theorem dX13_word_14 : decode cX13_word 14 = .ok (.invokevirtual 656, 3) := by decide +kernel
theorem dX13_word_17 : decode cX13_word 17 = .ok (.ifCond .ne 7, 3) := by decide +kernel
theorem dX13_word_24 : decode cX13_word 24 = .ok (.iconst 0, 1) := by decide +kernel
theorem dX13_word_25 : decode cX13_word 25 = .ok (.putfield 3, 3) := by decide +kernel
theorem dX13_word_28 : decode cX13_word 28 = .ok (.aload_n 0, 1) := by decide +kernel
theorem dX13_word_29 : decode cX13_word 29 = .ok (.getfield 3, 3) := by decide +kernel
theorem dX13_word_32 : decode cX13_word 32 = .ok (.ifCond .le 7, 3) := by decide +kernel
theorem dX13_word_39 : decode cX13_word 39 = .ok (.aload_n 0, 1) := by decide +kernel
theorem dX13_word_40 : decode cX13_word 40 = .ok (.getfield 502, 3) := by decide +kernel
theorem dX13_word_43 : decode cX13_word 43 = .ok (.iload_n 1, 1) := by decide +kernel
theorem dX13_word_44 : decode cX13_word 44 = .ok (.iconst 2, 1) := by decide +kernel
theorem dX13_word_45 : decode cX13_word 45 = .ok (.ishr, 1) := by decide +kernel
theorem dX13_word_46 : decode cX13_word 46 = .ok (.iaload, 1) := by decide +kernel
theorem dX13_word_47 : decode cX13_word 47 = .ok (.ireturn, 1) := by decide +kernel
theorem dX13_word_20 : decode cX13_word 20 = .ok (.iconst 2, 1) := by decide +kernel
theorem dX13_word_21 : decode cX13_word 21 = .ok (.goto 4, 3) := by decide +kernel
theorem dX13_word_35 : decode cX13_word 35 = .ok (.iconst 0, 1) := by decide +kernel
theorem dX13_word_36 : decode cX13_word 36 = .ok (.goto 11, 3) := by decide +kernel
theorem dX13_word_7 : decode cX13_word 7 = .ok (.iconst 1, 1) := by decide +kernel
theorem dX13_word_8 : decode cX13_word 8 = .ok (.goto 17, 3) := by decide +kernel
theorem dX13_poke_0 : decode cX13_poke 0 = .ok (.aload_n 0, 1) := by decide +kernel
theorem dX13_poke_1 : decode cX13_poke 1 = .ok (.iload_n 1, 1) := by decide +kernel
theorem dX13_poke_2 : decode cX13_poke 2 = .ok (.iconst 3, 1) := by decide +kernel
theorem dX13_poke_3 : decode cX13_poke 3 = .ok (.iand, 1) := by decide +kernel
theorem dX13_poke_4 : decode cX13_poke 4 = .ok (.ifCond .eq 7, 3) := by decide +kernel
theorem dX13_poke_11 : decode cX13_poke 11 = .ok (.aload_n 0, 1) := by decide +kernel
theorem dX13_poke_12 : decode cX13_poke 12 = .ok (.iload_n 1, 1) := by decide +kernel
theorem dX13_poke_13 : decode cX13_poke 13 = .ok (.iconst 4, 1) := by decide +kernel
theorem dX13_poke_14 : decode cX13_poke 14 = .ok (.invokevirtual 656, 3) := by decide +kernel
theorem dX13_poke_17 : decode cX13_poke 17 = .ok (.ifCond .ne 7, 3) := by decide +kernel
theorem dX13_poke_24 : decode cX13_poke 24 = .ok (.iconst 0, 1) := by decide +kernel
theorem dX13_poke_25 : decode cX13_poke 25 = .ok (.putfield 3, 3) := by decide +kernel
theorem dX13_poke_28 : decode cX13_poke 28 = .ok (.aload_n 0, 1) := by decide +kernel
theorem dX13_poke_29 : decode cX13_poke 29 = .ok (.getfield 3, 3) := by decide +kernel
theorem dX13_poke_32 : decode cX13_poke 32 = .ok (.ifCond .ne 12, 3) := by decide +kernel
theorem dX13_poke_35 : decode cX13_poke 35 = .ok (.aload_n 0, 1) := by decide +kernel
theorem dX13_poke_36 : decode cX13_poke 36 = .ok (.getfield 502, 3) := by decide +kernel
theorem dX13_poke_39 : decode cX13_poke 39 = .ok (.iload_n 1, 1) := by decide +kernel
theorem dX13_poke_40 : decode cX13_poke 40 = .ok (.iconst 2, 1) := by decide +kernel
theorem dX13_poke_41 : decode cX13_poke 41 = .ok (.ishr, 1) := by decide +kernel
theorem dX13_poke_42 : decode cX13_poke 42 = .ok (.iload_n 2, 1) := by decide +kernel
theorem dX13_poke_43 : decode cX13_poke 43 = .ok (.iastore, 1) := by decide +kernel
theorem dX13_poke_44 : decode cX13_poke 44 = .ok (.return_, 1) := by decide +kernel
theorem dX13_poke_20 : decode cX13_poke 20 = .ok (.iconst 2, 1) := by decide +kernel
theorem dX13_poke_21 : decode cX13_poke 21 = .ok (.goto 4, 3) := by decide +kernel
theorem dX13_poke_7 : decode cX13_poke 7 = .ok (.iconst 1, 1) := by decide +kernel
theorem dX13_poke_8 : decode cX13_poke 8 = .ok (.goto 17, 3) := by decide +kernel
theorem dX13_put_0 : decode cX13_put 0 = .ok (.aload_n 0, 1) := by decide +kernel
theorem dX13_put_1 : decode cX13_put 1 = .ok (.iload_n 1, 1) := by decide +kernel
theorem dX13_put_2 : decode cX13_put 2 = .ok (.ifCond .lt 18, 3) := by decide +kernel
theorem dX13_put_20 : decode cX13_put 20 = .ok (.iconst 1, 1) := by decide +kernel
theorem dX13_put_21 : decode cX13_put 21 = .ok (.goto 4, 3) := by decide +kernel
theorem dX13_put_25 : decode cX13_put 25 = .ok (.putfield 3, 3) := by decide +kernel
theorem dX13_put_28 : decode cX13_put 28 = .ok (.aload_n 0, 1) := by decide +kernel
theorem dX13_put_29 : decode cX13_put 29 = .ok (.getfield 3, 3) := by decide +kernel
theorem dX13_put_32 : decode cX13_put 32 = .ok (.ifCond .le 7, 3) := by decide +kernel
theorem dX13_put_35 : decode cX13_put 35 = .ok (.iconst 0, 1) := by decide +kernel
theorem dX13_put_36 : decode cX13_put 36 = .ok (.goto 9, 3) := by decide +kernel
theorem dX13_put_45 : decode cX13_put 45 = .ok (.ireturn, 1) := by decide +kernel
theorem dX13_put_5 : decode cX13_put 5 = .ok (.iload_n 1, 1) := by decide +kernel
theorem dX13_put_6 : decode cX13_put 6 = .ok (.aload_n 0, 1) := by decide +kernel
theorem dX13_put_7 : decode cX13_put 7 = .ok (.getfield 642, 3) := by decide +kernel
theorem dX13_put_10 : decode cX13_put 10 = .ok (.if_icmp .ge 10, 3) := by decide +kernel
theorem dX13_put_13 : decode cX13_put 13 = .ok (.iload_n 1, 1) := by decide +kernel
theorem dX13_put_14 : decode cX13_put 14 = .ok (.sipush 200, 3) := by decide +kernel
theorem dX13_put_17 : decode cX13_put 17 = .ok (.if_icmp .lt 7, 3) := by decide +kernel
theorem dX13_put_24 : decode cX13_put 24 = .ok (.iconst 0, 1) := by decide +kernel
theorem dX13_put_39 : decode cX13_put 39 = .ok (.aload_n 0, 1) := by decide +kernel
theorem dX13_put_40 : decode cX13_put 40 = .ok (.getfield 573, 3) := by decide +kernel
theorem dX13_put_43 : decode cX13_put 43 = .ok (.iload_n 1, 1) := by decide +kernel
theorem dX13_put_44 : decode cX13_put 44 = .ok (.iaload, 1) := by decide +kernel
theorem dX13_give_0 : decode cX13_give 0 = .ok (.aload_n 0, 1) := by decide +kernel
theorem dX13_give_1 : decode cX13_give 1 = .ok (.iconst 0, 1) := by decide +kernel
theorem dX13_give_2 : decode cX13_give 2 = .ok (.putfield 3, 3) := by decide +kernel
theorem dX13_give_5 : decode cX13_give 5 = .ok (.aload_n 0, 1) := by decide +kernel
theorem dX13_give_6 : decode cX13_give 6 = .ok (.getfield 630, 3) := by decide +kernel
theorem dX13_give_9 : decode cX13_give 9 = .ok (.bipush 64, 2) := by decide +kernel
theorem dX13_give_11 : decode cX13_give 11 = .ok (.if_icmp .ne 5, 3) := by decide +kernel
theorem dX13_give_16 : decode cX13_give 16 = .ok (.aload_n 0, 1) := by decide +kernel
theorem dX13_give_17 : decode cX13_give 17 = .ok (.getfield 567, 3) := by decide +kernel
theorem dX13_give_20 : decode cX13_give 20 = .ok (.aload_n 0, 1) := by decide +kernel
theorem dX13_give_21 : decode cX13_give 21 = .ok (.getfield 630, 3) := by decide +kernel
theorem dX13_give_24 : decode cX13_give 24 = .ok (.iload_n 1, 1) := by decide +kernel
theorem dX13_give_25 : decode cX13_give 25 = .ok (.iastore, 1) := by decide +kernel
theorem dX13_give_26 : decode cX13_give 26 = .ok (.aload_n 0, 1) := by decide +kernel
theorem dX13_give_27 : decode cX13_give 27 = .ok (.dup, 1) := by decide +kernel
theorem dX13_give_28 : decode cX13_give 28 = .ok (.getfield 630, 3) := by decide +kernel
theorem dX13_give_31 : decode cX13_give 31 = .ok (.iconst 1, 1) := by decide +kernel
theorem dX13_give_32 : decode cX13_give 32 = .ok (.iadd, 1) := by decide +kernel
theorem dX13_give_33 : decode cX13_give 33 = .ok (.putfield 630, 3) := by decide +kernel
theorem dX13_give_36 : decode cX13_give 36 = .ok (.aload_n 0, 1) := by decide +kernel
theorem dX13_give_37 : decode cX13_give 37 = .ok (.getfield 630, 3) := by decide +kernel
theorem dX13_give_40 : decode cX13_give 40 = .ok (.ireturn, 1) := by decide +kernel
theorem dX13_give_14 : decode cX13_give 14 = .ok (.iconst (-1), 1) := by decide +kernel
theorem dX13_give_15 : decode cX13_give 15 = .ok (.ireturn, 1) := by decide +kernel
theorem dX13_forget_0 : decode cX13_forget 0 = .ok (.aload_n 0, 1) := by decide +kernel
theorem dX13_forget_1 : decode cX13_forget 1 = .ok (.iconst 0, 1) := by decide +kernel
theorem dX13_forget_2 : decode cX13_forget 2 = .ok (.putfield 3, 3) := by decide +kernel
theorem dX13_forget_5 : decode cX13_forget 5 = .ok (.aload_n 0, 1) := by decide +kernel
theorem dX13_forget_6 : decode cX13_forget 6 = .ok (.getfield 630, 3) := by decide +kernel
theorem dX13_forget_9 : decode cX13_forget 9 = .ok (.istore_n 1, 1) := by decide +kernel
theorem dX13_forget_10 : decode cX13_forget 10 = .ok (.aload_n 0, 1) := by decide +kernel
theorem dX13_forget_11 : decode cX13_forget 11 = .ok (.iconst 0, 1) := by decide +kernel
theorem dX13_forget_12 : decode cX13_forget 12 = .ok (.putfield 630, 3) := by decide +kernel
theorem dX13_forget_15 : decode cX13_forget 15 = .ok (.iload_n 1, 1) := by decide +kernel
theorem dX13_forget_16 : decode cX13_forget 16 = .ok (.ireturn, 1) := by decide +kernel
theorem dX13_four_0 : decode cX13_four 0 = .ok (.bipush 24, 2) := by decide +kernel
theorem dX13_four_2 : decode cX13_four 2 = .ok (.istore_n 2, 1) := by decide +kernel
theorem dX13_four_3 : decode cX13_four 3 = .ok (.iload_n 2, 1) := by decide +kernel
theorem dX13_four_4 : decode cX13_four 4 = .ok (.ifCond .lt 35, 3) := by decide +kernel
theorem dX13_four_39 : decode cX13_four 39 = .ok (.return_, 1) := by decide +kernel
theorem dX13_four_7 : decode cX13_four 7 = .ok (.aload_n 0, 1) := by decide +kernel
theorem dX13_four_8 : decode cX13_four 8 = .ok (.getfield 14, 3) := by decide +kernel
theorem tw_250 : (.fieldLink RX13 14 "PocketCompilerModel" "tape" "[I" : Cond) ∈ tw_W := tw_in (t8_10 (List.mem_of_getElem? (i := 158) rfl)) rfl
theorem dX13_four_11 : decode cX13_four 11 = .ok (.aload_n 0, 1) := by decide +kernel
theorem dX13_four_12 : decode cX13_four 12 = .ok (.getfield 7, 3) := by decide +kernel
theorem tw_251 : (.fieldLink RX13 7 "PocketCompilerModel" "taped" "I" : Cond) ∈ tw_W := tw_in (t8_10 (List.mem_of_getElem? (i := 159) rfl)) rfl
theorem dX13_four_15 : decode cX13_four 15 = .ok (.iload_n 1, 1) := by decide +kernel
theorem dX13_four_16 : decode cX13_four 16 = .ok (.iload_n 2, 1) := by decide +kernel
theorem dX13_four_17 : decode cX13_four 17 = .ok (.ishr, 1) := by decide +kernel
theorem dX13_four_18 : decode cX13_four 18 = .ok (.sipush 255, 3) := by decide +kernel
theorem dX13_four_21 : decode cX13_four 21 = .ok (.iand, 1) := by decide +kernel
theorem dX13_four_22 : decode cX13_four 22 = .ok (.iastore, 1) := by decide +kernel
theorem dX13_four_23 : decode cX13_four 23 = .ok (.aload_n 0, 1) := by decide +kernel
theorem dX13_four_24 : decode cX13_four 24 = .ok (.dup, 1) := by decide +kernel
theorem dX13_four_25 : decode cX13_four 25 = .ok (.getfield 7, 3) := by decide +kernel
theorem dX13_four_28 : decode cX13_four 28 = .ok (.iconst 1, 1) := by decide +kernel
theorem dX13_four_29 : decode cX13_four 29 = .ok (.iadd, 1) := by decide +kernel
theorem dX13_four_30 : decode cX13_four 30 = .ok (.putfield 7, 3) := by decide +kernel
theorem dX13_four_33 : decode cX13_four 33 = .ok (.iinc 2 (-8), 3) := by decide +kernel
theorem dX13_four_36 : decode cX13_four 36 = .ok (.goto (-33), 3) := by decide +kernel
theorem dX13_feed_0 : decode cX13_feed 0 = .ok (.aload_n 0, 1) := by decide +kernel
theorem dX13_feed_1 : decode cX13_feed 1 = .ok (.iconst 0, 1) := by decide +kernel
theorem dX13_feed_2 : decode cX13_feed 2 = .ok (.putfield 3, 3) := by decide +kernel
theorem dX13_feed_5 : decode cX13_feed 5 = .ok (.aload_n 0, 1) := by decide +kernel
theorem dX13_feed_6 : decode cX13_feed 6 = .ok (.getfield 7, 3) := by decide +kernel
theorem dX13_feed_9 : decode cX13_feed 9 = .ok (.bipush 20, 2) := by decide +kernel
theorem dX13_feed_11 : decode cX13_feed 11 = .ok (.iadd, 1) := by decide +kernel
theorem dX13_feed_12 : decode cX13_feed 12 = .ok (.sipush 4000, 3) := by decide +kernel
theorem dX13_feed_15 : decode cX13_feed 15 = .ok (.if_icmp .le 5, 3) := by decide +kernel
theorem dX13_feed_20 : decode cX13_feed 20 = .ok (.aload_n 0, 1) := by decide +kernel
theorem dX13_feed_21 : decode cX13_feed 21 = .ok (.iload_n 1, 1) := by decide +kernel
theorem dX13_feed_22 : decode cX13_feed 22 = .ok (.invokevirtual 10, 3) := by decide +kernel
theorem tw_252 : (.code yX13_four cX13_four 3 none : Cond) ∈ tw_W := tw_in (t8_9 (List.mem_of_getElem? (i := 36) rfl)) rfl
theorem tw_253 : ∀ w ∈ ([.methodLink RX13 10 yX13_four, .instanceMethod yX13_four, .selects RX13 yX13_four yX13_four, .initialized RX13] : List Cond), w ∈ tw_W := al_c (tw_in (t8_9 (List.mem_of_getElem? (i := 32) rfl)) rfl) (al_c (tw_in (t8_9 (List.mem_of_getElem? (i := 34) rfl)) rfl) (al_c (tw_in (t7_7 (q := (yX13_four, 124)) (List.mem_of_getElem? (i := 12) rfl)) rfl) (al_c (tw_in (t8_1 (List.mem_of_getElem? (i := 23) rfl)) rfl) al_n)))
theorem dX13_feed_25 : decode cX13_feed 25 = .ok (.aload_n 0, 1) := by decide +kernel
theorem dX13_feed_26 : decode cX13_feed 26 = .ok (.iload_n 2, 1) := by decide +kernel
theorem dX13_feed_27 : decode cX13_feed 27 = .ok (.invokevirtual 10, 3) := by decide +kernel
theorem dX13_feed_30 : decode cX13_feed 30 = .ok (.aload_n 0, 1) := by decide +kernel
theorem dX13_feed_31 : decode cX13_feed 31 = .ok (.iload_n 3, 1) := by decide +kernel
theorem dX13_feed_32 : decode cX13_feed 32 = .ok (.invokevirtual 10, 3) := by decide +kernel
theorem dX13_feed_35 : decode cX13_feed 35 = .ok (.aload_n 0, 1) := by decide +kernel
theorem dX13_feed_36 : decode cX13_feed 36 = .ok (.iload 4, 2) := by decide +kernel
theorem dX13_feed_38 : decode cX13_feed 38 = .ok (.invokevirtual 10, 3) := by decide +kernel
theorem dX13_feed_41 : decode cX13_feed 41 = .ok (.aload_n 0, 1) := by decide +kernel
theorem dX13_feed_42 : decode cX13_feed 42 = .ok (.iload 5, 2) := by decide +kernel
theorem dX13_feed_44 : decode cX13_feed 44 = .ok (.invokevirtual 10, 3) := by decide +kernel
theorem dX13_feed_47 : decode cX13_feed 47 = .ok (.iconst 1, 1) := by decide +kernel
theorem dX13_feed_48 : decode cX13_feed 48 = .ok (.ireturn, 1) := by decide +kernel
theorem dX13_feed_18 : decode cX13_feed 18 = .ok (.iconst 0, 1) := by decide +kernel
theorem dX13_feed_19 : decode cX13_feed 19 = .ok (.ireturn, 1) := by decide +kernel
theorem dX13_end_0 : decode cX13_end 0 = .ok (.aload_n 0, 1) := by decide +kernel
theorem dX13_end_1 : decode cX13_end 1 = .ok (.iconst 0, 1) := by decide +kernel
theorem dX13_end_2 : decode cX13_end 2 = .ok (.putfield 3, 3) := by decide +kernel
theorem dX13_end_5 : decode cX13_end 5 = .ok (.iload_n 1, 1) := by decide +kernel
theorem dX13_end_6 : decode cX13_end 6 = .ok (.ifCond .lt 11, 3) := by decide +kernel
theorem dX13_end_17 : decode cX13_end 17 = .ok (.iconst 0, 1) := by decide +kernel
theorem dX13_end_18 : decode cX13_end 18 = .ok (.ireturn, 1) := by decide +kernel
theorem dX13_end_9 : decode cX13_end 9 = .ok (.iload_n 1, 1) := by decide +kernel
theorem dX13_end_10 : decode cX13_end 10 = .ok (.aload_n 0, 1) := by decide +kernel
theorem dX13_end_11 : decode cX13_end 11 = .ok (.getfield 7, 3) := by decide +kernel
theorem dX13_end_14 : decode cX13_end 14 = .ok (.if_icmp .le 5, 3) := by decide +kernel
theorem dX13_end_19 : decode cX13_end 19 = .ok (.aload_n 0, 1) := by decide +kernel
theorem dX13_end_20 : decode cX13_end 20 = .ok (.iload_n 1, 1) := by decide +kernel
theorem dX13_end_21 : decode cX13_end 21 = .ok (.putfield 7, 3) := by decide +kernel
theorem dX13_end_24 : decode cX13_end 24 = .ok (.iconst 1, 1) := by decide +kernel
theorem dX13_end_25 : decode cX13_end 25 = .ok (.ireturn, 1) := by decide +kernel
theorem om_d51b828025 {x0 : Int} (h0 : 0 ≤ x0 ∧ x0 ≤ 1900000000) : 0 ≤ x0 ∧ x0 ≤ 2000000000 := by omega
set_option maxHeartbeats 4000000 in
set_option maxRecDepth 100000 in
theorem c_m_step (l : Launch) (dC : Nat → ClassId) (dI : Nat → Nat → Nat) (cI cB cZ cJ cR : ClassId) (tb : Nat → Nat) (sz : Nat) (ad : Nat → Nat) (N : Nat) (v : MS)  (zN : (256 : Int) ≤ (N : Int) ∧ (N : Int) ≤ 4096) (zg : 0 ≤ (v.1 0 94).toInt ∧ (v.1 0 94).toInt ≤ 64) (zu : 0 ≤ (v.1 0 95).toInt ∧ (v.1 0 95).toInt ≤ 1900000000) (zp : 0 ≤ (v.1 0 102).toInt ∧ (v.1 0 102).toInt ≤ 1900000000) : Met l yX13_step (Cond.code yX13_step cX13_step 1 (some .int) :: tw_W) ({ frames := 3, cells := 0, slots := 0, locals := 76 }) (pc_ (dC, dI) (tyS cI cB cZ cJ cR) tb (mW ad N cI cZ cJ v) sz [.ref (ad 0)]) (qi_ (dC, dI) (mW ad N cI cZ cJ v) sz (fun (r : Int32) (u : MS) => FG [0, 95, 98, 99, 100, 102] [0, 96, 97, 101] v u ∧ ((v.1 0 95).toInt ≤ (u.1 0 95).toInt ∧ (u.1 0 95).toInt ≤ (v.1 0 95).toInt + 1) ∧ ((v.1 0 102).toInt ≤ (u.1 0 102).toInt ∧ (u.1 0 102).toInt ≤ (v.1 0 102).toInt + 1)) (fun (u : MS) => (mW ad N cI cZ cJ u))) 0 0 (va_A (mW ad N cI cZ cJ v) sz) := by
  refine Met.ofW (cc := cX13_step) (maxL := 1) (ret := (some .int)) (by decide) rfl ?_
  intro p e s m args below meth c s₁ B hml hv
  obtain ⟨rfl, hsz, hP, hKK, hD0, hFx⟩ := hv
  have hK := hKK.1
  have hx := B.exec
  have hb := B.bytes
  have hr := B.returns
  have ht : ∀ w ∈ tw_W, w.before _ s = true := fun w h => atoms_spec (ws := Cond.code yX13_step cX13_step 1 (some .int) :: tw_W) B.pre w (List.mem_cons_of_mem _ h)
  have hown : s.vm.findClass RX13 = some m.cls := findClass_of_methodNamed B.named
  have hlocks := B.notSynchronized
  subst hsz
  unfold qi_
  have hD := hD0.self (sz := s.heap.size)
  generalize hAe : va_A (mW ad N cI cZ cJ v) s.heap.size = A at hD hFx ⊢
  have hA : ∀ q : Nat, s.heap.size ≤ q → A q := fun q h => by rw [← hAe]; exact Or.inr h
  have hS : va_S A s.heap s.heap [] := va_S.rf
  have hl := lv_entry ([.ref (ad 0)]) (n := 1) (Nat.le_of_ble_eq_true rfl)
  rw [lg_entry_eq]
  generalize (lg_sl ([.ref (ad 0)]) ++ List.replicate (1 - (lg_sl ([.ref (ad 0)])).length) Slot.unset).toArray = ls at hl ⊢
  have hl : lv_has ls 1 [(0, .ref (ad 0))] := hl
  refine lv_aload_n hx hb dX13_step_0 rfl (lv_at hl 0 rfl) ?_
  refine lv_iconst (v := 0) hx hb dX13_step_1 (by decide) ?_
  refine va_put (D := (dC, dI)) (ci := 16) (fs := mF ad v) (v := .int 0) (ty := .int) (C := RX13) (T := TX13) (N := 124) hx hb ht itX13 tyX13 tyX13_ok nmX13 hown hK hP hD hS 0 rfl rfl 0 (by decide) (ht _ tw_246) (fun _ h9 => h9) rfl (by decide +kernel) rfl rfl (Nat.le_of_ble_eq_true rfl) dX13_step_2 (fun H locs hP hD hS => ?_)
  have hP := cP_ (mw_0 ad N cI cZ cJ v 0) hP
  have hD := cD_ (mw_0 ad N cI cZ cJ v 0) hD
  refine lv_aload_n hx hb dX13_step_5 rfl (lv_at hl 0 rfl) ?_
  refine va_get (D := (dC, dI)) (ci := 16) (fs := mF ad (wA v 0 0 0)) (v := .int (v.1 0 99)) (C := RX13) (T := TX13) (N := 124) hx hb ht itX13 hown hK hP 0 rfl rfl 99 (by decide) (ht _ tw_210) (fun _ h9 => h9) rfl dX13_step_6 ?_
  refine lv_if_ne (tgt := 16) hx hb dX13_step_9 (by decide) (fun h1 => ?_) (fun h1 => ?_)
  · have z2 : (v.1 0 99).toInt ≠ (0 : Int) := ne_z rfl (show (0 : Int32).toInt = (0 : Int) by decide) h1
    refine lv_aload_n hx hb dX13_step_16 rfl (lv_at hl 0 rfl) ?_
    refine va_get (D := (dC, dI)) (ci := 16) (fs := mF ad (wA v 0 0 0)) (v := .int (v.1 0 99)) (C := RX13) (T := TX13) (N := 124) hx hb ht itX13 hown hK hP 0 rfl rfl 99 (by decide) (ht _ tw_210) (fun _ h9 => h9) rfl dX13_step_17 ?_
    exact W.iret (v := (v.1 0 99)) hx hb hr (fun t ht9 hW => ⟨⟨(v.1 0 99), (wA v 0 0 0), rfl, ⟨(FG.f (FG.rf _) 0 (by decide)), (show (v.1 0 95).toInt ≤ (v.1 0 95).toInt ∧ (v.1 0 95).toInt ≤ (v.1 0 95).toInt + 1 from om_b79dd2a91d), (show (v.1 0 102).toInt ≤ (v.1 0 102).toInt ∧ (v.1 0 102).toInt ≤ (v.1 0 102).toInt + 1 from om_b79dd2a91d)⟩, by rw [ht9]; exact hP, hD⟩, hS.F ht9⟩) hS.2.2 dX13_step_20
  · have z3 : (v.1 0 99).toInt = (0 : Int) := eq_z rfl (show (0 : Int32).toInt = (0 : Int) by decide) h1
    refine lv_aload_n hx hb dX13_step_12 rfl (lv_at hl 0 rfl) ?_
    refine cu_v (rn_V (n := 0) (As := []) (rest := []) hx hb hml hown ht hKK hFx hP hD hS hA (c_m_doStep l dC dI cI cB cZ cJ cR tb H.size ad N (wA v 0 0 0)  (show (256 : Int) ≤ (N : Int) ∧ (N : Int) ≤ 4096 from (om_c42fe0fb85 zN)) (show 0 ≤ (v.1 0 94).toInt ∧ (v.1 0 94).toInt ≤ 64 from (om_0522002ca7 zg)) (show 0 ≤ (v.1 0 95).toInt ∧ (v.1 0 95).toInt ≤ 2000000000 from (om_d51b828025 zu)) (show 0 ≤ (v.1 0 102).toInt ∧ (v.1 0 102).toInt ≤ 2000000000 from (om_d51b828025 zp))) tw_247 tw_248 (by decide +kernel) rfl rfl ⟨Nat.le_of_ble_eq_true rfl, Nat.le_of_ble_eq_true rfl⟩ (List.range (mW ad N cI cZ cJ (wA v 0 0 0)).length) (rg_map _) (mW_nd _ _ _ _ _ _) rfl rfl rfl rfl hl.1 rfl (Nat.le_of_ble_eq_true rfl) dX13_step_13 ⟨Nat.le_of_ble_eq_true rfl, Nat.le_of_ble_eq_true rfl⟩) hP hD hS hA (fun u5 H locs hw4 hP hD hS => ?_)
    obtain ⟨fr4, pu4, pp4⟩ := hw4
    have pu4 : (v.1 0 95).toInt ≤ (u5.1 0 95).toInt ∧ (u5.1 0 95).toInt ≤ (v.1 0 95).toInt + 1 := pu4
    have pp4 : (v.1 0 102).toInt ≤ (u5.1 0 102).toInt ∧ (u5.1 0 102).toInt ≤ (v.1 0 102).toInt + 1 := pp4
    refine W.widen (k := 0) (n := 0) (Nat.le_refl _) (Nat.le_refl _) ?_
    refine lv_aload_n hx hb dX13_step_16 rfl (lv_at hl 0 rfl) ?_
    refine va_get (D := (dC, dI)) (ci := 16) (fs := mF ad u5) (v := .int (u5.1 0 99)) (C := RX13) (T := TX13) (N := 124) hx hb ht itX13 hown hK hP 0 rfl rfl 99 (by decide) (ht _ tw_210) (fun _ h9 => h9) rfl dX13_step_17 ?_
    exact W.iret (v := (u5.1 0 99)) hx hb hr (fun t ht9 hW => ⟨⟨(u5.1 0 99), u5, rfl, ⟨(FG.tr (FG.f (FG.rf _) 0 (by decide)) (FG.up fr4 (by decide) (by decide))), (show (v.1 0 95).toInt ≤ (u5.1 0 95).toInt ∧ (u5.1 0 95).toInt ≤ (v.1 0 95).toInt + 1 from (om_e79f107f26 pu4)), (show (v.1 0 102).toInt ≤ (u5.1 0 102).toInt ∧ (u5.1 0 102).toInt ≤ (v.1 0 102).toInt + 1 from (om_e79f107f26 pp4))⟩, by rw [ht9]; exact hP, hD⟩, hS.F ht9⟩) hS.2.2 dX13_step_20
theorem om_7b7784315d {x0 x1 : Int} : 0 ≤ (0 : Int) ∧ (0 : Int) ≤ 50000 ∧ x0 ≤ x0 ∧ x0 ≤ x0 + (0 : Int) ∧ x1 ≤ x1 ∧ x1 ≤ x1 + (0 : Int) := by omega
theorem om_9da02a6393 {x0 x1 x2 x3 x4 : Int} (h0 : 0 ≤ x0 ∧ x0 ≤ 50000 ∧ x1 ≤ x2 ∧ x2 ≤ x1 + x0 ∧ x3 ≤ x4 ∧ x4 ≤ x3 + x0) : x1 ≤ x2 ∧ x2 ≤ x1 + 50000 := by omega
theorem om_6a354cde77 {x0 x1 x2 x3 x4 : Int} (h0 : 0 ≤ x0 ∧ x0 ≤ 50000 ∧ x1 ≤ x2 ∧ x2 ≤ x1 + x0 ∧ x3 ≤ x4 ∧ x4 ≤ x3 + x0) : x3 ≤ x4 ∧ x4 ≤ x3 + 50000 := by omega
theorem om_3faacfb0ac {x0 x1 x2 x3 x4 x5 : Int} (h0 : x0 ≤ (50000 : Int)) (h1 : 0 ≤ x1 ∧ x1 ≤ 50000 ∧ x2 ≤ x3 ∧ x3 ≤ x2 + x1 ∧ x4 ≤ x5 ∧ x5 ≤ x4 + x1) (h2 : x1 < x0) : x2 ≤ x3 ∧ x3 ≤ x2 + 50000 := by omega
theorem om_b2d1ffa8fc {x0 x1 x2 x3 x4 x5 : Int} (h0 : x0 ≤ (50000 : Int)) (h1 : 0 ≤ x1 ∧ x1 ≤ 50000 ∧ x2 ≤ x3 ∧ x3 ≤ x2 + x1 ∧ x4 ≤ x5 ∧ x5 ≤ x4 + x1) (h2 : x1 < x0) : x4 ≤ x5 ∧ x5 ≤ x4 + 50000 := by omega
theorem om_4eb3e36267 {x0 x1 : Int} (h0 : 0 ≤ x0 ∧ x0 ≤ 64) (h1 : x1 = x0) : 0 ≤ x1 ∧ x1 ≤ 64 := by omega
theorem om_c8ec217ad4 {x0 x1 x2 x3 x4 : Int} (h0 : 0 ≤ x0 ∧ x0 ≤ 1900000000) (h1 : 0 ≤ x1 ∧ x1 ≤ 50000 ∧ x0 ≤ x2 ∧ x2 ≤ x0 + x1 ∧ x3 ≤ x4 ∧ x4 ≤ x3 + x1) : 0 ≤ x2 ∧ x2 ≤ 2000000000 := by omega
theorem om_392f6d65b2 {x0 x1 x2 x3 x4 : Int} (h0 : 0 ≤ x0 ∧ x0 ≤ 1900000000) (h1 : 0 ≤ x1 ∧ x1 ≤ 50000 ∧ x2 ≤ x3 ∧ x3 ≤ x2 + x1 ∧ x0 ≤ x4 ∧ x4 ≤ x0 + x1) : 0 ≤ x4 ∧ x4 ≤ 2000000000 := by omega
theorem om_92daf45171 {x0 x1 x2 x3 x4 : Int} (h0 : 0 ≤ x0 ∧ x0 ≤ 50000 ∧ x1 ≤ x2 ∧ x2 ≤ x1 + x0 ∧ x3 ≤ x4 ∧ x4 ≤ x3 + x0) : -2147483648 ≤ x0 + (1 : Int) := by omega
theorem om_a18c3eab6c {x0 x1 x2 x3 x4 : Int} (h0 : 0 ≤ x0 ∧ x0 ≤ 50000 ∧ x1 ≤ x2 ∧ x2 ≤ x1 + x0 ∧ x3 ≤ x4 ∧ x4 ≤ x3 + x0) : x0 + (1 : Int) < 2147483648 := by omega
theorem om_e237c5978d {x0 x1 x2 x3 x4 x5 x6 x7 x8 : Int} (h0 : x0 ≤ (50000 : Int)) (h1 : 0 ≤ x1 ∧ x1 ≤ 50000 ∧ x2 ≤ x3 ∧ x3 ≤ x2 + x1 ∧ x4 ≤ x5 ∧ x5 ≤ x4 + x1) (h2 : x1 < x0) (h3 : x3 ≤ x6 ∧ x6 ≤ x3 + 1) (h4 : x5 ≤ x7 ∧ x7 ≤ x5 + 1) (h5 : x8 = x1 + (1 : Int)) : 0 ≤ x8 ∧ x8 ≤ 50000 ∧ x2 ≤ x6 ∧ x6 ≤ x2 + x8 ∧ x4 ≤ x7 ∧ x7 ≤ x4 + x8 := by omega
theorem om_4b61c333c4 {x0 x1 : Int} (h0 : x0 = x1 + (1 : Int)) : 50000 - x0 < 50000 - x1 := by omega
theorem om_85519b28cc {x0 x1 : Int} (h0 : x0 ≤ (50000 : Int)) (h1 : x1 < x0) : 0 < 50000 - x1 := by omega
set_option maxHeartbeats 4000000 in
set_option maxRecDepth 100000 in
theorem c_m_run (l : Launch) (dC : Nat → ClassId) (dI : Nat → Nat → Nat) (cI cB cZ cJ cR : ClassId) (tb : Nat → Nat) (sz : Nat) (ad : Nat → Nat) (N : Nat) (v : MS) (pa : Int32) (zN : (256 : Int) ≤ (N : Int) ∧ (N : Int) ≤ 4096) (zg : 0 ≤ (v.1 0 94).toInt ∧ (v.1 0 94).toInt ≤ 64) (zu : 0 ≤ (v.1 0 95).toInt ∧ (v.1 0 95).toInt ≤ 1900000000) (zp : 0 ≤ (v.1 0 102).toInt ∧ (v.1 0 102).toInt ≤ 1900000000) : Met l yX13_run (Cond.code yX13_run cX13_run 3 (some .int) :: tw_W) ({ frames := 3, cells := 0, slots := 0, locals := 76 }) (pc_ (dC, dI) (tyS cI cB cZ cJ cR) tb (mW ad N cI cZ cJ v) sz [.ref (ad 0), .int pa]) (qi_ (dC, dI) (mW ad N cI cZ cJ v) sz (fun (r : Int32) (u : MS) => FG [0, 95, 98, 99, 100, 102] [0, 96, 97, 101] v u ∧ ((v.1 0 95).toInt ≤ (u.1 0 95).toInt ∧ (u.1 0 95).toInt ≤ (v.1 0 95).toInt + 50000) ∧ ((v.1 0 102).toInt ≤ (u.1 0 102).toInt ∧ (u.1 0 102).toInt ≤ (v.1 0 102).toInt + 50000)) (fun (u : MS) => (mW ad N cI cZ cJ u))) 0 0 (va_A (mW ad N cI cZ cJ v) sz) := by
  refine Met.ofW (cc := cX13_run) (maxL := 3) (ret := (some .int)) (by decide) rfl ?_
  intro p e s m args below meth c s₁ B hml hv
  obtain ⟨rfl, hsz, hP, hKK, hD0, hFx⟩ := hv
  have hK := hKK.1
  have hx := B.exec
  have hb := B.bytes
  have hr := B.returns
  have ht : ∀ w ∈ tw_W, w.before _ s = true := fun w h => atoms_spec (ws := Cond.code yX13_run cX13_run 3 (some .int) :: tw_W) B.pre w (List.mem_cons_of_mem _ h)
  have hown : s.vm.findClass RX13 = some m.cls := findClass_of_methodNamed B.named
  have hlocks := B.notSynchronized
  subst hsz
  unfold qi_
  have hD := hD0.self (sz := s.heap.size)
  generalize hAe : va_A (mW ad N cI cZ cJ v) s.heap.size = A at hD hFx ⊢
  have hA : ∀ q : Nat, s.heap.size ≤ q → A q := fun q h => by rw [← hAe]; exact Or.inr h
  have hS : va_S A s.heap s.heap [] := va_S.rf
  have hl := lv_entry ([.ref (ad 0), .int pa]) (n := 3) (Nat.le_of_ble_eq_true rfl)
  rw [lg_entry_eq]
  generalize (lg_sl ([.ref (ad 0), .int pa]) ++ List.replicate (3 - (lg_sl ([.ref (ad 0), .int pa])).length) Slot.unset).toArray = ls at hl ⊢
  have hl : lv_has ls 3 [(0, .ref (ad 0)), (1, .int pa)] := hl
  refine lv_aload_n hx hb dX13_run_0 rfl (lv_at hl 0 rfl) ?_
  refine lv_iload_n hx hb dX13_run_1 rfl (lv_at hl 1 rfl) ?_
  refine lv_if_lt (tgt := 12) hx hb dX13_run_2 (by decide) (fun h1 => ?_) (fun h1 => ?_)
  · have z2 : pa.toInt < (0 : Int) := lt_z rfl (show (0 : Int32).toInt = (0 : Int) by decide) h1
    refine lv_iconst (v := 1) hx hb dX13_run_12 (by decide) ?_
    refine lv_goto (tgt := 17) hx hb dX13_run_13 (by decide) ?_
    refine va_put (D := (dC, dI)) (ci := 16) (fs := mF ad v) (v := .int 1) (ty := .int) (C := RX13) (T := TX13) (N := 124) hx hb ht itX13 tyX13 tyX13_ok nmX13 hown hK hP hD hS 0 rfl rfl 0 (by decide) (ht _ tw_246) (fun _ h9 => h9) rfl (by decide +kernel) rfl rfl (Nat.le_of_ble_eq_true rfl) dX13_run_17 (fun H locs hP hD hS => ?_)
    have hP := cP_ (mw_0 ad N cI cZ cJ v 1) hP
    have hD := cD_ (mw_0 ad N cI cZ cJ v 1) hD
    refine lv_iconst (v := 0) hx hb dX13_run_20 (by decide) ?_
    refine lv_istore_n (lv' := [(2, .int 0), (0, .ref (ad 0)), (1, .int pa)]) hx hb dX13_run_21 rfl hl (by decide) rfl (fun ls hl => ?_)
    refine lpm_ (X := Int32 × MS) (P := (fun (x9 : Int32 × MS) (H : Heap) (locs : List Loc) (ls : Array Slot) => (FG [95, 98, 99, 100, 102] [0, 96, 97, 101] (wA v 0 0 1) x9.2) ∧ (0 ≤ x9.1.toInt ∧ x9.1.toInt ≤ 50000 ∧ (v.1 0 95).toInt ≤ (x9.2.1 0 95).toInt ∧ (x9.2.1 0 95).toInt ≤ (v.1 0 95).toInt + x9.1.toInt ∧ (v.1 0 102).toInt ≤ (x9.2.1 0 102).toInt ∧ (x9.2.1 0 102).toInt ≤ (v.1 0 102).toInt + x9.1.toInt) ∧ va_P (dC, dI) vwCl (mW ad N cI cZ cJ x9.2) H ∧ va_D A (mW ad N cI cZ cJ x9.2) ∧ va_S A s.heap H locs ∧ lv_has ls 3 [(2, .int x9.1), (0, .ref (ad 0)), (1, .int pa)])) (fun x9 => (50000 - x9.1.toInt).toNat) 22 (fun x9 H locs ls hh ih22 => ?_) (0, (wA v 0 0 1)) _ _ _ ⟨(show FG [95, 98, 99, 100, 102] [0, 96, 97, 101] (wA v 0 0 1) (wA v 0 0 1) from (FG.rf _)), (show 0 ≤ (0 : Int) ∧ (0 : Int) ≤ 50000 ∧ (v.1 0 95).toInt ≤ (v.1 0 95).toInt ∧ (v.1 0 95).toInt ≤ (v.1 0 95).toInt + (0 : Int) ∧ (v.1 0 102).toInt ≤ (v.1 0 102).toInt ∧ (v.1 0 102).toInt ≤ (v.1 0 102).toInt + (0 : Int) from om_7b7784315d), hP, hD, hS, lv_sub hl [0, 1, 2] rfl⟩
    obtain ⟨ka, w22⟩ := x9
    obtain ⟨fwL22, e1L22, hP, hD, hS, hl⟩ := hh
    have fwL22 : FG [95, 98, 99, 100, 102] [0, 96, 97, 101] (wA v 0 0 1) w22 := fwL22
    have e1L22 : 0 ≤ ka.toInt ∧ ka.toInt ≤ 50000 ∧ (v.1 0 95).toInt ≤ (w22.1 0 95).toInt ∧ (w22.1 0 95).toInt ≤ (v.1 0 95).toInt + ka.toInt ∧ (v.1 0 102).toInt ≤ (w22.1 0 102).toInt ∧ (w22.1 0 102).toInt ≤ (v.1 0 102).toInt + ka.toInt := e1L22
    have hP : va_P (dC, dI) vwCl (mW ad N cI cZ cJ w22) H := hP
    have hD : va_D A (mW ad N cI cZ cJ w22) := hD
    have hl : lv_has ls 3 [(2, .int ka), (0, .ref (ad 0)), (1, .int pa)] := hl
    refine lv_aload_n hx hb dX13_run_22 rfl (lv_at hl 1 rfl) ?_
    refine va_get (D := (dC, dI)) (ci := 16) (fs := mF ad w22) (v := .int (w22.1 0 0)) (C := RX13) (T := TX13) (N := 124) hx hb ht itX13 hown hK hP 0 rfl rfl 0 (by decide) (ht _ tw_246) (fun _ h9 => h9) rfl dX13_run_23 ?_
    refine lv_if_ne (tgt := 51) hx hb dX13_run_26 (by decide) (fun h3 => ?_) (fun h3 => ?_)
    · have z4 : (w22.1 0 0).toInt ≠ (0 : Int) := ne_z rfl (show (0 : Int32).toInt = (0 : Int) by decide) h3
      refine lv_iload_n hx hb dX13_run_51 rfl (lv_at hl 0 rfl) ?_
      exact W.iret (v := ka) hx hb hr (fun t ht9 hW => ⟨⟨ka, w22, rfl, ⟨(FG.tr (FG.f (FG.rf _) 1 (by decide)) (FG.up fwL22 (by decide) (by decide))), (show (v.1 0 95).toInt ≤ (w22.1 0 95).toInt ∧ (w22.1 0 95).toInt ≤ (v.1 0 95).toInt + 50000 from (om_9da02a6393 e1L22)), (show (v.1 0 102).toInt ≤ (w22.1 0 102).toInt ∧ (w22.1 0 102).toInt ≤ (v.1 0 102).toInt + 50000 from (om_6a354cde77 e1L22))⟩, by rw [ht9]; exact hP, hD⟩, hS.F ht9⟩) hS.2.2 dX13_run_52
    · have z5 : (w22.1 0 0).toInt = (0 : Int) := eq_z rfl (show (0 : Int32).toInt = (0 : Int) by decide) h3
      have q6 : (w22.1 0 0).toInt = (1 : Int) := congrArg Int32.toInt ((fwL22.2.1 0 (by decide)).trans (show (wA v 0 0 1).1 0 0 = (1 : Int32) by rfl))
      exact False.elim (om_9d476c3a78 q6 z5)
  · have z7 : (0 : Int) ≤ pa.toInt := nlt_z rfl (show (0 : Int32).toInt = (0 : Int) by decide) h1
    refine lv_iload_n hx hb dX13_run_5 rfl (lv_at hl 1 rfl) ?_
    refine lv_ldcw (v := 50000) hx hb hown (ht _ tw_249) dX13_run_6 ?_
    refine lv_icmp_le (tgt := 16) hx hb dX13_run_9 (by decide) (fun h8 => ?_) (fun h8 => ?_)
    · have z9 : pa.toInt ≤ (50000 : Int) := le_z rfl (show (50000 : Int32).toInt = (50000 : Int) by decide) h8
      refine lv_iconst (v := 0) hx hb dX13_run_16 (by decide) ?_
      refine va_put (D := (dC, dI)) (ci := 16) (fs := mF ad v) (v := .int 0) (ty := .int) (C := RX13) (T := TX13) (N := 124) hx hb ht itX13 tyX13 tyX13_ok nmX13 hown hK hP hD hS 0 rfl rfl 0 (by decide) (ht _ tw_246) (fun _ h9 => h9) rfl (by decide +kernel) rfl rfl (Nat.le_of_ble_eq_true rfl) dX13_run_17 (fun H locs hP hD hS => ?_)
      have hP := cP_ (mw_0 ad N cI cZ cJ v 0) hP
      have hD := cD_ (mw_0 ad N cI cZ cJ v 0) hD
      refine lv_iconst (v := 0) hx hb dX13_run_20 (by decide) ?_
      refine lv_istore_n (lv' := [(2, .int 0), (0, .ref (ad 0)), (1, .int pa)]) hx hb dX13_run_21 rfl hl (by decide) rfl (fun ls hl => ?_)
      refine lpm_ (X := Int32 × MS) (P := (fun (x9 : Int32 × MS) (H : Heap) (locs : List Loc) (ls : Array Slot) => (FG [95, 98, 99, 100, 102] [0, 96, 97, 101] (wA v 0 0 0) x9.2) ∧ (0 ≤ x9.1.toInt ∧ x9.1.toInt ≤ 50000 ∧ (v.1 0 95).toInt ≤ (x9.2.1 0 95).toInt ∧ (x9.2.1 0 95).toInt ≤ (v.1 0 95).toInt + x9.1.toInt ∧ (v.1 0 102).toInt ≤ (x9.2.1 0 102).toInt ∧ (x9.2.1 0 102).toInt ≤ (v.1 0 102).toInt + x9.1.toInt) ∧ va_P (dC, dI) vwCl (mW ad N cI cZ cJ x9.2) H ∧ va_D A (mW ad N cI cZ cJ x9.2) ∧ va_S A s.heap H locs ∧ lv_has ls 3 [(2, .int x9.1), (0, .ref (ad 0)), (1, .int pa)])) (fun x9 => (50000 - x9.1.toInt).toNat) 22 (fun x9 H locs ls hh ih22 => ?_) (0, (wA v 0 0 0)) _ _ _ ⟨(show FG [95, 98, 99, 100, 102] [0, 96, 97, 101] (wA v 0 0 0) (wA v 0 0 0) from (FG.rf _)), (show 0 ≤ (0 : Int) ∧ (0 : Int) ≤ 50000 ∧ (v.1 0 95).toInt ≤ (v.1 0 95).toInt ∧ (v.1 0 95).toInt ≤ (v.1 0 95).toInt + (0 : Int) ∧ (v.1 0 102).toInt ≤ (v.1 0 102).toInt ∧ (v.1 0 102).toInt ≤ (v.1 0 102).toInt + (0 : Int) from om_7b7784315d), hP, hD, hS, lv_sub hl [0, 1, 2] rfl⟩
      obtain ⟨ka, w22⟩ := x9
      obtain ⟨fwL22, e1L22, hP, hD, hS, hl⟩ := hh
      have fwL22 : FG [95, 98, 99, 100, 102] [0, 96, 97, 101] (wA v 0 0 0) w22 := fwL22
      have e1L22 : 0 ≤ ka.toInt ∧ ka.toInt ≤ 50000 ∧ (v.1 0 95).toInt ≤ (w22.1 0 95).toInt ∧ (w22.1 0 95).toInt ≤ (v.1 0 95).toInt + ka.toInt ∧ (v.1 0 102).toInt ≤ (w22.1 0 102).toInt ∧ (w22.1 0 102).toInt ≤ (v.1 0 102).toInt + ka.toInt := e1L22
      have hP : va_P (dC, dI) vwCl (mW ad N cI cZ cJ w22) H := hP
      have hD : va_D A (mW ad N cI cZ cJ w22) := hD
      have hl : lv_has ls 3 [(2, .int ka), (0, .ref (ad 0)), (1, .int pa)] := hl
      refine lv_aload_n hx hb dX13_run_22 rfl (lv_at hl 1 rfl) ?_
      refine va_get (D := (dC, dI)) (ci := 16) (fs := mF ad w22) (v := .int (w22.1 0 0)) (C := RX13) (T := TX13) (N := 124) hx hb ht itX13 hown hK hP 0 rfl rfl 0 (by decide) (ht _ tw_246) (fun _ h9 => h9) rfl dX13_run_23 ?_
      refine lv_if_ne (tgt := 51) hx hb dX13_run_26 (by decide) (fun h10 => ?_) (fun h10 => ?_)
      · have z11 : (w22.1 0 0).toInt ≠ (0 : Int) := ne_z rfl (show (0 : Int32).toInt = (0 : Int) by decide) h10
        refine lv_iload_n hx hb dX13_run_51 rfl (lv_at hl 0 rfl) ?_
        exact W.iret (v := ka) hx hb hr (fun t ht9 hW => ⟨⟨ka, w22, rfl, ⟨(FG.tr (FG.f (FG.rf _) 0 (by decide)) (FG.up fwL22 (by decide) (by decide))), (show (v.1 0 95).toInt ≤ (w22.1 0 95).toInt ∧ (w22.1 0 95).toInt ≤ (v.1 0 95).toInt + 50000 from (om_9da02a6393 e1L22)), (show (v.1 0 102).toInt ≤ (w22.1 0 102).toInt ∧ (w22.1 0 102).toInt ≤ (v.1 0 102).toInt + 50000 from (om_6a354cde77 e1L22))⟩, by rw [ht9]; exact hP, hD⟩, hS.F ht9⟩) hS.2.2 dX13_run_52
      · have z12 : (w22.1 0 0).toInt = (0 : Int) := eq_z rfl (show (0 : Int32).toInt = (0 : Int) by decide) h10
        refine lv_iload_n hx hb dX13_run_29 rfl (lv_at hl 0 rfl) ?_
        refine lv_iload_n hx hb dX13_run_30 rfl (lv_at hl 2 rfl) ?_
        refine lv_icmp_ge (tgt := 51) hx hb dX13_run_31 (by decide) (fun h13 => ?_) (fun h13 => ?_)
        · have z14 : pa.toInt ≤ ka.toInt := le_z rfl rfl h13
          refine lv_iload_n hx hb dX13_run_51 rfl (lv_at hl 0 rfl) ?_
          exact W.iret (v := ka) hx hb hr (fun t ht9 hW => ⟨⟨ka, w22, rfl, ⟨(FG.tr (FG.f (FG.rf _) 0 (by decide)) (FG.up fwL22 (by decide) (by decide))), (show (v.1 0 95).toInt ≤ (w22.1 0 95).toInt ∧ (w22.1 0 95).toInt ≤ (v.1 0 95).toInt + 50000 from (om_9da02a6393 e1L22)), (show (v.1 0 102).toInt ≤ (w22.1 0 102).toInt ∧ (w22.1 0 102).toInt ≤ (v.1 0 102).toInt + 50000 from (om_6a354cde77 e1L22))⟩, by rw [ht9]; exact hP, hD⟩, hS.F ht9⟩) hS.2.2 dX13_run_52
        · have z15 : ka.toInt < pa.toInt := nle_z rfl rfl h13
          refine lv_aload_n hx hb dX13_run_34 rfl (lv_at hl 1 rfl) ?_
          refine va_get (D := (dC, dI)) (ci := 16) (fs := mF ad w22) (v := .int (w22.1 0 99)) (C := RX13) (T := TX13) (N := 124) hx hb ht itX13 hown hK hP 0 rfl rfl 99 (by decide) (ht _ tw_210) (fun _ h9 => h9) rfl dX13_run_35 ?_
          refine lv_if_ne (tgt := 51) hx hb dX13_run_38 (by decide) (fun h16 => ?_) (fun h16 => ?_)
          · have z17 : (w22.1 0 99).toInt ≠ (0 : Int) := ne_z rfl (show (0 : Int32).toInt = (0 : Int) by decide) h16
            refine lv_iload_n hx hb dX13_run_51 rfl (lv_at hl 0 rfl) ?_
            exact W.iret (v := ka) hx hb hr (fun t ht9 hW => ⟨⟨ka, w22, rfl, ⟨(FG.tr (FG.f (FG.rf _) 0 (by decide)) (FG.up fwL22 (by decide) (by decide))), (show (v.1 0 95).toInt ≤ (w22.1 0 95).toInt ∧ (w22.1 0 95).toInt ≤ (v.1 0 95).toInt + 50000 from (om_3faacfb0ac z9 e1L22 z15)), (show (v.1 0 102).toInt ≤ (w22.1 0 102).toInt ∧ (w22.1 0 102).toInt ≤ (v.1 0 102).toInt + 50000 from (om_b2d1ffa8fc z9 e1L22 z15))⟩, by rw [ht9]; exact hP, hD⟩, hS.F ht9⟩) hS.2.2 dX13_run_52
          · have z18 : (w22.1 0 99).toInt = (0 : Int) := eq_z rfl (show (0 : Int32).toInt = (0 : Int) by decide) h16
            refine lv_aload_n hx hb dX13_run_41 rfl (lv_at hl 1 rfl) ?_
            have q19 : (w22.1 0 94).toInt = (v.1 0 94).toInt := congrArg Int32.toInt ((fwL22.2.1 94 (by decide)).trans (show (wA v 0 0 0).1 0 94 = (v.1 0 94) by rfl))
            refine cu_v (rn_V (n := 0) (As := []) (rest := []) hx hb hml hown ht hKK hFx hP hD hS hA (c_m_doStep l dC dI cI cB cZ cJ cR tb H.size ad N w22  (show (256 : Int) ≤ (N : Int) ∧ (N : Int) ≤ 4096 from (om_c42fe0fb85 zN)) (show 0 ≤ (w22.1 0 94).toInt ∧ (w22.1 0 94).toInt ≤ 64 from (om_4eb3e36267 zg q19)) (show 0 ≤ (w22.1 0 95).toInt ∧ (w22.1 0 95).toInt ≤ 2000000000 from (om_c8ec217ad4 zu e1L22)) (show 0 ≤ (w22.1 0 102).toInt ∧ (w22.1 0 102).toInt ≤ 2000000000 from (om_392f6d65b2 zp e1L22))) tw_247 tw_248 (by decide +kernel) rfl rfl ⟨Nat.le_of_ble_eq_true rfl, Nat.le_of_ble_eq_true rfl⟩ (List.range (mW ad N cI cZ cJ w22).length) (rg_map _) (mW_nd _ _ _ _ _ _) rfl rfl rfl rfl hl.1 rfl (Nat.le_of_ble_eq_true rfl) dX13_run_42 ⟨Nat.le_of_ble_eq_true rfl, Nat.le_of_ble_eq_true rfl⟩) hP hD hS hA (fun u21 H locs hw20 hP hD hS => ?_)
            obtain ⟨fr20, pu20, pp20⟩ := hw20
            have pu20 : (w22.1 0 95).toInt ≤ (u21.1 0 95).toInt ∧ (u21.1 0 95).toInt ≤ (w22.1 0 95).toInt + 1 := pu20
            have pp20 : (w22.1 0 102).toInt ≤ (u21.1 0 102).toInt ∧ (u21.1 0 102).toInt ≤ (w22.1 0 102).toInt + 1 := pp20
            refine W.widen (k := 0) (n := 0) (Nat.le_refl _) (Nat.le_refl _) ?_
            refine lv_iinc (v := (ka + (1 : Int32))) (lv' := [(2, .int (ka + (1 : Int32))), (0, .ref (ad 0)), (1, .int pa)]) hx hb dX13_run_45 hl (k := 0) rfl (rfl) (by decide) rfl (fun ls hl => ?_)
            have z23 : (ka + (1 : Int32)).toInt = ka.toInt + (1 : Int) := add_z rfl (show (1 : Int32).toInt = (1 : Int) by decide) (om_92daf45171 e1L22) (om_a18c3eab6c e1L22)
            refine lv_goto (tgt := 22) hx hb dX13_run_48 (by decide) ?_
            exact ih22 ((ka + (1 : Int32)), u21) _ _ _ (show (50000 - (ka + (1 : Int32)).toInt).toNat < (50000 - ka.toInt).toNat from tn_z (om_4b61c333c4 z23) (om_85519b28cc z9 z15)) ⟨(show FG [95, 98, 99, 100, 102] [0, 96, 97, 101] (wA v 0 0 0) u21 from (FG.tr (FG.tr (FG.rf _) (FG.up fwL22 (by decide) (by decide))) (FG.up fr20 (by decide) (by decide)))), (show 0 ≤ (ka + (1 : Int32)).toInt ∧ (ka + (1 : Int32)).toInt ≤ 50000 ∧ (v.1 0 95).toInt ≤ (u21.1 0 95).toInt ∧ (u21.1 0 95).toInt ≤ (v.1 0 95).toInt + (ka + (1 : Int32)).toInt ∧ (v.1 0 102).toInt ≤ (u21.1 0 102).toInt ∧ (u21.1 0 102).toInt ≤ (v.1 0 102).toInt + (ka + (1 : Int32)).toInt from (om_e237c5978d z9 e1L22 z15 pu20 pp20 z23)), hP, hD, hS, lv_sub hl [0, 1, 2] rfl⟩
    · have z24 : (50000 : Int) < pa.toInt := nle_z rfl (show (50000 : Int32).toInt = (50000 : Int) by decide) h8
      refine lv_iconst (v := 1) hx hb dX13_run_12 (by decide) ?_
      refine lv_goto (tgt := 17) hx hb dX13_run_13 (by decide) ?_
      refine va_put (D := (dC, dI)) (ci := 16) (fs := mF ad v) (v := .int 1) (ty := .int) (C := RX13) (T := TX13) (N := 124) hx hb ht itX13 tyX13 tyX13_ok nmX13 hown hK hP hD hS 0 rfl rfl 0 (by decide) (ht _ tw_246) (fun _ h9 => h9) rfl (by decide +kernel) rfl rfl (Nat.le_of_ble_eq_true rfl) dX13_run_17 (fun H locs hP hD hS => ?_)
      have hP := cP_ (mw_0 ad N cI cZ cJ v 1) hP
      have hD := cD_ (mw_0 ad N cI cZ cJ v 1) hD
      refine lv_iconst (v := 0) hx hb dX13_run_20 (by decide) ?_
      refine lv_istore_n (lv' := [(2, .int 0), (0, .ref (ad 0)), (1, .int pa)]) hx hb dX13_run_21 rfl hl (by decide) rfl (fun ls hl => ?_)
      refine lpm_ (X := Int32 × MS) (P := (fun (x9 : Int32 × MS) (H : Heap) (locs : List Loc) (ls : Array Slot) => (FG [95, 98, 99, 100, 102] [0, 96, 97, 101] (wA v 0 0 1) x9.2) ∧ (0 ≤ x9.1.toInt ∧ x9.1.toInt ≤ 50000 ∧ (v.1 0 95).toInt ≤ (x9.2.1 0 95).toInt ∧ (x9.2.1 0 95).toInt ≤ (v.1 0 95).toInt + x9.1.toInt ∧ (v.1 0 102).toInt ≤ (x9.2.1 0 102).toInt ∧ (x9.2.1 0 102).toInt ≤ (v.1 0 102).toInt + x9.1.toInt) ∧ va_P (dC, dI) vwCl (mW ad N cI cZ cJ x9.2) H ∧ va_D A (mW ad N cI cZ cJ x9.2) ∧ va_S A s.heap H locs ∧ lv_has ls 3 [(2, .int x9.1), (0, .ref (ad 0)), (1, .int pa)])) (fun x9 => (50000 - x9.1.toInt).toNat) 22 (fun x9 H locs ls hh ih22 => ?_) (0, (wA v 0 0 1)) _ _ _ ⟨(show FG [95, 98, 99, 100, 102] [0, 96, 97, 101] (wA v 0 0 1) (wA v 0 0 1) from (FG.rf _)), (show 0 ≤ (0 : Int) ∧ (0 : Int) ≤ 50000 ∧ (v.1 0 95).toInt ≤ (v.1 0 95).toInt ∧ (v.1 0 95).toInt ≤ (v.1 0 95).toInt + (0 : Int) ∧ (v.1 0 102).toInt ≤ (v.1 0 102).toInt ∧ (v.1 0 102).toInt ≤ (v.1 0 102).toInt + (0 : Int) from om_7b7784315d), hP, hD, hS, lv_sub hl [0, 1, 2] rfl⟩
      obtain ⟨ka, w22⟩ := x9
      obtain ⟨fwL22, e1L22, hP, hD, hS, hl⟩ := hh
      have fwL22 : FG [95, 98, 99, 100, 102] [0, 96, 97, 101] (wA v 0 0 1) w22 := fwL22
      have e1L22 : 0 ≤ ka.toInt ∧ ka.toInt ≤ 50000 ∧ (v.1 0 95).toInt ≤ (w22.1 0 95).toInt ∧ (w22.1 0 95).toInt ≤ (v.1 0 95).toInt + ka.toInt ∧ (v.1 0 102).toInt ≤ (w22.1 0 102).toInt ∧ (w22.1 0 102).toInt ≤ (v.1 0 102).toInt + ka.toInt := e1L22
      have hP : va_P (dC, dI) vwCl (mW ad N cI cZ cJ w22) H := hP
      have hD : va_D A (mW ad N cI cZ cJ w22) := hD
      have hl : lv_has ls 3 [(2, .int ka), (0, .ref (ad 0)), (1, .int pa)] := hl
      refine lv_aload_n hx hb dX13_run_22 rfl (lv_at hl 1 rfl) ?_
      refine va_get (D := (dC, dI)) (ci := 16) (fs := mF ad w22) (v := .int (w22.1 0 0)) (C := RX13) (T := TX13) (N := 124) hx hb ht itX13 hown hK hP 0 rfl rfl 0 (by decide) (ht _ tw_246) (fun _ h9 => h9) rfl dX13_run_23 ?_
      refine lv_if_ne (tgt := 51) hx hb dX13_run_26 (by decide) (fun h25 => ?_) (fun h25 => ?_)
      · have z26 : (w22.1 0 0).toInt ≠ (0 : Int) := ne_z rfl (show (0 : Int32).toInt = (0 : Int) by decide) h25
        refine lv_iload_n hx hb dX13_run_51 rfl (lv_at hl 0 rfl) ?_
        exact W.iret (v := ka) hx hb hr (fun t ht9 hW => ⟨⟨ka, w22, rfl, ⟨(FG.tr (FG.f (FG.rf _) 1 (by decide)) (FG.up fwL22 (by decide) (by decide))), (show (v.1 0 95).toInt ≤ (w22.1 0 95).toInt ∧ (w22.1 0 95).toInt ≤ (v.1 0 95).toInt + 50000 from (om_9da02a6393 e1L22)), (show (v.1 0 102).toInt ≤ (w22.1 0 102).toInt ∧ (w22.1 0 102).toInt ≤ (v.1 0 102).toInt + 50000 from (om_6a354cde77 e1L22))⟩, by rw [ht9]; exact hP, hD⟩, hS.F ht9⟩) hS.2.2 dX13_run_52
      · have z27 : (w22.1 0 0).toInt = (0 : Int) := eq_z rfl (show (0 : Int32).toInt = (0 : Int) by decide) h25
        have q28 : (w22.1 0 0).toInt = (1 : Int) := congrArg Int32.toInt ((fwL22.2.1 0 (by decide)).trans (show (wA v 0 0 1).1 0 0 = (1 : Int32) by rfl))
        exact False.elim (om_9d476c3a78 q28 z27)
set_option maxHeartbeats 4000000 in
set_option maxRecDepth 100000 in
theorem c_m_result (l : Launch) (dC : Nat → ClassId) (dI : Nat → Nat → Nat) (cI cB cZ cJ cR : ClassId) (tb : Nat → Nat) (sz : Nat) (ad : Nat → Nat) (N : Nat) (v : MS)   : Met l yX13_result (Cond.code yX13_result cX13_result 1 (some .int) :: tw_W) ({ frames := 0, cells := 0, slots := 0, locals := 0 }) (pc_ (dC, dI) (tyS cI cB cZ cJ cR) tb (mW ad N cI cZ cJ v) sz [.ref (ad 0)]) (qi_ (dC, dI) (mW ad N cI cZ cJ v) sz (fun (r : Int32) (u : MS) => FG [0] [0] v u) (fun (u : MS) => (mW ad N cI cZ cJ u))) 0 0 (va_A (mW ad N cI cZ cJ v) sz) := by
  refine Met.ofW (cc := cX13_result) (maxL := 1) (ret := (some .int)) (by decide) rfl ?_
  intro p e s m args below meth c s₁ B hml hv
  obtain ⟨rfl, hsz, hP, hKK, hD0, hFx⟩ := hv
  have hK := hKK.1
  have hx := B.exec
  have hb := B.bytes
  have hr := B.returns
  have ht : ∀ w ∈ tw_W, w.before _ s = true := fun w h => atoms_spec (ws := Cond.code yX13_result cX13_result 1 (some .int) :: tw_W) B.pre w (List.mem_cons_of_mem _ h)
  have hown : s.vm.findClass RX13 = some m.cls := findClass_of_methodNamed B.named
  have hlocks := B.notSynchronized
  subst hsz
  unfold qi_
  have hD := hD0.self (sz := s.heap.size)
  generalize hAe : va_A (mW ad N cI cZ cJ v) s.heap.size = A at hD hFx ⊢
  have hA : ∀ q : Nat, s.heap.size ≤ q → A q := fun q h => by rw [← hAe]; exact Or.inr h
  have hS : va_S A s.heap s.heap [] := va_S.rf
  have hl := lv_entry ([.ref (ad 0)]) (n := 1) (Nat.le_of_ble_eq_true rfl)
  rw [lg_entry_eq]
  generalize (lg_sl ([.ref (ad 0)]) ++ List.replicate (1 - (lg_sl ([.ref (ad 0)])).length) Slot.unset).toArray = ls at hl ⊢
  have hl : lv_has ls 1 [(0, .ref (ad 0))] := hl
  refine lv_aload_n hx hb dX13_result_0 rfl (lv_at hl 0 rfl) ?_
  refine lv_iconst (v := 0) hx hb dX13_result_1 (by decide) ?_
  refine va_put (D := (dC, dI)) (ci := 16) (fs := mF ad v) (v := .int 0) (ty := .int) (C := RX13) (T := TX13) (N := 124) hx hb ht itX13 tyX13 tyX13_ok nmX13 hown hK hP hD hS 0 rfl rfl 0 (by decide) (ht _ tw_246) (fun _ h9 => h9) rfl (by decide +kernel) rfl rfl (Nat.le_of_ble_eq_true rfl) dX13_result_2 (fun H locs hP hD hS => ?_)
  have hP := cP_ (mw_0 ad N cI cZ cJ v 0) hP
  have hD := cD_ (mw_0 ad N cI cZ cJ v 0) hD
  refine lv_aload_n hx hb dX13_result_5 rfl (lv_at hl 0 rfl) ?_
  refine va_get (D := (dC, dI)) (ci := 16) (fs := mF ad (wA v 0 0 0)) (v := .int (v.1 0 99)) (C := RX13) (T := TX13) (N := 124) hx hb ht itX13 hown hK hP 0 rfl rfl 99 (by decide) (ht _ tw_210) (fun _ h9 => h9) rfl dX13_result_6 ?_
  refine lv_iconst (v := 1) hx hb dX13_result_9 (by decide) ?_
  refine lv_icmp_ne (tgt := 23) hx hb dX13_result_10 (by decide) (fun h1 => ?_) (fun h1 => ?_)
  · have z2 : (v.1 0 99).toInt ≠ (1 : Int) := ne_z rfl (show (1 : Int32).toInt = (1 : Int) by decide) h1
    refine lv_iconst (v := 0) hx hb dX13_result_23 (by decide) ?_
    exact W.iret (v := 0) hx hb hr (fun t ht9 hW => ⟨⟨0, (wA v 0 0 0), rfl, (FG.f (FG.rf _) 0 (by decide)), by rw [ht9]; exact hP, hD⟩, hS.F ht9⟩) hS.2.2 dX13_result_24
  · have z3 : (v.1 0 99).toInt = (1 : Int) := eq_z rfl (show (1 : Int32).toInt = (1 : Int) by decide) h1
    refine lv_aload_n hx hb dX13_result_13 rfl (lv_at hl 0 rfl) ?_
    refine va_get (D := (dC, dI)) (ci := 16) (fs := mF ad (wA v 0 0 0)) (v := .ref (ad 97)) (C := RX13) (T := TX13) (N := 124) hx hb ht itX13 hown hK hP 0 rfl rfl 97 (by decide) (ht _ tw_209) (fun _ h9 => h9) rfl dX13_result_14 ?_
    refine lv_bipush (v := 10) hx hb dX13_result_17 (by decide) ?_
    refine va_iald (D := (dC, dI)) (f := (v.1 97)) hx hb hK hP 53 0 rfl rfl (in_y (a := (10 : Int)) (b := 32) (show (10 : Int32).toInt = (10 : Int) by decide) om_03b12bc10d om_39e86adfdf rfl) dX13_result_19 ?_
    refine lv_goto (tgt := 24) hx hb dX13_result_20 (by decide) ?_
    exact W.iret (v := ((v.1 97) 10)) hx hb hr (fun t ht9 hW => ⟨⟨((v.1 97) 10), (wA v 0 0 0), rfl, (FG.f (FG.rf _) 0 (by decide)), by rw [ht9]; exact hP, hD⟩, hS.F ht9⟩) hS.2.2 dX13_result_24
theorem om_b7cf7a2d9e {x0 : Int} (h0 : x0 ≤ (32 : Int)) (h1 : x0 ≠ (32 : Int)) : x0 < 32 := by omega
set_option maxHeartbeats 4000000 in
set_option maxRecDepth 100000 in
theorem c_m_register (l : Launch) (dC : Nat → ClassId) (dI : Nat → Nat → Nat) (cI cB cZ cJ cR : ClassId) (tb : Nat → Nat) (sz : Nat) (ad : Nat → Nat) (N : Nat) (v : MS) (pa : Int32)  : Met l yX13_register (Cond.code yX13_register cX13_register 2 (some .int) :: tw_W) ({ frames := 0, cells := 0, slots := 0, locals := 0 }) (pc_ (dC, dI) (tyS cI cB cZ cJ cR) tb (mW ad N cI cZ cJ v) sz [.ref (ad 0), .int pa]) (qi_ (dC, dI) (mW ad N cI cZ cJ v) sz (fun (r : Int32) (u : MS) => FG [0] [0] v u) (fun (u : MS) => (mW ad N cI cZ cJ u))) 0 0 (va_A (mW ad N cI cZ cJ v) sz) := by
  refine Met.ofW (cc := cX13_register) (maxL := 2) (ret := (some .int)) (by decide) rfl ?_
  intro p e s m args below meth c s₁ B hml hv
  obtain ⟨rfl, hsz, hP, hKK, hD0, hFx⟩ := hv
  have hK := hKK.1
  have hx := B.exec
  have hb := B.bytes
  have hr := B.returns
  have ht : ∀ w ∈ tw_W, w.before _ s = true := fun w h => atoms_spec (ws := Cond.code yX13_register cX13_register 2 (some .int) :: tw_W) B.pre w (List.mem_cons_of_mem _ h)
  have hown : s.vm.findClass RX13 = some m.cls := findClass_of_methodNamed B.named
  have hlocks := B.notSynchronized
  subst hsz
  unfold qi_
  have hD := hD0.self (sz := s.heap.size)
  generalize hAe : va_A (mW ad N cI cZ cJ v) s.heap.size = A at hD hFx ⊢
  have hA : ∀ q : Nat, s.heap.size ≤ q → A q := fun q h => by rw [← hAe]; exact Or.inr h
  have hS : va_S A s.heap s.heap [] := va_S.rf
  have hl := lv_entry ([.ref (ad 0), .int pa]) (n := 2) (Nat.le_of_ble_eq_true rfl)
  rw [lg_entry_eq]
  generalize (lg_sl ([.ref (ad 0), .int pa]) ++ List.replicate (2 - (lg_sl ([.ref (ad 0), .int pa])).length) Slot.unset).toArray = ls at hl ⊢
  have hl : lv_has ls 2 [(0, .ref (ad 0)), (1, .int pa)] := hl
  refine lv_aload_n hx hb dX13_register_0 rfl (lv_at hl 0 rfl) ?_
  refine lv_iload_n hx hb dX13_register_1 rfl (lv_at hl 1 rfl) ?_
  refine lv_if_lt (tgt := 11) hx hb dX13_register_2 (by decide) (fun h1 => ?_) (fun h1 => ?_)
  · have z2 : pa.toInt < (0 : Int) := lt_z rfl (show (0 : Int32).toInt = (0 : Int) by decide) h1
    refine lv_iconst (v := 1) hx hb dX13_register_11 (by decide) ?_
    refine lv_goto (tgt := 16) hx hb dX13_register_12 (by decide) ?_
    refine va_put (D := (dC, dI)) (ci := 16) (fs := mF ad v) (v := .int 1) (ty := .int) (C := RX13) (T := TX13) (N := 124) hx hb ht itX13 tyX13 tyX13_ok nmX13 hown hK hP hD hS 0 rfl rfl 0 (by decide) (ht _ tw_246) (fun _ h9 => h9) rfl (by decide +kernel) rfl rfl (Nat.le_of_ble_eq_true rfl) dX13_register_16 (fun H locs hP hD hS => ?_)
    have hP := cP_ (mw_0 ad N cI cZ cJ v 1) hP
    have hD := cD_ (mw_0 ad N cI cZ cJ v 1) hD
    refine lv_aload_n hx hb dX13_register_19 rfl (lv_at hl 0 rfl) ?_
    refine va_get (D := (dC, dI)) (ci := 16) (fs := mF ad (wA v 0 0 1)) (v := .int 1) (C := RX13) (T := TX13) (N := 124) hx hb ht itX13 hown hK hP 0 rfl rfl 0 (by decide) (ht _ tw_246) (fun _ h9 => h9) rfl dX13_register_20 ?_
    refine lv_if_le (tgt := 30) hx hb dX13_register_23 (by decide) (fun k3 => absurd k3 (by decide)) (fun _ => ?_)
    refine lv_iconst (v := 0) hx hb dX13_register_26 (by decide) ?_
    refine lv_goto (tgt := 49) hx hb dX13_register_27 (by decide) ?_
    exact W.iret (v := 0) hx hb hr (fun t ht9 hW => ⟨⟨0, (wA v 0 0 1), rfl, (FG.f (FG.rf _) 1 (by decide)), by rw [ht9]; exact hP, hD⟩, hS.F ht9⟩) hS.2.2 dX13_register_49
  · have z4 : (0 : Int) ≤ pa.toInt := nlt_z rfl (show (0 : Int32).toInt = (0 : Int) by decide) h1
    refine lv_iload_n hx hb dX13_register_5 rfl (lv_at hl 1 rfl) ?_
    refine lv_bipush (v := 32) hx hb dX13_register_6 (by decide) ?_
    refine lv_icmp_le (tgt := 15) hx hb dX13_register_8 (by decide) (fun h5 => ?_) (fun h5 => ?_)
    · have z6 : pa.toInt ≤ (32 : Int) := le_z rfl (show (32 : Int32).toInt = (32 : Int) by decide) h5
      refine lv_iconst (v := 0) hx hb dX13_register_15 (by decide) ?_
      refine va_put (D := (dC, dI)) (ci := 16) (fs := mF ad v) (v := .int 0) (ty := .int) (C := RX13) (T := TX13) (N := 124) hx hb ht itX13 tyX13 tyX13_ok nmX13 hown hK hP hD hS 0 rfl rfl 0 (by decide) (ht _ tw_246) (fun _ h9 => h9) rfl (by decide +kernel) rfl rfl (Nat.le_of_ble_eq_true rfl) dX13_register_16 (fun H locs hP hD hS => ?_)
      have hP := cP_ (mw_0 ad N cI cZ cJ v 0) hP
      have hD := cD_ (mw_0 ad N cI cZ cJ v 0) hD
      refine lv_aload_n hx hb dX13_register_19 rfl (lv_at hl 0 rfl) ?_
      refine va_get (D := (dC, dI)) (ci := 16) (fs := mF ad (wA v 0 0 0)) (v := .int 0) (C := RX13) (T := TX13) (N := 124) hx hb ht itX13 hown hK hP 0 rfl rfl 0 (by decide) (ht _ tw_246) (fun _ h9 => h9) rfl dX13_register_20 ?_
      refine lv_if_le (tgt := 30) hx hb dX13_register_23 (by decide) (fun _ => ?_) (fun k7 => absurd k7 (by decide))
      refine lv_iload_n hx hb dX13_register_30 rfl (lv_at hl 1 rfl) ?_
      refine lv_bipush (v := 32) hx hb dX13_register_31 (by decide) ?_
      refine lv_icmp_ne (tgt := 43) hx hb dX13_register_33 (by decide) (fun h8 => ?_) (fun h8 => ?_)
      · have z9 : pa.toInt ≠ (32 : Int) := ne_z rfl (show (32 : Int32).toInt = (32 : Int) by decide) h8
        refine lv_aload_n hx hb dX13_register_43 rfl (lv_at hl 0 rfl) ?_
        refine va_get (D := (dC, dI)) (ci := 16) (fs := mF ad (wA v 0 0 0)) (v := .ref (ad 97)) (C := RX13) (T := TX13) (N := 124) hx hb ht itX13 hown hK hP 0 rfl rfl 97 (by decide) (ht _ tw_209) (fun _ h9 => h9) rfl dX13_register_44 ?_
        refine lv_iload_n hx hb dX13_register_47 rfl (lv_at hl 1 rfl) ?_
        refine va_iald (D := (dC, dI)) (f := (v.1 97)) hx hb hK hP 53 0 rfl rfl (in_y (a := pa.toInt) (b := 32) rfl (om_51058f7f87 z4) (om_b7cf7a2d9e z6 z9) rfl) dX13_register_48 ?_
        exact W.iret (v := ((v.1 97) pa.toNatClampNeg)) hx hb hr (fun t ht9 hW => ⟨⟨((v.1 97) pa.toNatClampNeg), (wA v 0 0 0), rfl, (FG.f (FG.rf _) 0 (by decide)), by rw [ht9]; exact hP, hD⟩, hS.F ht9⟩) hS.2.2 dX13_register_49
      · have z10 : pa.toInt = (32 : Int) := eq_z rfl (show (32 : Int32).toInt = (32 : Int) by decide) h8
        refine lv_aload_n hx hb dX13_register_36 rfl (lv_at hl 0 rfl) ?_
        refine va_get (D := (dC, dI)) (ci := 16) (fs := mF ad (wA v 0 0 0)) (v := .int (v.1 0 98)) (C := RX13) (T := TX13) (N := 124) hx hb ht itX13 hown hK hP 0 rfl rfl 98 (by decide) (ht _ tw_208) (fun _ h9 => h9) rfl dX13_register_37 ?_
        refine lv_goto (tgt := 49) hx hb dX13_register_40 (by decide) ?_
        exact W.iret (v := (v.1 0 98)) hx hb hr (fun t ht9 hW => ⟨⟨(v.1 0 98), (wA v 0 0 0), rfl, (FG.f (FG.rf _) 0 (by decide)), by rw [ht9]; exact hP, hD⟩, hS.F ht9⟩) hS.2.2 dX13_register_49
    · have z11 : (32 : Int) < pa.toInt := nle_z rfl (show (32 : Int32).toInt = (32 : Int) by decide) h5
      refine lv_iconst (v := 1) hx hb dX13_register_11 (by decide) ?_
      refine lv_goto (tgt := 16) hx hb dX13_register_12 (by decide) ?_
      refine va_put (D := (dC, dI)) (ci := 16) (fs := mF ad v) (v := .int 1) (ty := .int) (C := RX13) (T := TX13) (N := 124) hx hb ht itX13 tyX13 tyX13_ok nmX13 hown hK hP hD hS 0 rfl rfl 0 (by decide) (ht _ tw_246) (fun _ h9 => h9) rfl (by decide +kernel) rfl rfl (Nat.le_of_ble_eq_true rfl) dX13_register_16 (fun H locs hP hD hS => ?_)
      have hP := cP_ (mw_0 ad N cI cZ cJ v 1) hP
      have hD := cD_ (mw_0 ad N cI cZ cJ v 1) hD
      refine lv_aload_n hx hb dX13_register_19 rfl (lv_at hl 0 rfl) ?_
      refine va_get (D := (dC, dI)) (ci := 16) (fs := mF ad (wA v 0 0 1)) (v := .int 1) (C := RX13) (T := TX13) (N := 124) hx hb ht itX13 hown hK hP 0 rfl rfl 0 (by decide) (ht _ tw_246) (fun _ h9 => h9) rfl dX13_register_20 ?_
      refine lv_if_le (tgt := 30) hx hb dX13_register_23 (by decide) (fun k12 => absurd k12 (by decide)) (fun _ => ?_)
      refine lv_iconst (v := 0) hx hb dX13_register_26 (by decide) ?_
      refine lv_goto (tgt := 49) hx hb dX13_register_27 (by decide) ?_
      exact W.iret (v := 0) hx hb hr (fun t ht9 hW => ⟨⟨0, (wA v 0 0 1), rfl, (FG.f (FG.rf _) 1 (by decide)), by rw [ht9]; exact hP, hD⟩, hS.F ht9⟩) hS.2.2 dX13_register_49
set_option maxHeartbeats 4000000 in
set_option maxRecDepth 100000 in
theorem c_m_set (l : Launch) (dC : Nat → ClassId) (dI : Nat → Nat → Nat) (cI cB cZ cJ cR : ClassId) (tb : Nat → Nat) (sz : Nat) (ad : Nat → Nat) (N : Nat) (v : MS) (pa : Int32) (pb : Int32)  : Met l yX13_set (Cond.code yX13_set cX13_set 3 none :: tw_W) ({ frames := 0, cells := 0, slots := 0, locals := 0 }) (pc_ (dC, dI) (tyS cI cB cZ cJ cR) tb (mW ad N cI cZ cJ v) sz [.ref (ad 0), .int pa, .int pb]) (qv_ (dC, dI) (mW ad N cI cZ cJ v) sz (fun (u : MS) => FG [0, 98, 99] [0, 97] v u) (fun (u : MS) => (mW ad N cI cZ cJ u))) 0 0 (va_A (mW ad N cI cZ cJ v) sz) := by
  refine Met.ofW (cc := cX13_set) (maxL := 3) (ret := none) (by decide) rfl ?_
  intro p e s m args below meth c s₁ B hml hv
  obtain ⟨rfl, hsz, hP, hKK, hD0, hFx⟩ := hv
  have hK := hKK.1
  have hx := B.exec
  have hb := B.bytes
  have hr := B.returns
  have ht : ∀ w ∈ tw_W, w.before _ s = true := fun w h => atoms_spec (ws := Cond.code yX13_set cX13_set 3 none :: tw_W) B.pre w (List.mem_cons_of_mem _ h)
  have hown : s.vm.findClass RX13 = some m.cls := findClass_of_methodNamed B.named
  have hlocks := B.notSynchronized
  subst hsz
  unfold qv_
  have hD := hD0.self (sz := s.heap.size)
  generalize hAe : va_A (mW ad N cI cZ cJ v) s.heap.size = A at hD hFx ⊢
  have hA : ∀ q : Nat, s.heap.size ≤ q → A q := fun q h => by rw [← hAe]; exact Or.inr h
  have hS : va_S A s.heap s.heap [] := va_S.rf
  have hl := lv_entry ([.ref (ad 0), .int pa, .int pb]) (n := 3) (Nat.le_of_ble_eq_true rfl)
  rw [lg_entry_eq]
  generalize (lg_sl ([.ref (ad 0), .int pa, .int pb]) ++ List.replicate (3 - (lg_sl ([.ref (ad 0), .int pa, .int pb])).length) Slot.unset).toArray = ls at hl ⊢
  have hl : lv_has ls 3 [(0, .ref (ad 0)), (1, .int pa), (2, .int pb)] := hl
  refine lv_aload_n hx hb dX13_set_0 rfl (lv_at hl 0 rfl) ?_
  refine lv_iload_n hx hb dX13_set_1 rfl (lv_at hl 1 rfl) ?_
  refine lv_if_lt (tgt := 11) hx hb dX13_set_2 (by decide) (fun h1 => ?_) (fun h1 => ?_)
  · have z2 : pa.toInt < (0 : Int) := lt_z rfl (show (0 : Int32).toInt = (0 : Int) by decide) h1
    refine lv_iconst (v := 1) hx hb dX13_set_11 (by decide) ?_
    refine lv_goto (tgt := 16) hx hb dX13_set_12 (by decide) ?_
    refine va_put (D := (dC, dI)) (ci := 16) (fs := mF ad v) (v := .int 1) (ty := .int) (C := RX13) (T := TX13) (N := 124) hx hb ht itX13 tyX13 tyX13_ok nmX13 hown hK hP hD hS 0 rfl rfl 0 (by decide) (ht _ tw_246) (fun _ h9 => h9) rfl (by decide +kernel) rfl rfl (Nat.le_of_ble_eq_true rfl) dX13_set_16 (fun H locs hP hD hS => ?_)
    have hP := cP_ (mw_0 ad N cI cZ cJ v 1) hP
    have hD := cD_ (mw_0 ad N cI cZ cJ v 1) hD
    refine lv_aload_n hx hb dX13_set_19 rfl (lv_at hl 0 rfl) ?_
    refine va_get (D := (dC, dI)) (ci := 16) (fs := mF ad (wA v 0 0 1)) (v := .int 1) (C := RX13) (T := TX13) (N := 124) hx hb ht itX13 hown hK hP 0 rfl rfl 0 (by decide) (ht _ tw_246) (fun _ h9 => h9) rfl dX13_set_20 ?_
    refine lv_if_le (tgt := 27) hx hb dX13_set_23 (by decide) (fun k3 => absurd k3 (by decide)) (fun _ => ?_)
    exact W.vret hx hb hr (fun t ht9 hW => ⟨⟨(wA v 0 0 1), rfl, (FG.f (FG.rf _) 1 (by decide)), by rw [ht9]; exact hP, hD⟩, hS.F ht9⟩) hS.2.2 dX13_set_26
  · have z4 : (0 : Int) ≤ pa.toInt := nlt_z rfl (show (0 : Int32).toInt = (0 : Int) by decide) h1
    refine lv_iload_n hx hb dX13_set_5 rfl (lv_at hl 1 rfl) ?_
    refine lv_bipush (v := 32) hx hb dX13_set_6 (by decide) ?_
    refine lv_icmp_le (tgt := 15) hx hb dX13_set_8 (by decide) (fun h5 => ?_) (fun h5 => ?_)
    · have z6 : pa.toInt ≤ (32 : Int) := le_z rfl (show (32 : Int32).toInt = (32 : Int) by decide) h5
      refine lv_iconst (v := 0) hx hb dX13_set_15 (by decide) ?_
      refine va_put (D := (dC, dI)) (ci := 16) (fs := mF ad v) (v := .int 0) (ty := .int) (C := RX13) (T := TX13) (N := 124) hx hb ht itX13 tyX13 tyX13_ok nmX13 hown hK hP hD hS 0 rfl rfl 0 (by decide) (ht _ tw_246) (fun _ h9 => h9) rfl (by decide +kernel) rfl rfl (Nat.le_of_ble_eq_true rfl) dX13_set_16 (fun H locs hP hD hS => ?_)
      have hP := cP_ (mw_0 ad N cI cZ cJ v 0) hP
      have hD := cD_ (mw_0 ad N cI cZ cJ v 0) hD
      refine lv_aload_n hx hb dX13_set_19 rfl (lv_at hl 0 rfl) ?_
      refine va_get (D := (dC, dI)) (ci := 16) (fs := mF ad (wA v 0 0 0)) (v := .int 0) (C := RX13) (T := TX13) (N := 124) hx hb ht itX13 hown hK hP 0 rfl rfl 0 (by decide) (ht _ tw_246) (fun _ h9 => h9) rfl dX13_set_20 ?_
      refine lv_if_le (tgt := 27) hx hb dX13_set_23 (by decide) (fun _ => ?_) (fun k7 => absurd k7 (by decide))
      refine lv_iload_n hx hb dX13_set_27 rfl (lv_at hl 1 rfl) ?_
      refine lv_bipush (v := 32) hx hb dX13_set_28 (by decide) ?_
      refine lv_icmp_ne (tgt := 41) hx hb dX13_set_30 (by decide) (fun h8 => ?_) (fun h8 => ?_)
      · have z9 : pa.toInt ≠ (32 : Int) := ne_z rfl (show (32 : Int32).toInt = (32 : Int) by decide) h8
        refine lv_iload_n hx hb dX13_set_41 rfl (lv_at hl 1 rfl) ?_
        refine lv_if_le (tgt := 52) hx hb dX13_set_42 (by decide) (fun h10 => ?_) (fun h10 => ?_)
        · have z11 : pa.toInt ≤ (0 : Int) := le_z rfl (show (0 : Int32).toInt = (0 : Int) by decide) h10
          refine lv_aload_n hx hb dX13_set_52 rfl (lv_at hl 0 rfl) ?_
          refine lv_iconst (v := 0) hx hb dX13_set_53 (by decide) ?_
          refine va_put (D := (dC, dI)) (ci := 16) (fs := mF ad (wA v 0 0 0)) (v := .int 0) (ty := .int) (C := RX13) (T := TX13) (N := 124) hx hb ht itX13 tyX13 tyX13_ok nmX13 hown hK hP hD hS 0 rfl rfl 99 (by decide) (ht _ tw_210) (fun _ h9 => h9) rfl (by decide +kernel) rfl rfl (Nat.le_of_ble_eq_true rfl) dX13_set_54 (fun H locs hP hD hS => ?_)
          have hP := cP_ (mw_99 ad N cI cZ cJ (wA v 0 0 0) 0) hP
          have hD := cD_ (mw_99 ad N cI cZ cJ (wA v 0 0 0) 0) hD
          exact W.vret hx hb hr (fun t ht9 hW => ⟨⟨(wA (wA v 0 0 0) 0 99 0), rfl, (FG.f (FG.f (FG.rf _) 0 (by decide)) 0 (by decide)), by rw [ht9]; exact hP, hD⟩, hS.F ht9⟩) hS.2.2 dX13_set_57
        · have z12 : (0 : Int) < pa.toInt := nle_z rfl (show (0 : Int32).toInt = (0 : Int) by decide) h10
          refine lv_aload_n hx hb dX13_set_45 rfl (lv_at hl 0 rfl) ?_
          refine va_get (D := (dC, dI)) (ci := 16) (fs := mF ad (wA v 0 0 0)) (v := .ref (ad 97)) (C := RX13) (T := TX13) (N := 124) hx hb ht itX13 hown hK hP 0 rfl rfl 97 (by decide) (ht _ tw_209) (fun _ h9 => h9) rfl dX13_set_46 ?_
          refine lv_iload_n hx hb dX13_set_49 rfl (lv_at hl 1 rfl) ?_
          refine lv_iload_n hx hb dX13_set_50 rfl (lv_at hl 2 rfl) ?_
          refine va_iast (D := (dC, dI)) (f := (v.1 97)) hx hb hK hP hD hS 53 0 rfl rfl (in_y (a := pa.toInt) (b := 32) rfl (om_b3bcb1a033 z12) (om_b7cf7a2d9e z6 z9) rfl) dX13_set_51 (fun H locs hP hD hS => ?_)
          have hP := cP_ (ma_97 ad N cI cZ cJ (wA v 0 0 0) pa.toNatClampNeg pb) hP
          have hD := cD_ (ma_97 ad N cI cZ cJ (wA v 0 0 0) pa.toNatClampNeg pb) hD
          refine lv_aload_n hx hb dX13_set_52 rfl (lv_at hl 0 rfl) ?_
          refine lv_iconst (v := 0) hx hb dX13_set_53 (by decide) ?_
          refine va_put (D := (dC, dI)) (ci := 16) (fs := mF ad (wA (wA v 0 0 0) 97 pa.toNatClampNeg pb)) (v := .int 0) (ty := .int) (C := RX13) (T := TX13) (N := 124) hx hb ht itX13 tyX13 tyX13_ok nmX13 hown hK hP hD hS 0 rfl rfl 99 (by decide) (ht _ tw_210) (fun _ h9 => h9) rfl (by decide +kernel) rfl rfl (Nat.le_of_ble_eq_true rfl) dX13_set_54 (fun H locs hP hD hS => ?_)
          have hP := cP_ (mw_99 ad N cI cZ cJ (wA (wA v 0 0 0) 97 pa.toNatClampNeg pb) 0) hP
          have hD := cD_ (mw_99 ad N cI cZ cJ (wA (wA v 0 0 0) 97 pa.toNatClampNeg pb) 0) hD
          exact W.vret hx hb hr (fun t ht9 hW => ⟨⟨(wA (wA (wA v 0 0 0) 97 pa.toNatClampNeg pb) 0 99 0), rfl, (FG.f (FG.a (FG.f (FG.rf _) 0 (by decide)) pa.toNatClampNeg pb (by decide) (by decide)) 0 (by decide)), by rw [ht9]; exact hP, hD⟩, hS.F ht9⟩) hS.2.2 dX13_set_57
      · have z13 : pa.toInt = (32 : Int) := eq_z rfl (show (32 : Int32).toInt = (32 : Int) by decide) h8
        refine lv_aload_n hx hb dX13_set_33 rfl (lv_at hl 0 rfl) ?_
        refine lv_iload_n hx hb dX13_set_34 rfl (lv_at hl 2 rfl) ?_
        refine va_put (D := (dC, dI)) (ci := 16) (fs := mF ad (wA v 0 0 0)) (v := .int pb) (ty := .int) (C := RX13) (T := TX13) (N := 124) hx hb ht itX13 tyX13 tyX13_ok nmX13 hown hK hP hD hS 0 rfl rfl 98 (by decide) (ht _ tw_208) (fun _ h9 => h9) rfl (by decide +kernel) rfl rfl (Nat.le_of_ble_eq_true rfl) dX13_set_35 (fun H locs hP hD hS => ?_)
        have hP := cP_ (mw_98 ad N cI cZ cJ (wA v 0 0 0) pb) hP
        have hD := cD_ (mw_98 ad N cI cZ cJ (wA v 0 0 0) pb) hD
        refine lv_goto (tgt := 52) hx hb dX13_set_38 (by decide) ?_
        refine lv_aload_n hx hb dX13_set_52 rfl (lv_at hl 0 rfl) ?_
        refine lv_iconst (v := 0) hx hb dX13_set_53 (by decide) ?_
        refine va_put (D := (dC, dI)) (ci := 16) (fs := mF ad (wA (wA v 0 0 0) 0 98 pb)) (v := .int 0) (ty := .int) (C := RX13) (T := TX13) (N := 124) hx hb ht itX13 tyX13 tyX13_ok nmX13 hown hK hP hD hS 0 rfl rfl 99 (by decide) (ht _ tw_210) (fun _ h9 => h9) rfl (by decide +kernel) rfl rfl (Nat.le_of_ble_eq_true rfl) dX13_set_54 (fun H locs hP hD hS => ?_)
        have hP := cP_ (mw_99 ad N cI cZ cJ (wA (wA v 0 0 0) 0 98 pb) 0) hP
        have hD := cD_ (mw_99 ad N cI cZ cJ (wA (wA v 0 0 0) 0 98 pb) 0) hD
        exact W.vret hx hb hr (fun t ht9 hW => ⟨⟨(wA (wA (wA v 0 0 0) 0 98 pb) 0 99 0), rfl, (FG.f (FG.f (FG.f (FG.rf _) 0 (by decide)) pb (by decide)) 0 (by decide)), by rw [ht9]; exact hP, hD⟩, hS.F ht9⟩) hS.2.2 dX13_set_57
    · have z14 : (32 : Int) < pa.toInt := nle_z rfl (show (32 : Int32).toInt = (32 : Int) by decide) h5
      refine lv_iconst (v := 1) hx hb dX13_set_11 (by decide) ?_
      refine lv_goto (tgt := 16) hx hb dX13_set_12 (by decide) ?_
      refine va_put (D := (dC, dI)) (ci := 16) (fs := mF ad v) (v := .int 1) (ty := .int) (C := RX13) (T := TX13) (N := 124) hx hb ht itX13 tyX13 tyX13_ok nmX13 hown hK hP hD hS 0 rfl rfl 0 (by decide) (ht _ tw_246) (fun _ h9 => h9) rfl (by decide +kernel) rfl rfl (Nat.le_of_ble_eq_true rfl) dX13_set_16 (fun H locs hP hD hS => ?_)
      have hP := cP_ (mw_0 ad N cI cZ cJ v 1) hP
      have hD := cD_ (mw_0 ad N cI cZ cJ v 1) hD
      refine lv_aload_n hx hb dX13_set_19 rfl (lv_at hl 0 rfl) ?_
      refine va_get (D := (dC, dI)) (ci := 16) (fs := mF ad (wA v 0 0 1)) (v := .int 1) (C := RX13) (T := TX13) (N := 124) hx hb ht itX13 hown hK hP 0 rfl rfl 0 (by decide) (ht _ tw_246) (fun _ h9 => h9) rfl dX13_set_20 ?_
      refine lv_if_le (tgt := 27) hx hb dX13_set_23 (by decide) (fun k15 => absurd k15 (by decide)) (fun _ => ?_)
      exact W.vret hx hb hr (fun t ht9 hW => ⟨⟨(wA v 0 0 1), rfl, (FG.f (FG.rf _) 1 (by decide)), by rw [ht9]; exact hP, hD⟩, hS.F ht9⟩) hS.2.2 dX13_set_26
set_option maxHeartbeats 4000000 in
set_option maxRecDepth 100000 in
theorem c_m_word (l : Launch) (dC : Nat → ClassId) (dI : Nat → Nat → Nat) (cI cB cZ cJ cR : ClassId) (tb : Nat → Nat) (sz : Nat) (ad : Nat → Nat) (N : Nat) (v : MS) (pa : Int32) (zN : (256 : Int) ≤ (N : Int) ∧ (N : Int) ≤ 4096) : Met l yX13_word (Cond.code yX13_word cX13_word 2 (some .int) :: tw_W) ({ frames := 1, cells := 0, slots := 0, locals := 24 }) (pc_ (dC, dI) (tyS cI cB cZ cJ cR) tb (mW ad N cI cZ cJ v) sz [.ref (ad 0), .int pa]) (qi_ (dC, dI) (mW ad N cI cZ cJ v) sz (fun (r : Int32) (u : MS) => FG [0] [0] v u) (fun (u : MS) => (mW ad N cI cZ cJ u))) 0 0 (va_A (mW ad N cI cZ cJ v) sz) := by
  refine Met.ofW (cc := cX13_word) (maxL := 2) (ret := (some .int)) (by decide) rfl ?_
  intro p e s m args below meth c s₁ B hml hv
  obtain ⟨rfl, hsz, hP, hKK, hD0, hFx⟩ := hv
  have hK := hKK.1
  have hx := B.exec
  have hb := B.bytes
  have hr := B.returns
  have ht : ∀ w ∈ tw_W, w.before _ s = true := fun w h => atoms_spec (ws := Cond.code yX13_word cX13_word 2 (some .int) :: tw_W) B.pre w (List.mem_cons_of_mem _ h)
  have hown : s.vm.findClass RX13 = some m.cls := findClass_of_methodNamed B.named
  have hlocks := B.notSynchronized
  subst hsz
  unfold qi_
  have hD := hD0.self (sz := s.heap.size)
  generalize hAe : va_A (mW ad N cI cZ cJ v) s.heap.size = A at hD hFx ⊢
  have hA : ∀ q : Nat, s.heap.size ≤ q → A q := fun q h => by rw [← hAe]; exact Or.inr h
  have hS : va_S A s.heap s.heap [] := va_S.rf
  have hl := lv_entry ([.ref (ad 0), .int pa]) (n := 2) (Nat.le_of_ble_eq_true rfl)
  rw [lg_entry_eq]
  generalize (lg_sl ([.ref (ad 0), .int pa]) ++ List.replicate (2 - (lg_sl ([.ref (ad 0), .int pa])).length) Slot.unset).toArray = ls at hl ⊢
  have hl : lv_has ls 2 [(0, .ref (ad 0)), (1, .int pa)] := hl
  refine lv_aload_n hx hb dX13_word_0 rfl (lv_at hl 0 rfl) ?_
  refine lv_iload_n hx hb dX13_word_1 rfl (lv_at hl 1 rfl) ?_
  refine lv_iconst (v := 3) hx hb dX13_word_2 (by decide) ?_
  refine lv_iand hx hb dX13_word_3 ?_
  refine lv_if_eq (tgt := 11) hx hb dX13_word_4 (by decide) (fun h1 => ?_) (fun h1 => ?_)
  · have z2 : (pa &&& (3 : Int32)).toInt = (0 : Int) := eq_z rfl (show (0 : Int32).toInt = (0 : Int) by decide) h1
    refine lv_aload_n hx hb dX13_word_11 rfl (lv_at hl 0 rfl) ?_
    refine lv_iload_n hx hb dX13_word_12 rfl (lv_at hl 1 rfl) ?_
    refine lv_iconst (v := 4) hx hb dX13_word_13 (by decide) ?_
    refine cu_i (rn_V (n := 2) (As := [.int pa, .int 4]) (rest := [.ref (ad 0)]) hx hb hml hown ht hKK hFx hP hD hS hA (c_m_isIn l dC dI cI cB cZ cJ cR tb s.heap.size ad N v pa (4 : Int32) (show (256 : Int) ≤ (N : Int) ∧ (N : Int) ≤ 4096 from (om_c42fe0fb85 zN)) (show 0 ≤ (4 : Int) ∧ (4 : Int) ≤ 8 from om_ab4478a251)) tw_214 tw_215 (by decide +kernel) rfl rfl ⟨Nat.le_of_ble_eq_true rfl, Nat.le_of_ble_eq_true rfl⟩ (List.range (mW ad N cI cZ cJ v).length) (rg_map _) (mW_nd _ _ _ _ _ _) rfl rfl rfl rfl hl.1 rfl (Nat.le_of_ble_eq_true rfl) dX13_word_14 ⟨Nat.le_of_ble_eq_true rfl, Nat.le_of_ble_eq_true rfl⟩) hP hD hS hA (fun r5 u4 H locs hw3 hP hD hS => ?_)
    obtain ⟨rfl, b3, e3, g3, gn3⟩ := hw3
    have g3 : (r5.toInt = 0 ∨ (0 ≤ pa.toInt ∧ pa.toInt + (4 : Int) ≤ 4 * (N : Int))) := g3
    have gn3 : (r5.toInt = 1 ∨ (pa.toInt < 0 ∨ 4 * (N : Int) < pa.toInt + (4 : Int))) := gn3
    refine W.widen (k := 0) (n := 0) (Nat.le_refl _) (Nat.le_refl _) ?_
    refine lv_if_ne (tgt := 24) hx hb dX13_word_17 (by decide) (fun h6 => ?_) (fun h6 => ?_)
    · have z7 : r5.toInt ≠ (0 : Int) := ne_z rfl (show (0 : Int32).toInt = (0 : Int) by decide) h6
      refine lv_iconst (v := 0) hx hb dX13_word_24 (by decide) ?_
      refine va_put (D := (dC, dI)) (ci := 16) (fs := mF ad v) (v := .int 0) (ty := .int) (C := RX13) (T := TX13) (N := 124) hx hb ht itX13 tyX13 tyX13_ok nmX13 hown hK hP hD hS 0 rfl rfl 0 (by decide) (ht _ tw_246) (fun _ h9 => h9) rfl (by decide +kernel) rfl rfl (Nat.le_of_ble_eq_true rfl) dX13_word_25 (fun H locs hP hD hS => ?_)
      have hP := cP_ (mw_0 ad N cI cZ cJ v 0) hP
      have hD := cD_ (mw_0 ad N cI cZ cJ v 0) hD
      refine lv_aload_n hx hb dX13_word_28 rfl (lv_at hl 0 rfl) ?_
      refine va_get (D := (dC, dI)) (ci := 16) (fs := mF ad (wA v 0 0 0)) (v := .int 0) (C := RX13) (T := TX13) (N := 124) hx hb ht itX13 hown hK hP 0 rfl rfl 0 (by decide) (ht _ tw_246) (fun _ h9 => h9) rfl dX13_word_29 ?_
      refine lv_if_le (tgt := 39) hx hb dX13_word_32 (by decide) (fun _ => ?_) (fun k8 => absurd k8 (by decide))
      refine lv_aload_n hx hb dX13_word_39 rfl (lv_at hl 0 rfl) ?_
      refine va_get (D := (dC, dI)) (ci := 16) (fs := mF ad (wA v 0 0 0)) (v := .ref (ad 96)) (C := RX13) (T := TX13) (N := 124) hx hb ht itX13 hown hK hP 0 rfl rfl 96 (by decide) (ht _ tw_207) (fun _ h9 => h9) rfl dX13_word_40 ?_
      refine lv_iload_n hx hb dX13_word_43 rfl (lv_at hl 1 rfl) ?_
      refine lv_iconst (v := 2) hx hb dX13_word_44 (by decide) ?_
      refine lv_ishr hx hb dX13_word_45 ?_
      have z9 : 4 * (pa >>> ((2 : Int32) &&& 31)).toInt ≤ pa.toInt ∧ pa.toInt ≤ 4 * (pa >>> ((2 : Int32) &&& 31)).toInt + 3 := shr2_f (om_b832ad2882 e3 g3 z7)
      refine va_iald (D := (dC, dI)) (f := (v.1 96)) hx hb hK hP 52 0 rfl rfl (in_y (a := (pa >>> ((2 : Int32) &&& 31)).toInt) (b := (N : Int)) rfl (om_b9fe6392c5 e3 g3 z7 z9) (om_6541274712 e3 g3 z7 z9) rfl) dX13_word_46 ?_
      exact W.iret (v := ((v.1 96) (pa >>> ((2 : Int32) &&& 31)).toNatClampNeg)) hx hb hr (fun t ht9 hW => ⟨⟨((v.1 96) (pa >>> ((2 : Int32) &&& 31)).toNatClampNeg), (wA v 0 0 0), rfl, (FG.f (FG.rf _) 0 (by decide)), by rw [ht9]; exact hP, hD⟩, hS.F ht9⟩) hS.2.2 dX13_word_47
    · have z10 : r5.toInt = (0 : Int) := eq_z rfl (show (0 : Int32).toInt = (0 : Int) by decide) h6
      refine lv_iconst (v := 2) hx hb dX13_word_20 (by decide) ?_
      refine lv_goto (tgt := 25) hx hb dX13_word_21 (by decide) ?_
      refine va_put (D := (dC, dI)) (ci := 16) (fs := mF ad v) (v := .int 2) (ty := .int) (C := RX13) (T := TX13) (N := 124) hx hb ht itX13 tyX13 tyX13_ok nmX13 hown hK hP hD hS 0 rfl rfl 0 (by decide) (ht _ tw_246) (fun _ h9 => h9) rfl (by decide +kernel) rfl rfl (Nat.le_of_ble_eq_true rfl) dX13_word_25 (fun H locs hP hD hS => ?_)
      have hP := cP_ (mw_0 ad N cI cZ cJ v 2) hP
      have hD := cD_ (mw_0 ad N cI cZ cJ v 2) hD
      refine lv_aload_n hx hb dX13_word_28 rfl (lv_at hl 0 rfl) ?_
      refine va_get (D := (dC, dI)) (ci := 16) (fs := mF ad (wA v 0 0 2)) (v := .int 2) (C := RX13) (T := TX13) (N := 124) hx hb ht itX13 hown hK hP 0 rfl rfl 0 (by decide) (ht _ tw_246) (fun _ h9 => h9) rfl dX13_word_29 ?_
      refine lv_if_le (tgt := 39) hx hb dX13_word_32 (by decide) (fun k11 => absurd k11 (by decide)) (fun _ => ?_)
      refine lv_iconst (v := 0) hx hb dX13_word_35 (by decide) ?_
      refine lv_goto (tgt := 47) hx hb dX13_word_36 (by decide) ?_
      exact W.iret (v := 0) hx hb hr (fun t ht9 hW => ⟨⟨0, (wA v 0 0 2), rfl, (FG.f (FG.rf _) 2 (by decide)), by rw [ht9]; exact hP, hD⟩, hS.F ht9⟩) hS.2.2 dX13_word_47
  · have z12 : (pa &&& (3 : Int32)).toInt ≠ (0 : Int) := ne_z rfl (show (0 : Int32).toInt = (0 : Int) by decide) h1
    refine lv_iconst (v := 1) hx hb dX13_word_7 (by decide) ?_
    refine lv_goto (tgt := 25) hx hb dX13_word_8 (by decide) ?_
    refine va_put (D := (dC, dI)) (ci := 16) (fs := mF ad v) (v := .int 1) (ty := .int) (C := RX13) (T := TX13) (N := 124) hx hb ht itX13 tyX13 tyX13_ok nmX13 hown hK hP hD hS 0 rfl rfl 0 (by decide) (ht _ tw_246) (fun _ h9 => h9) rfl (by decide +kernel) rfl rfl (Nat.le_of_ble_eq_true rfl) dX13_word_25 (fun H locs hP hD hS => ?_)
    have hP := cP_ (mw_0 ad N cI cZ cJ v 1) hP
    have hD := cD_ (mw_0 ad N cI cZ cJ v 1) hD
    refine lv_aload_n hx hb dX13_word_28 rfl (lv_at hl 0 rfl) ?_
    refine va_get (D := (dC, dI)) (ci := 16) (fs := mF ad (wA v 0 0 1)) (v := .int 1) (C := RX13) (T := TX13) (N := 124) hx hb ht itX13 hown hK hP 0 rfl rfl 0 (by decide) (ht _ tw_246) (fun _ h9 => h9) rfl dX13_word_29 ?_
    refine lv_if_le (tgt := 39) hx hb dX13_word_32 (by decide) (fun k13 => absurd k13 (by decide)) (fun _ => ?_)
    refine lv_iconst (v := 0) hx hb dX13_word_35 (by decide) ?_
    refine lv_goto (tgt := 47) hx hb dX13_word_36 (by decide) ?_
    exact W.iret (v := 0) hx hb hr (fun t ht9 hW => ⟨⟨0, (wA v 0 0 1), rfl, (FG.f (FG.rf _) 1 (by decide)), by rw [ht9]; exact hP, hD⟩, hS.F ht9⟩) hS.2.2 dX13_word_47
theorem om_0ec88b04cc {x0 x1 x2 : Int} {n3 : Nat} (h0 : 0 ≤ x0 ∧ x0 < 4) (h1 : x0 = (0 : Int)) (h2 : (0 ≤ x1 ∧ x1 ≤ 1)) (h3 : (x1 = 0 ∨ (0 ≤ x2 ∧ x2 + (4 : Int) ≤ 4 * (n3 : Int)))) (h4 : x1 ≠ (0 : Int)) : ((0 : Int) = 1 ∧ x0 ≠ 0) ∨ ((0 : Int) = 2 ∧ x0 = 0 ∧ (x2 < 0 ∨ 4 * (n3 : Int) < x2 + 4)) ∨ ((0 : Int) = 0 ∧ x0 = 0 ∧ (0 ≤ x2 ∧ x2 + 4 ≤ 4 * (n3 : Int))) := by omega
theorem om_e89b1b5b0b {x0 x1 x2 : Int} {n3 : Nat} (h0 : 0 ≤ x0 ∧ x0 < 4) (h1 : x0 = (0 : Int)) (h2 : (x1 = 1 ∨ (x2 < 0 ∨ 4 * (n3 : Int) < x2 + (4 : Int)))) (h3 : x1 = (0 : Int)) : ((2 : Int) = 1 ∧ x0 ≠ 0) ∨ ((2 : Int) = 2 ∧ x0 = 0 ∧ (x2 < 0 ∨ 4 * (n3 : Int) < x2 + 4)) ∨ ((2 : Int) = 0 ∧ x0 = 0 ∧ (0 ≤ x2 ∧ x2 + 4 ≤ 4 * (n3 : Int))) := by omega
theorem om_696e8be82c {x0 x1 : Int} {n2 : Nat} (h0 : x0 ≠ (0 : Int)) : ((1 : Int) = 1 ∧ x0 ≠ 0) ∨ ((1 : Int) = 2 ∧ x0 = 0 ∧ (x1 < 0 ∨ 4 * (n2 : Int) < x1 + 4)) ∨ ((1 : Int) = 0 ∧ x0 = 0 ∧ (0 ≤ x1 ∧ x1 + 4 ≤ 4 * (n2 : Int))) := by omega
set_option maxHeartbeats 4000000 in
set_option maxRecDepth 100000 in
theorem c_m_poke (l : Launch) (dC : Nat → ClassId) (dI : Nat → Nat → Nat) (cI cB cZ cJ cR : ClassId) (tb : Nat → Nat) (sz : Nat) (ad : Nat → Nat) (N : Nat) (v : MS) (pa : Int32) (pb : Int32) (zN : (256 : Int) ≤ (N : Int) ∧ (N : Int) ≤ 4096) : Met l yX13_poke (Cond.code yX13_poke cX13_poke 3 none :: tw_W) ({ frames := 1, cells := 0, slots := 0, locals := 24 }) (pc_ (dC, dI) (tyS cI cB cZ cJ cR) tb (mW ad N cI cZ cJ v) sz [.ref (ad 0), .int pa, .int pb]) (qv_ (dC, dI) (mW ad N cI cZ cJ v) sz (fun (u : MS) => FG [0] [0, 96] v u ∧ (((u.1 0 0).toInt = 1 ∧ (pa &&& (3 : Int32)).toInt ≠ 0) ∨ ((u.1 0 0).toInt = 2 ∧ (pa &&& (3 : Int32)).toInt = 0 ∧ (pa.toInt < 0 ∨ 4 * (N : Int) < pa.toInt + 4)) ∨ ((u.1 0 0).toInt = 0 ∧ (pa &&& (3 : Int32)).toInt = 0 ∧ (0 ≤ pa.toInt ∧ pa.toInt + 4 ≤ 4 * (N : Int))))) (fun (u : MS) => (mW ad N cI cZ cJ u))) 0 0 (va_A (mW ad N cI cZ cJ v) sz) := by
  refine Met.ofW (cc := cX13_poke) (maxL := 3) (ret := none) (by decide) rfl ?_
  intro p e s m args below meth c s₁ B hml hv
  obtain ⟨rfl, hsz, hP, hKK, hD0, hFx⟩ := hv
  have hK := hKK.1
  have hx := B.exec
  have hb := B.bytes
  have hr := B.returns
  have ht : ∀ w ∈ tw_W, w.before _ s = true := fun w h => atoms_spec (ws := Cond.code yX13_poke cX13_poke 3 none :: tw_W) B.pre w (List.mem_cons_of_mem _ h)
  have hown : s.vm.findClass RX13 = some m.cls := findClass_of_methodNamed B.named
  have hlocks := B.notSynchronized
  subst hsz
  unfold qv_
  have hD := hD0.self (sz := s.heap.size)
  generalize hAe : va_A (mW ad N cI cZ cJ v) s.heap.size = A at hD hFx ⊢
  have hA : ∀ q : Nat, s.heap.size ≤ q → A q := fun q h => by rw [← hAe]; exact Or.inr h
  have hS : va_S A s.heap s.heap [] := va_S.rf
  have hl := lv_entry ([.ref (ad 0), .int pa, .int pb]) (n := 3) (Nat.le_of_ble_eq_true rfl)
  rw [lg_entry_eq]
  generalize (lg_sl ([.ref (ad 0), .int pa, .int pb]) ++ List.replicate (3 - (lg_sl ([.ref (ad 0), .int pa, .int pb])).length) Slot.unset).toArray = ls at hl ⊢
  have hl : lv_has ls 3 [(0, .ref (ad 0)), (1, .int pa), (2, .int pb)] := hl
  refine lv_aload_n hx hb dX13_poke_0 rfl (lv_at hl 0 rfl) ?_
  refine lv_iload_n hx hb dX13_poke_1 rfl (lv_at hl 1 rfl) ?_
  refine lv_iconst (v := 3) hx hb dX13_poke_2 (by decide) ?_
  refine lv_iand hx hb dX13_poke_3 ?_
  refine lv_if_eq (tgt := 11) hx hb dX13_poke_4 (by decide) (fun h1 => ?_) (fun h1 => ?_)
  · have z2 : (pa &&& (3 : Int32)).toInt = (0 : Int) := eq_z rfl (show (0 : Int32).toInt = (0 : Int) by decide) h1
    refine lv_aload_n hx hb dX13_poke_11 rfl (lv_at hl 0 rfl) ?_
    refine lv_iload_n hx hb dX13_poke_12 rfl (lv_at hl 1 rfl) ?_
    refine lv_iconst (v := 4) hx hb dX13_poke_13 (by decide) ?_
    refine cu_i (rn_V (n := 2) (As := [.int pa, .int 4]) (rest := [.ref (ad 0)]) hx hb hml hown ht hKK hFx hP hD hS hA (c_m_isIn l dC dI cI cB cZ cJ cR tb s.heap.size ad N v pa (4 : Int32) (show (256 : Int) ≤ (N : Int) ∧ (N : Int) ≤ 4096 from (om_c42fe0fb85 zN)) (show 0 ≤ (4 : Int) ∧ (4 : Int) ≤ 8 from om_ab4478a251)) tw_214 tw_215 (by decide +kernel) rfl rfl ⟨Nat.le_of_ble_eq_true rfl, Nat.le_of_ble_eq_true rfl⟩ (List.range (mW ad N cI cZ cJ v).length) (rg_map _) (mW_nd _ _ _ _ _ _) rfl rfl rfl rfl hl.1 rfl (Nat.le_of_ble_eq_true rfl) dX13_poke_14 ⟨Nat.le_of_ble_eq_true rfl, Nat.le_of_ble_eq_true rfl⟩) hP hD hS hA (fun r5 u4 H locs hw3 hP hD hS => ?_)
    obtain ⟨rfl, b3, e3, g3, gn3⟩ := hw3
    have g3 : (r5.toInt = 0 ∨ (0 ≤ pa.toInt ∧ pa.toInt + (4 : Int) ≤ 4 * (N : Int))) := g3
    have gn3 : (r5.toInt = 1 ∨ (pa.toInt < 0 ∨ 4 * (N : Int) < pa.toInt + (4 : Int))) := gn3
    refine W.widen (k := 0) (n := 0) (Nat.le_refl _) (Nat.le_refl _) ?_
    refine lv_if_ne (tgt := 24) hx hb dX13_poke_17 (by decide) (fun h6 => ?_) (fun h6 => ?_)
    · have z7 : r5.toInt ≠ (0 : Int) := ne_z rfl (show (0 : Int32).toInt = (0 : Int) by decide) h6
      refine lv_iconst (v := 0) hx hb dX13_poke_24 (by decide) ?_
      refine va_put (D := (dC, dI)) (ci := 16) (fs := mF ad v) (v := .int 0) (ty := .int) (C := RX13) (T := TX13) (N := 124) hx hb ht itX13 tyX13 tyX13_ok nmX13 hown hK hP hD hS 0 rfl rfl 0 (by decide) (ht _ tw_246) (fun _ h9 => h9) rfl (by decide +kernel) rfl rfl (Nat.le_of_ble_eq_true rfl) dX13_poke_25 (fun H locs hP hD hS => ?_)
      have hP := cP_ (mw_0 ad N cI cZ cJ v 0) hP
      have hD := cD_ (mw_0 ad N cI cZ cJ v 0) hD
      refine lv_aload_n hx hb dX13_poke_28 rfl (lv_at hl 0 rfl) ?_
      refine va_get (D := (dC, dI)) (ci := 16) (fs := mF ad (wA v 0 0 0)) (v := .int 0) (C := RX13) (T := TX13) (N := 124) hx hb ht itX13 hown hK hP 0 rfl rfl 0 (by decide) (ht _ tw_246) (fun _ h9 => h9) rfl dX13_poke_29 ?_
      refine lv_if_ne (tgt := 44) hx hb dX13_poke_32 (by decide) (fun k8 => absurd k8 (by decide)) (fun _ => ?_)
      refine lv_aload_n hx hb dX13_poke_35 rfl (lv_at hl 0 rfl) ?_
      refine va_get (D := (dC, dI)) (ci := 16) (fs := mF ad (wA v 0 0 0)) (v := .ref (ad 96)) (C := RX13) (T := TX13) (N := 124) hx hb ht itX13 hown hK hP 0 rfl rfl 96 (by decide) (ht _ tw_207) (fun _ h9 => h9) rfl dX13_poke_36 ?_
      refine lv_iload_n hx hb dX13_poke_39 rfl (lv_at hl 1 rfl) ?_
      refine lv_iconst (v := 2) hx hb dX13_poke_40 (by decide) ?_
      refine lv_ishr hx hb dX13_poke_41 ?_
      have z9 : 4 * (pa >>> ((2 : Int32) &&& 31)).toInt ≤ pa.toInt ∧ pa.toInt ≤ 4 * (pa >>> ((2 : Int32) &&& 31)).toInt + 3 := shr2_f (om_b832ad2882 e3 g3 z7)
      refine lv_iload_n hx hb dX13_poke_42 rfl (lv_at hl 2 rfl) ?_
      refine va_iast (D := (dC, dI)) (f := (v.1 96)) hx hb hK hP hD hS 52 0 rfl rfl (in_y (a := (pa >>> ((2 : Int32) &&& 31)).toInt) (b := (N : Int)) rfl (om_b9fe6392c5 e3 g3 z7 z9) (om_6541274712 e3 g3 z7 z9) rfl) dX13_poke_43 (fun H locs hP hD hS => ?_)
      have hP := cP_ (ma_96 ad N cI cZ cJ (wA v 0 0 0) ((pa >>> ((2 : Int32) &&& 31)).toNatClampNeg) pb) hP
      have hD := cD_ (ma_96 ad N cI cZ cJ (wA v 0 0 0) ((pa >>> ((2 : Int32) &&& 31)).toNatClampNeg) pb) hD
      have q10 : 0 ≤ (pa &&& (3 : Int32)).toInt ∧ (pa &&& (3 : Int32)).toInt < 4 := and_f (n := 4) (pk_andIn pa 2 (by decide) (by decide))
      exact W.vret hx hb hr (fun t ht9 hW => ⟨⟨(wA (wA v 0 0 0) 96 ((pa >>> ((2 : Int32) &&& 31)).toNatClampNeg) pb), rfl, ⟨(FG.a (FG.f (FG.rf _) 0 (by decide)) ((pa >>> ((2 : Int32) &&& 31)).toNatClampNeg) pb (by decide) (by decide)), (show ((0 : Int) = 1 ∧ (pa &&& (3 : Int32)).toInt ≠ 0) ∨ ((0 : Int) = 2 ∧ (pa &&& (3 : Int32)).toInt = 0 ∧ (pa.toInt < 0 ∨ 4 * (N : Int) < pa.toInt + 4)) ∨ ((0 : Int) = 0 ∧ (pa &&& (3 : Int32)).toInt = 0 ∧ (0 ≤ pa.toInt ∧ pa.toInt + 4 ≤ 4 * (N : Int))) from (om_0ec88b04cc q10 z2 e3 g3 z7))⟩, by rw [ht9]; exact hP, hD⟩, hS.F ht9⟩) hS.2.2 dX13_poke_44
    · have z11 : r5.toInt = (0 : Int) := eq_z rfl (show (0 : Int32).toInt = (0 : Int) by decide) h6
      refine lv_iconst (v := 2) hx hb dX13_poke_20 (by decide) ?_
      refine lv_goto (tgt := 25) hx hb dX13_poke_21 (by decide) ?_
      refine va_put (D := (dC, dI)) (ci := 16) (fs := mF ad v) (v := .int 2) (ty := .int) (C := RX13) (T := TX13) (N := 124) hx hb ht itX13 tyX13 tyX13_ok nmX13 hown hK hP hD hS 0 rfl rfl 0 (by decide) (ht _ tw_246) (fun _ h9 => h9) rfl (by decide +kernel) rfl rfl (Nat.le_of_ble_eq_true rfl) dX13_poke_25 (fun H locs hP hD hS => ?_)
      have hP := cP_ (mw_0 ad N cI cZ cJ v 2) hP
      have hD := cD_ (mw_0 ad N cI cZ cJ v 2) hD
      refine lv_aload_n hx hb dX13_poke_28 rfl (lv_at hl 0 rfl) ?_
      refine va_get (D := (dC, dI)) (ci := 16) (fs := mF ad (wA v 0 0 2)) (v := .int 2) (C := RX13) (T := TX13) (N := 124) hx hb ht itX13 hown hK hP 0 rfl rfl 0 (by decide) (ht _ tw_246) (fun _ h9 => h9) rfl dX13_poke_29 ?_
      refine lv_if_ne (tgt := 44) hx hb dX13_poke_32 (by decide) (fun _ => ?_) (fun k12 => absurd k12 (by decide))
      have q13 : 0 ≤ (pa &&& (3 : Int32)).toInt ∧ (pa &&& (3 : Int32)).toInt < 4 := and_f (n := 4) (pk_andIn pa 2 (by decide) (by decide))
      exact W.vret hx hb hr (fun t ht9 hW => ⟨⟨(wA v 0 0 2), rfl, ⟨(FG.f (FG.rf _) 2 (by decide)), (show ((2 : Int) = 1 ∧ (pa &&& (3 : Int32)).toInt ≠ 0) ∨ ((2 : Int) = 2 ∧ (pa &&& (3 : Int32)).toInt = 0 ∧ (pa.toInt < 0 ∨ 4 * (N : Int) < pa.toInt + 4)) ∨ ((2 : Int) = 0 ∧ (pa &&& (3 : Int32)).toInt = 0 ∧ (0 ≤ pa.toInt ∧ pa.toInt + 4 ≤ 4 * (N : Int))) from (om_e89b1b5b0b q13 z2 gn3 z11))⟩, by rw [ht9]; exact hP, hD⟩, hS.F ht9⟩) hS.2.2 dX13_poke_44
  · have z14 : (pa &&& (3 : Int32)).toInt ≠ (0 : Int) := ne_z rfl (show (0 : Int32).toInt = (0 : Int) by decide) h1
    refine lv_iconst (v := 1) hx hb dX13_poke_7 (by decide) ?_
    refine lv_goto (tgt := 25) hx hb dX13_poke_8 (by decide) ?_
    refine va_put (D := (dC, dI)) (ci := 16) (fs := mF ad v) (v := .int 1) (ty := .int) (C := RX13) (T := TX13) (N := 124) hx hb ht itX13 tyX13 tyX13_ok nmX13 hown hK hP hD hS 0 rfl rfl 0 (by decide) (ht _ tw_246) (fun _ h9 => h9) rfl (by decide +kernel) rfl rfl (Nat.le_of_ble_eq_true rfl) dX13_poke_25 (fun H locs hP hD hS => ?_)
    have hP := cP_ (mw_0 ad N cI cZ cJ v 1) hP
    have hD := cD_ (mw_0 ad N cI cZ cJ v 1) hD
    refine lv_aload_n hx hb dX13_poke_28 rfl (lv_at hl 0 rfl) ?_
    refine va_get (D := (dC, dI)) (ci := 16) (fs := mF ad (wA v 0 0 1)) (v := .int 1) (C := RX13) (T := TX13) (N := 124) hx hb ht itX13 hown hK hP 0 rfl rfl 0 (by decide) (ht _ tw_246) (fun _ h9 => h9) rfl dX13_poke_29 ?_
    refine lv_if_ne (tgt := 44) hx hb dX13_poke_32 (by decide) (fun _ => ?_) (fun k15 => absurd k15 (by decide))
    exact W.vret hx hb hr (fun t ht9 hW => ⟨⟨(wA v 0 0 1), rfl, ⟨(FG.f (FG.rf _) 1 (by decide)), (show ((1 : Int) = 1 ∧ (pa &&& (3 : Int32)).toInt ≠ 0) ∨ ((1 : Int) = 2 ∧ (pa &&& (3 : Int32)).toInt = 0 ∧ (pa.toInt < 0 ∨ 4 * (N : Int) < pa.toInt + 4)) ∨ ((1 : Int) = 0 ∧ (pa &&& (3 : Int32)).toInt = 0 ∧ (0 ≤ pa.toInt ∧ pa.toInt + 4 ≤ 4 * (N : Int))) from (om_696e8be82c z14))⟩, by rw [ht9]; exact hP, hD⟩, hS.F ht9⟩) hS.2.2 dX13_poke_44
set_option maxHeartbeats 4000000 in
set_option maxRecDepth 100000 in
theorem c_m_put (l : Launch) (dC : Nat → ClassId) (dI : Nat → Nat → Nat) (cI cB cZ cJ cR : ClassId) (tb : Nat → Nat) (sz : Nat) (ad : Nat → Nat) (N : Nat) (v : MS) (pa : Int32)  : Met l yX13_put (Cond.code yX13_put cX13_put 2 (some .int) :: tw_W) ({ frames := 0, cells := 0, slots := 0, locals := 0 }) (pc_ (dC, dI) (tyS cI cB cZ cJ cR) tb (mW ad N cI cZ cJ v) sz [.ref (ad 0), .int pa]) (qi_ (dC, dI) (mW ad N cI cZ cJ v) sz (fun (r : Int32) (u : MS) => FG [0] [0] v u) (fun (u : MS) => (mW ad N cI cZ cJ u))) 0 0 (va_A (mW ad N cI cZ cJ v) sz) := by
  refine Met.ofW (cc := cX13_put) (maxL := 2) (ret := (some .int)) (by decide) rfl ?_
  intro p e s m args below meth c s₁ B hml hv
  obtain ⟨rfl, hsz, hP, hKK, hD0, hFx⟩ := hv
  have hK := hKK.1
  have hx := B.exec
  have hb := B.bytes
  have hr := B.returns
  have ht : ∀ w ∈ tw_W, w.before _ s = true := fun w h => atoms_spec (ws := Cond.code yX13_put cX13_put 2 (some .int) :: tw_W) B.pre w (List.mem_cons_of_mem _ h)
  have hown : s.vm.findClass RX13 = some m.cls := findClass_of_methodNamed B.named
  have hlocks := B.notSynchronized
  subst hsz
  unfold qi_
  have hD := hD0.self (sz := s.heap.size)
  generalize hAe : va_A (mW ad N cI cZ cJ v) s.heap.size = A at hD hFx ⊢
  have hA : ∀ q : Nat, s.heap.size ≤ q → A q := fun q h => by rw [← hAe]; exact Or.inr h
  have hS : va_S A s.heap s.heap [] := va_S.rf
  have hl := lv_entry ([.ref (ad 0), .int pa]) (n := 2) (Nat.le_of_ble_eq_true rfl)
  rw [lg_entry_eq]
  generalize (lg_sl ([.ref (ad 0), .int pa]) ++ List.replicate (2 - (lg_sl ([.ref (ad 0), .int pa])).length) Slot.unset).toArray = ls at hl ⊢
  have hl : lv_has ls 2 [(0, .ref (ad 0)), (1, .int pa)] := hl
  refine lv_aload_n hx hb dX13_put_0 rfl (lv_at hl 0 rfl) ?_
  refine lv_iload_n hx hb dX13_put_1 rfl (lv_at hl 1 rfl) ?_
  refine lv_if_lt (tgt := 20) hx hb dX13_put_2 (by decide) (fun h1 => ?_) (fun h1 => ?_)
  · have z2 : pa.toInt < (0 : Int) := lt_z rfl (show (0 : Int32).toInt = (0 : Int) by decide) h1
    refine lv_iconst (v := 1) hx hb dX13_put_20 (by decide) ?_
    refine lv_goto (tgt := 25) hx hb dX13_put_21 (by decide) ?_
    refine va_put (D := (dC, dI)) (ci := 16) (fs := mF ad v) (v := .int 1) (ty := .int) (C := RX13) (T := TX13) (N := 124) hx hb ht itX13 tyX13 tyX13_ok nmX13 hown hK hP hD hS 0 rfl rfl 0 (by decide) (ht _ tw_246) (fun _ h9 => h9) rfl (by decide +kernel) rfl rfl (Nat.le_of_ble_eq_true rfl) dX13_put_25 (fun H locs hP hD hS => ?_)
    have hP := cP_ (mw_0 ad N cI cZ cJ v 1) hP
    have hD := cD_ (mw_0 ad N cI cZ cJ v 1) hD
    refine lv_aload_n hx hb dX13_put_28 rfl (lv_at hl 0 rfl) ?_
    refine va_get (D := (dC, dI)) (ci := 16) (fs := mF ad (wA v 0 0 1)) (v := .int 1) (C := RX13) (T := TX13) (N := 124) hx hb ht itX13 hown hK hP 0 rfl rfl 0 (by decide) (ht _ tw_246) (fun _ h9 => h9) rfl dX13_put_29 ?_
    refine lv_if_le (tgt := 39) hx hb dX13_put_32 (by decide) (fun k3 => absurd k3 (by decide)) (fun _ => ?_)
    refine lv_iconst (v := 0) hx hb dX13_put_35 (by decide) ?_
    refine lv_goto (tgt := 45) hx hb dX13_put_36 (by decide) ?_
    exact W.iret (v := 0) hx hb hr (fun t ht9 hW => ⟨⟨0, (wA v 0 0 1), rfl, (FG.f (FG.rf _) 1 (by decide)), by rw [ht9]; exact hP, hD⟩, hS.F ht9⟩) hS.2.2 dX13_put_45
  · have z4 : (0 : Int) ≤ pa.toInt := nlt_z rfl (show (0 : Int32).toInt = (0 : Int) by decide) h1
    refine lv_iload_n hx hb dX13_put_5 rfl (lv_at hl 1 rfl) ?_
    refine lv_aload_n hx hb dX13_put_6 rfl (lv_at hl 0 rfl) ?_
    refine va_get (D := (dC, dI)) (ci := 16) (fs := mF ad v) (v := .int (v.1 0 102)) (C := RX13) (T := TX13) (N := 124) hx hb ht itX13 hown hK hP 0 rfl rfl 102 (by decide) (ht _ tw_227) (fun _ h9 => h9) rfl dX13_put_7 ?_
    refine lv_icmp_ge (tgt := 20) hx hb dX13_put_10 (by decide) (fun h5 => ?_) (fun h5 => ?_)
    · have z6 : (v.1 0 102).toInt ≤ pa.toInt := le_z rfl rfl h5
      refine lv_iconst (v := 1) hx hb dX13_put_20 (by decide) ?_
      refine lv_goto (tgt := 25) hx hb dX13_put_21 (by decide) ?_
      refine va_put (D := (dC, dI)) (ci := 16) (fs := mF ad v) (v := .int 1) (ty := .int) (C := RX13) (T := TX13) (N := 124) hx hb ht itX13 tyX13 tyX13_ok nmX13 hown hK hP hD hS 0 rfl rfl 0 (by decide) (ht _ tw_246) (fun _ h9 => h9) rfl (by decide +kernel) rfl rfl (Nat.le_of_ble_eq_true rfl) dX13_put_25 (fun H locs hP hD hS => ?_)
      have hP := cP_ (mw_0 ad N cI cZ cJ v 1) hP
      have hD := cD_ (mw_0 ad N cI cZ cJ v 1) hD
      refine lv_aload_n hx hb dX13_put_28 rfl (lv_at hl 0 rfl) ?_
      refine va_get (D := (dC, dI)) (ci := 16) (fs := mF ad (wA v 0 0 1)) (v := .int 1) (C := RX13) (T := TX13) (N := 124) hx hb ht itX13 hown hK hP 0 rfl rfl 0 (by decide) (ht _ tw_246) (fun _ h9 => h9) rfl dX13_put_29 ?_
      refine lv_if_le (tgt := 39) hx hb dX13_put_32 (by decide) (fun k7 => absurd k7 (by decide)) (fun _ => ?_)
      refine lv_iconst (v := 0) hx hb dX13_put_35 (by decide) ?_
      refine lv_goto (tgt := 45) hx hb dX13_put_36 (by decide) ?_
      exact W.iret (v := 0) hx hb hr (fun t ht9 hW => ⟨⟨0, (wA v 0 0 1), rfl, (FG.f (FG.rf _) 1 (by decide)), by rw [ht9]; exact hP, hD⟩, hS.F ht9⟩) hS.2.2 dX13_put_45
    · have z8 : pa.toInt < (v.1 0 102).toInt := nle_z rfl rfl h5
      refine lv_iload_n hx hb dX13_put_13 rfl (lv_at hl 1 rfl) ?_
      refine lv_sipush (v := 200) hx hb dX13_put_14 (by decide) ?_
      refine lv_icmp_lt (tgt := 24) hx hb dX13_put_17 (by decide) (fun h9 => ?_) (fun h9 => ?_)
      · have z10 : pa.toInt < (200 : Int) := lt_z rfl (show (200 : Int32).toInt = (200 : Int) by decide) h9
        refine lv_iconst (v := 0) hx hb dX13_put_24 (by decide) ?_
        refine va_put (D := (dC, dI)) (ci := 16) (fs := mF ad v) (v := .int 0) (ty := .int) (C := RX13) (T := TX13) (N := 124) hx hb ht itX13 tyX13 tyX13_ok nmX13 hown hK hP hD hS 0 rfl rfl 0 (by decide) (ht _ tw_246) (fun _ h9 => h9) rfl (by decide +kernel) rfl rfl (Nat.le_of_ble_eq_true rfl) dX13_put_25 (fun H locs hP hD hS => ?_)
        have hP := cP_ (mw_0 ad N cI cZ cJ v 0) hP
        have hD := cD_ (mw_0 ad N cI cZ cJ v 0) hD
        refine lv_aload_n hx hb dX13_put_28 rfl (lv_at hl 0 rfl) ?_
        refine va_get (D := (dC, dI)) (ci := 16) (fs := mF ad (wA v 0 0 0)) (v := .int 0) (C := RX13) (T := TX13) (N := 124) hx hb ht itX13 hown hK hP 0 rfl rfl 0 (by decide) (ht _ tw_246) (fun _ h9 => h9) rfl dX13_put_29 ?_
        refine lv_if_le (tgt := 39) hx hb dX13_put_32 (by decide) (fun _ => ?_) (fun k11 => absurd k11 (by decide))
        refine lv_aload_n hx hb dX13_put_39 rfl (lv_at hl 0 rfl) ?_
        refine va_get (D := (dC, dI)) (ci := 16) (fs := mF ad (wA v 0 0 0)) (v := .ref (ad 101)) (C := RX13) (T := TX13) (N := 124) hx hb ht itX13 hown hK hP 0 rfl rfl 101 (by decide) (ht _ tw_228) (fun _ h9 => h9) rfl dX13_put_40 ?_
        refine lv_iload_n hx hb dX13_put_43 rfl (lv_at hl 1 rfl) ?_
        refine va_iald (D := (dC, dI)) (f := (v.1 101)) hx hb hK hP 54 0 rfl rfl (in_y (a := pa.toInt) (b := 200) rfl (om_51058f7f87 z4) (om_2a12793f64 z10) rfl) dX13_put_44 ?_
        exact W.iret (v := ((v.1 101) pa.toNatClampNeg)) hx hb hr (fun t ht9 hW => ⟨⟨((v.1 101) pa.toNatClampNeg), (wA v 0 0 0), rfl, (FG.f (FG.rf _) 0 (by decide)), by rw [ht9]; exact hP, hD⟩, hS.F ht9⟩) hS.2.2 dX13_put_45
      · have z12 : (200 : Int) ≤ pa.toInt := nlt_z rfl (show (200 : Int32).toInt = (200 : Int) by decide) h9
        refine lv_iconst (v := 1) hx hb dX13_put_20 (by decide) ?_
        refine lv_goto (tgt := 25) hx hb dX13_put_21 (by decide) ?_
        refine va_put (D := (dC, dI)) (ci := 16) (fs := mF ad v) (v := .int 1) (ty := .int) (C := RX13) (T := TX13) (N := 124) hx hb ht itX13 tyX13 tyX13_ok nmX13 hown hK hP hD hS 0 rfl rfl 0 (by decide) (ht _ tw_246) (fun _ h9 => h9) rfl (by decide +kernel) rfl rfl (Nat.le_of_ble_eq_true rfl) dX13_put_25 (fun H locs hP hD hS => ?_)
        have hP := cP_ (mw_0 ad N cI cZ cJ v 1) hP
        have hD := cD_ (mw_0 ad N cI cZ cJ v 1) hD
        refine lv_aload_n hx hb dX13_put_28 rfl (lv_at hl 0 rfl) ?_
        refine va_get (D := (dC, dI)) (ci := 16) (fs := mF ad (wA v 0 0 1)) (v := .int 1) (C := RX13) (T := TX13) (N := 124) hx hb ht itX13 hown hK hP 0 rfl rfl 0 (by decide) (ht _ tw_246) (fun _ h9 => h9) rfl dX13_put_29 ?_
        refine lv_if_le (tgt := 39) hx hb dX13_put_32 (by decide) (fun k13 => absurd k13 (by decide)) (fun _ => ?_)
        refine lv_iconst (v := 0) hx hb dX13_put_35 (by decide) ?_
        refine lv_goto (tgt := 45) hx hb dX13_put_36 (by decide) ?_
        exact W.iret (v := 0) hx hb hr (fun t ht9 hW => ⟨⟨0, (wA v 0 0 1), rfl, (FG.f (FG.rf _) 1 (by decide)), by rw [ht9]; exact hP, hD⟩, hS.F ht9⟩) hS.2.2 dX13_put_45
theorem om_51a229e12f {x0 : Int} (h0 : 0 ≤ x0 ∧ x0 ≤ 64) : 0 ≤ x0 := by omega
theorem om_14b987c231 {x0 : Int} (h0 : 0 ≤ x0 ∧ x0 ≤ 64) (h1 : x0 ≠ (64 : Int)) : x0 < 64 := by omega
theorem om_90d9998682 {x0 : Int} (h0 : 0 ≤ x0 ∧ x0 ≤ 64) : -2147483648 ≤ (x0) + (1 : Int) := by omega
theorem om_5b02532391 {x0 : Int} (h0 : 0 ≤ x0 ∧ x0 ≤ 64) : (x0) + (1 : Int) < 2147483648 := by omega
theorem om_633ba33ac7 {x0 x1 : Int} (h0 : 0 ≤ x0 ∧ x0 ≤ 64) (h1 : x0 ≠ (64 : Int)) (h2 : x1 = (x0) + (1 : Int)) : 0 ≤ x1 ∧ x1 ≤ 64 := by omega
theorem om_0d42dec190 {x0 x1 : Int} (h0 : 0 ≤ x0 ∧ x0 ≤ 64) (h1 : x0 ≠ (64 : Int)) (h2 : x1 = (x0) + (1 : Int)) : (x0 < 64 ∧ x1 = x0 + 1 ∧ x1 = x0 + 1) ∨ (x0 = 64 ∧ x1 = x0 ∧ x1 = -1) := by omega
theorem om_8c23cf66e6 {x0 : Int} (h0 : 0 ≤ x0 ∧ x0 ≤ 64) (h1 : x0 = (64 : Int)) : 0 ≤ x0 ∧ x0 ≤ 64 := by omega
theorem om_ab29c6a980 {x0 : Int} (h0 : 0 ≤ x0 ∧ x0 ≤ 64) (h1 : x0 = (64 : Int)) : (x0 < 64 ∧ x0 = x0 + 1 ∧ (-1 : Int) = x0 + 1) ∨ (x0 = 64 ∧ x0 = x0 ∧ (-1 : Int) = -1) := by omega
set_option maxHeartbeats 4000000 in
set_option maxRecDepth 100000 in
theorem c_m_give (l : Launch) (dC : Nat → ClassId) (dI : Nat → Nat → Nat) (cI cB cZ cJ cR : ClassId) (tb : Nat → Nat) (sz : Nat) (ad : Nat → Nat) (N : Nat) (v : MS) (pa : Int32) (zg : 0 ≤ (v.1 0 94).toInt ∧ (v.1 0 94).toInt ≤ 64) : Met l yX13_give (Cond.code yX13_give cX13_give 2 (some .int) :: tw_W) ({ frames := 0, cells := 0, slots := 0, locals := 0 }) (pc_ (dC, dI) (tyS cI cB cZ cJ cR) tb (mW ad N cI cZ cJ v) sz [.ref (ad 0), .int pa]) (qi_ (dC, dI) (mW ad N cI cZ cJ v) sz (fun (r : Int32) (u : MS) => FG [0, 94] [0, 93] v u ∧ (Q_m_give v pa r u) ∧ (0 ≤ (u.1 0 94).toInt ∧ (u.1 0 94).toInt ≤ 64) ∧ (((v.1 0 94).toInt < 64 ∧ (u.1 0 94).toInt = (v.1 0 94).toInt + 1 ∧ r.toInt = (v.1 0 94).toInt + 1) ∨ ((v.1 0 94).toInt = 64 ∧ (u.1 0 94).toInt = (v.1 0 94).toInt ∧ r.toInt = -1))) (fun (u : MS) => (mW ad N cI cZ cJ u))) 0 0 (va_A (mW ad N cI cZ cJ v) sz) := by
  refine Met.ofW (cc := cX13_give) (maxL := 2) (ret := (some .int)) (by decide) rfl ?_
  intro p e s m args below meth c s₁ B hml hv
  obtain ⟨rfl, hsz, hP, hKK, hD0, hFx⟩ := hv
  have hK := hKK.1
  have hx := B.exec
  have hb := B.bytes
  have hr := B.returns
  have ht : ∀ w ∈ tw_W, w.before _ s = true := fun w h => atoms_spec (ws := Cond.code yX13_give cX13_give 2 (some .int) :: tw_W) B.pre w (List.mem_cons_of_mem _ h)
  have hown : s.vm.findClass RX13 = some m.cls := findClass_of_methodNamed B.named
  have hlocks := B.notSynchronized
  subst hsz
  unfold qi_
  have hD := hD0.self (sz := s.heap.size)
  generalize hAe : va_A (mW ad N cI cZ cJ v) s.heap.size = A at hD hFx ⊢
  have hA : ∀ q : Nat, s.heap.size ≤ q → A q := fun q h => by rw [← hAe]; exact Or.inr h
  have hS : va_S A s.heap s.heap [] := va_S.rf
  have hl := lv_entry ([.ref (ad 0), .int pa]) (n := 2) (Nat.le_of_ble_eq_true rfl)
  rw [lg_entry_eq]
  generalize (lg_sl ([.ref (ad 0), .int pa]) ++ List.replicate (2 - (lg_sl ([.ref (ad 0), .int pa])).length) Slot.unset).toArray = ls at hl ⊢
  have hl : lv_has ls 2 [(0, .ref (ad 0)), (1, .int pa)] := hl
  refine lv_aload_n hx hb dX13_give_0 rfl (lv_at hl 0 rfl) ?_
  refine lv_iconst (v := 0) hx hb dX13_give_1 (by decide) ?_
  refine va_put (D := (dC, dI)) (ci := 16) (fs := mF ad v) (v := .int 0) (ty := .int) (C := RX13) (T := TX13) (N := 124) hx hb ht itX13 tyX13 tyX13_ok nmX13 hown hK hP hD hS 0 rfl rfl 0 (by decide) (ht _ tw_246) (fun _ h9 => h9) rfl (by decide +kernel) rfl rfl (Nat.le_of_ble_eq_true rfl) dX13_give_2 (fun H locs hP hD hS => ?_)
  have hP := cP_ (mw_0 ad N cI cZ cJ v 0) hP
  have hD := cD_ (mw_0 ad N cI cZ cJ v 0) hD
  refine lv_aload_n hx hb dX13_give_5 rfl (lv_at hl 0 rfl) ?_
  refine va_get (D := (dC, dI)) (ci := 16) (fs := mF ad (wA v 0 0 0)) (v := .int (v.1 0 94)) (C := RX13) (T := TX13) (N := 124) hx hb ht itX13 hown hK hP 0 rfl rfl 94 (by decide) (ht _ tw_225) (fun _ h9 => h9) rfl dX13_give_6 ?_
  refine lv_bipush (v := 64) hx hb dX13_give_9 (by decide) ?_
  refine lv_icmp_ne (tgt := 16) hx hb dX13_give_11 (by decide) (fun h1 => ?_) (fun h1 => ?_)
  · have z2 : (v.1 0 94).toInt ≠ (64 : Int) := ne_z rfl (show (64 : Int32).toInt = (64 : Int) by decide) h1
    refine lv_aload_n hx hb dX13_give_16 rfl (lv_at hl 0 rfl) ?_
    refine va_get (D := (dC, dI)) (ci := 16) (fs := mF ad (wA v 0 0 0)) (v := .ref (ad 93)) (C := RX13) (T := TX13) (N := 124) hx hb ht itX13 hown hK hP 0 rfl rfl 93 (by decide) (ht _ tw_226) (fun _ h9 => h9) rfl dX13_give_17 ?_
    refine lv_aload_n hx hb dX13_give_20 rfl (lv_at hl 0 rfl) ?_
    refine va_get (D := (dC, dI)) (ci := 16) (fs := mF ad (wA v 0 0 0)) (v := .int (v.1 0 94)) (C := RX13) (T := TX13) (N := 124) hx hb ht itX13 hown hK hP 0 rfl rfl 94 (by decide) (ht _ tw_225) (fun _ h9 => h9) rfl dX13_give_21 ?_
    refine lv_iload_n hx hb dX13_give_24 rfl (lv_at hl 1 rfl) ?_
    refine va_iast (D := (dC, dI)) (f := (v.1 93)) hx hb hK hP hD hS 51 0 rfl rfl (in_y (a := (v.1 0 94).toInt) (b := 64) rfl (om_51a229e12f zg) (om_14b987c231 zg z2) rfl) dX13_give_25 (fun H locs hP hD hS => ?_)
    have hP := cP_ (ma_93 ad N cI cZ cJ (wA v 0 0 0) ((v.1 0 94).toNatClampNeg) pa) hP
    have hD := cD_ (ma_93 ad N cI cZ cJ (wA v 0 0 0) ((v.1 0 94).toNatClampNeg) pa) hD
    refine lv_aload_n hx hb dX13_give_26 rfl (lv_at hl 0 rfl) ?_
    refine lv_dup hx hb dX13_give_27 rfl ?_
    refine va_get (D := (dC, dI)) (ci := 16) (fs := mF ad (wA (wA v 0 0 0) 93 ((v.1 0 94).toNatClampNeg) pa)) (v := .int (v.1 0 94)) (C := RX13) (T := TX13) (N := 124) hx hb ht itX13 hown hK hP 0 rfl rfl 94 (by decide) (ht _ tw_225) (fun _ h9 => h9) rfl dX13_give_28 ?_
    refine lv_iconst (v := 1) hx hb dX13_give_31 (by decide) ?_
    refine lv_iadd hx hb dX13_give_32 ?_
    have z3 : ((v.1 0 94) + (1 : Int32)).toInt = ((v.1 0 94).toInt) + (1 : Int) := add_z rfl (show (1 : Int32).toInt = (1 : Int) by decide) (om_90d9998682 zg) (om_5b02532391 zg)
    refine va_put (D := (dC, dI)) (ci := 16) (fs := mF ad (wA (wA v 0 0 0) 93 ((v.1 0 94).toNatClampNeg) pa)) (v := .int ((v.1 0 94) + (1 : Int32))) (ty := .int) (C := RX13) (T := TX13) (N := 124) hx hb ht itX13 tyX13 tyX13_ok nmX13 hown hK hP hD hS 0 rfl rfl 94 (by decide) (ht _ tw_225) (fun _ h9 => h9) rfl (by decide +kernel) rfl rfl (Nat.le_of_ble_eq_true rfl) dX13_give_33 (fun H locs hP hD hS => ?_)
    have hP := cP_ (mw_94 ad N cI cZ cJ (wA (wA v 0 0 0) 93 ((v.1 0 94).toNatClampNeg) pa) ((v.1 0 94) + (1 : Int32))) hP
    have hD := cD_ (mw_94 ad N cI cZ cJ (wA (wA v 0 0 0) 93 ((v.1 0 94).toNatClampNeg) pa) ((v.1 0 94) + (1 : Int32))) hD
    refine lv_aload_n hx hb dX13_give_36 rfl (lv_at hl 0 rfl) ?_
    refine va_get (D := (dC, dI)) (ci := 16) (fs := mF ad (wA (wA (wA v 0 0 0) 93 ((v.1 0 94).toNatClampNeg) pa) 0 94 ((v.1 0 94) + (1 : Int32)))) (v := .int ((v.1 0 94) + (1 : Int32))) (C := RX13) (T := TX13) (N := 124) hx hb ht itX13 hown hK hP 0 rfl rfl 94 (by decide) (ht _ tw_225) (fun _ h9 => h9) rfl dX13_give_37 ?_
    exact W.iret (v := ((v.1 0 94) + (1 : Int32))) hx hb hr (fun t ht9 hW => ⟨⟨((v.1 0 94) + (1 : Int32)), (wA (wA (wA v 0 0 0) 93 ((v.1 0 94).toNatClampNeg) pa) 0 94 ((v.1 0 94) + (1 : Int32))), rfl, ⟨(FG.f (FG.a (FG.f (FG.rf _) 0 (by decide)) ((v.1 0 94).toNatClampNeg) pa (by decide) (by decide)) ((v.1 0 94) + (1 : Int32)) (by decide)), ⟨zg, (Or.inl ⟨z2, rfl, rfl⟩)⟩, (show 0 ≤ ((v.1 0 94) + (1 : Int32)).toInt ∧ ((v.1 0 94) + (1 : Int32)).toInt ≤ 64 from (om_633ba33ac7 zg z2 z3)), (show ((v.1 0 94).toInt < 64 ∧ ((v.1 0 94) + (1 : Int32)).toInt = (v.1 0 94).toInt + 1 ∧ ((v.1 0 94) + (1 : Int32)).toInt = (v.1 0 94).toInt + 1) ∨ ((v.1 0 94).toInt = 64 ∧ ((v.1 0 94) + (1 : Int32)).toInt = (v.1 0 94).toInt ∧ ((v.1 0 94) + (1 : Int32)).toInt = -1) from (om_0d42dec190 zg z2 z3))⟩, by rw [ht9]; exact hP, hD⟩, hS.F ht9⟩) hS.2.2 dX13_give_40
  · have z4 : (v.1 0 94).toInt = (64 : Int) := eq_z rfl (show (64 : Int32).toInt = (64 : Int) by decide) h1
    refine lv_iconst (v := -1) hx hb dX13_give_14 (by decide) ?_
    exact W.iret (v := (-1)) hx hb hr (fun t ht9 hW => ⟨⟨(-1), (wA v 0 0 0), rfl, ⟨(FG.f (FG.rf _) 0 (by decide)), ⟨zg, (Or.inr (⟨z4, rfl, rfl⟩))⟩, (show 0 ≤ (v.1 0 94).toInt ∧ (v.1 0 94).toInt ≤ 64 from (om_8c23cf66e6 zg z4)), (show ((v.1 0 94).toInt < 64 ∧ (v.1 0 94).toInt = (v.1 0 94).toInt + 1 ∧ (-1 : Int) = (v.1 0 94).toInt + 1) ∨ ((v.1 0 94).toInt = 64 ∧ (v.1 0 94).toInt = (v.1 0 94).toInt ∧ (-1 : Int) = -1) from (om_ab29c6a980 zg z4))⟩, by rw [ht9]; exact hP, hD⟩, hS.F ht9⟩) hS.2.2 dX13_give_15
theorem om_3ff73904e8 : (0 : Int) = 0 := by omega
set_option maxHeartbeats 4000000 in
set_option maxRecDepth 100000 in
theorem c_m_forget (l : Launch) (dC : Nat → ClassId) (dI : Nat → Nat → Nat) (cI cB cZ cJ cR : ClassId) (tb : Nat → Nat) (sz : Nat) (ad : Nat → Nat) (N : Nat) (v : MS)   : Met l yX13_forget (Cond.code yX13_forget cX13_forget 2 (some .int) :: tw_W) ({ frames := 0, cells := 0, slots := 0, locals := 0 }) (pc_ (dC, dI) (tyS cI cB cZ cJ cR) tb (mW ad N cI cZ cJ v) sz [.ref (ad 0)]) (qi_ (dC, dI) (mW ad N cI cZ cJ v) sz (fun (r : Int32) (u : MS) => FG [0, 94] [0] v u ∧ ((u.1 0 94).toInt = 0) ∧ (r.toInt = (v.1 0 94).toInt)) (fun (u : MS) => (mW ad N cI cZ cJ u))) 0 0 (va_A (mW ad N cI cZ cJ v) sz) := by
  refine Met.ofW (cc := cX13_forget) (maxL := 2) (ret := (some .int)) (by decide) rfl ?_
  intro p e s m args below meth c s₁ B hml hv
  obtain ⟨rfl, hsz, hP, hKK, hD0, hFx⟩ := hv
  have hK := hKK.1
  have hx := B.exec
  have hb := B.bytes
  have hr := B.returns
  have ht : ∀ w ∈ tw_W, w.before _ s = true := fun w h => atoms_spec (ws := Cond.code yX13_forget cX13_forget 2 (some .int) :: tw_W) B.pre w (List.mem_cons_of_mem _ h)
  have hown : s.vm.findClass RX13 = some m.cls := findClass_of_methodNamed B.named
  have hlocks := B.notSynchronized
  subst hsz
  unfold qi_
  have hD := hD0.self (sz := s.heap.size)
  generalize hAe : va_A (mW ad N cI cZ cJ v) s.heap.size = A at hD hFx ⊢
  have hA : ∀ q : Nat, s.heap.size ≤ q → A q := fun q h => by rw [← hAe]; exact Or.inr h
  have hS : va_S A s.heap s.heap [] := va_S.rf
  have hl := lv_entry ([.ref (ad 0)]) (n := 2) (Nat.le_of_ble_eq_true rfl)
  rw [lg_entry_eq]
  generalize (lg_sl ([.ref (ad 0)]) ++ List.replicate (2 - (lg_sl ([.ref (ad 0)])).length) Slot.unset).toArray = ls at hl ⊢
  have hl : lv_has ls 2 [(0, .ref (ad 0))] := hl
  refine lv_aload_n hx hb dX13_forget_0 rfl (lv_at hl 0 rfl) ?_
  refine lv_iconst (v := 0) hx hb dX13_forget_1 (by decide) ?_
  refine va_put (D := (dC, dI)) (ci := 16) (fs := mF ad v) (v := .int 0) (ty := .int) (C := RX13) (T := TX13) (N := 124) hx hb ht itX13 tyX13 tyX13_ok nmX13 hown hK hP hD hS 0 rfl rfl 0 (by decide) (ht _ tw_246) (fun _ h9 => h9) rfl (by decide +kernel) rfl rfl (Nat.le_of_ble_eq_true rfl) dX13_forget_2 (fun H locs hP hD hS => ?_)
  have hP := cP_ (mw_0 ad N cI cZ cJ v 0) hP
  have hD := cD_ (mw_0 ad N cI cZ cJ v 0) hD
  refine lv_aload_n hx hb dX13_forget_5 rfl (lv_at hl 0 rfl) ?_
  refine va_get (D := (dC, dI)) (ci := 16) (fs := mF ad (wA v 0 0 0)) (v := .int (v.1 0 94)) (C := RX13) (T := TX13) (N := 124) hx hb ht itX13 hown hK hP 0 rfl rfl 94 (by decide) (ht _ tw_225) (fun _ h9 => h9) rfl dX13_forget_6 ?_
  refine lv_istore_n (lv' := [(1, .int (v.1 0 94)), (0, .ref (ad 0))]) hx hb dX13_forget_9 rfl hl (by decide) rfl (fun ls hl => ?_)
  refine lv_aload_n hx hb dX13_forget_10 rfl (lv_at hl 1 rfl) ?_
  refine lv_iconst (v := 0) hx hb dX13_forget_11 (by decide) ?_
  refine va_put (D := (dC, dI)) (ci := 16) (fs := mF ad (wA v 0 0 0)) (v := .int 0) (ty := .int) (C := RX13) (T := TX13) (N := 124) hx hb ht itX13 tyX13 tyX13_ok nmX13 hown hK hP hD hS 0 rfl rfl 94 (by decide) (ht _ tw_225) (fun _ h9 => h9) rfl (by decide +kernel) rfl rfl (Nat.le_of_ble_eq_true rfl) dX13_forget_12 (fun H locs hP hD hS => ?_)
  have hP := cP_ (mw_94 ad N cI cZ cJ (wA v 0 0 0) 0) hP
  have hD := cD_ (mw_94 ad N cI cZ cJ (wA v 0 0 0) 0) hD
  refine lv_iload_n hx hb dX13_forget_15 rfl (lv_at hl 0 rfl) ?_
  exact W.iret (v := (v.1 0 94)) hx hb hr (fun t ht9 hW => ⟨⟨(v.1 0 94), (wA (wA v 0 0 0) 0 94 0), rfl, ⟨(FG.f (FG.f (FG.rf _) 0 (by decide)) 0 (by decide)), (show (0 : Int) = 0 from om_3ff73904e8), (show (v.1 0 94).toInt = (v.1 0 94).toInt from om_93d572ac38)⟩, by rw [ht9]; exact hP, hD⟩, hS.F ht9⟩) hS.2.2 dX13_forget_16
theorem om_c36c118827 {x0 : Int} : ((24 : Int) = 24 ∧ x0 = x0) ∨ ((24 : Int) = 16 ∧ x0 = x0 + 1) ∨ ((24 : Int) = 8 ∧ x0 = x0 + 2) ∨ ((24 : Int) = 0 ∧ x0 = x0 + 3) ∨ ((24 : Int) = -8 ∧ x0 = x0 + 4) := by omega
theorem om_908c9dcae2 {x0 x1 x2 : Int} (h0 : (x0 = 24 ∧ x1 = x2) ∨ (x0 = 16 ∧ x1 = x2 + 1) ∨ (x0 = 8 ∧ x1 = x2 + 2) ∨ (x0 = 0 ∧ x1 = x2 + 3) ∨ (x0 = -8 ∧ x1 = x2 + 4)) (h1 : x0 < (0 : Int)) : x1 = x2 + 4 := by omega
theorem om_b6b6aa1b3d {x0 x1 x2 : Int} (h0 : 0 ≤ x0 ∧ x0 ≤ 3996) (h1 : (x1 = 24 ∧ x2 = x0) ∨ (x1 = 16 ∧ x2 = x0 + 1) ∨ (x1 = 8 ∧ x2 = x0 + 2) ∨ (x1 = 0 ∧ x2 = x0 + 3) ∨ (x1 = -8 ∧ x2 = x0 + 4)) (h2 : (0 : Int) ≤ x1) : 0 ≤ x2 := by omega
theorem om_7fcbaa2470 {x0 x1 x2 : Int} (h0 : 0 ≤ x0 ∧ x0 ≤ 3996) (h1 : (x1 = 24 ∧ x2 = x0) ∨ (x1 = 16 ∧ x2 = x0 + 1) ∨ (x1 = 8 ∧ x2 = x0 + 2) ∨ (x1 = 0 ∧ x2 = x0 + 3) ∨ (x1 = -8 ∧ x2 = x0 + 4)) (h2 : (0 : Int) ≤ x1) : x2 < 4000 := by omega
theorem om_67e7b8ec47 {x0 x1 x2 : Int} (h0 : 0 ≤ x0 ∧ x0 ≤ 3996) (h1 : (x1 = 24 ∧ x2 = x0) ∨ (x1 = 16 ∧ x2 = x0 + 1) ∨ (x1 = 8 ∧ x2 = x0 + 2) ∨ (x1 = 0 ∧ x2 = x0 + 3) ∨ (x1 = -8 ∧ x2 = x0 + 4)) (h2 : (0 : Int) ≤ x1) : -2147483648 ≤ (x2) + (1 : Int) := by omega
theorem om_3913501158 {x0 x1 x2 : Int} (h0 : 0 ≤ x0 ∧ x0 ≤ 3996) (h1 : (x1 = 24 ∧ x2 = x0) ∨ (x1 = 16 ∧ x2 = x0 + 1) ∨ (x1 = 8 ∧ x2 = x0 + 2) ∨ (x1 = 0 ∧ x2 = x0 + 3) ∨ (x1 = -8 ∧ x2 = x0 + 4)) (h2 : (0 : Int) ≤ x1) : (x2) + (1 : Int) < 2147483648 := by omega
theorem om_ac11f45ced {x0 : Int} (h0 : (0 : Int) ≤ x0) : -2147483648 ≤ x0 + (-8 : Int) := by omega
theorem om_d2a1c0a5f4 {x0 x1 x2 : Int} (h0 : (x0 = 24 ∧ x1 = x2) ∨ (x0 = 16 ∧ x1 = x2 + 1) ∨ (x0 = 8 ∧ x1 = x2 + 2) ∨ (x0 = 0 ∧ x1 = x2 + 3) ∨ (x0 = -8 ∧ x1 = x2 + 4)) (h1 : (0 : Int) ≤ x0) : x0 + (-8 : Int) < 2147483648 := by omega
theorem om_f5c41e4356 {x0 x1 x2 x3 x4 : Int} (h0 : (x0 = 24 ∧ x1 = x2) ∨ (x0 = 16 ∧ x1 = x2 + 1) ∨ (x0 = 8 ∧ x1 = x2 + 2) ∨ (x0 = 0 ∧ x1 = x2 + 3) ∨ (x0 = -8 ∧ x1 = x2 + 4)) (h1 : (0 : Int) ≤ x0) (h2 : x3 = (x1) + (1 : Int)) (h3 : x4 = x0 + (-8 : Int)) : (x4 = 24 ∧ x3 = x2) ∨ (x4 = 16 ∧ x3 = x2 + 1) ∨ (x4 = 8 ∧ x3 = x2 + 2) ∨ (x4 = 0 ∧ x3 = x2 + 3) ∨ (x4 = -8 ∧ x3 = x2 + 4) := by omega
theorem om_7daa630335 {x0 x1 : Int} (h0 : x0 = x1 + (-8 : Int)) : x0 + 8 < x1 + 8 := by omega
theorem om_6819d4a94b {x0 : Int} (h0 : (0 : Int) ≤ x0) : 0 < x0 + 8 := by omega
set_option maxHeartbeats 4000000 in
set_option maxRecDepth 100000 in
theorem c_m_four (l : Launch) (dC : Nat → ClassId) (dI : Nat → Nat → Nat) (cI cB cZ cJ cR : ClassId) (tb : Nat → Nat) (sz : Nat) (ad : Nat → Nat) (N : Nat) (v : MS) (pa : Int32) (zta : 0 ≤ (v.1 0 2).toInt ∧ (v.1 0 2).toInt ≤ 3996) : Met l yX13_four (Cond.code yX13_four cX13_four 3 none :: tw_W) ({ frames := 0, cells := 0, slots := 0, locals := 0 }) (pc_ (dC, dI) (tyS cI cB cZ cJ cR) tb (mW ad N cI cZ cJ v) sz [.ref (ad 0), .int pa]) (qv_ (dC, dI) (mW ad N cI cZ cJ v) sz (fun (u : MS) => FG [2] [0, 1] v u ∧ (Q_m_four v pa u) ∧ ((u.1 0 2).toInt = (v.1 0 2).toInt + 4)) (fun (u : MS) => (mW ad N cI cZ cJ u))) 0 0 (va_A (mW ad N cI cZ cJ v) sz) := by
  refine Met.ofW (cc := cX13_four) (maxL := 3) (ret := none) (by decide) rfl ?_
  intro p e s m args below meth c s₁ B hml hv
  obtain ⟨rfl, hsz, hP, hKK, hD0, hFx⟩ := hv
  have hK := hKK.1
  have hx := B.exec
  have hb := B.bytes
  have hr := B.returns
  have ht : ∀ w ∈ tw_W, w.before _ s = true := fun w h => atoms_spec (ws := Cond.code yX13_four cX13_four 3 none :: tw_W) B.pre w (List.mem_cons_of_mem _ h)
  have hown : s.vm.findClass RX13 = some m.cls := findClass_of_methodNamed B.named
  have hlocks := B.notSynchronized
  subst hsz
  unfold qv_
  have hD := hD0.self (sz := s.heap.size)
  generalize hAe : va_A (mW ad N cI cZ cJ v) s.heap.size = A at hD hFx ⊢
  have hA : ∀ q : Nat, s.heap.size ≤ q → A q := fun q h => by rw [← hAe]; exact Or.inr h
  have hS : va_S A s.heap s.heap [] := va_S.rf
  have hl := lv_entry ([.ref (ad 0), .int pa]) (n := 3) (Nat.le_of_ble_eq_true rfl)
  rw [lg_entry_eq]
  generalize (lg_sl ([.ref (ad 0), .int pa]) ++ List.replicate (3 - (lg_sl ([.ref (ad 0), .int pa])).length) Slot.unset).toArray = ls at hl ⊢
  have hl : lv_has ls 3 [(0, .ref (ad 0)), (1, .int pa)] := hl
  refine lv_bipush (v := 24) hx hb dX13_four_0 (by decide) ?_
  refine lv_istore_n (lv' := [(2, .int 24), (0, .ref (ad 0)), (1, .int pa)]) hx hb dX13_four_2 rfl hl (by decide) rfl (fun ls hl => ?_)
  refine lpm_ (X := Int32 × MS) (P := (fun (x9 : Int32 × MS) (H : Heap) (locs : List Loc) (ls : Array Slot) => (FG [2] [0, 1] v x9.2) ∧ ((x9.1.toInt = 24 ∧ (x9.2.1 0 2).toInt = (v.1 0 2).toInt) ∨ (x9.1.toInt = 16 ∧ (x9.2.1 0 2).toInt = (v.1 0 2).toInt + 1) ∨ (x9.1.toInt = 8 ∧ (x9.2.1 0 2).toInt = (v.1 0 2).toInt + 2) ∨ (x9.1.toInt = 0 ∧ (x9.2.1 0 2).toInt = (v.1 0 2).toInt + 3) ∨ (x9.1.toInt = -8 ∧ (x9.2.1 0 2).toInt = (v.1 0 2).toInt + 4)) ∧ (RT (Q_m_four_L0 v pa) (24, v) (x9.1, x9.2)) ∧ va_P (dC, dI) vwCl (mW ad N cI cZ cJ x9.2) H ∧ va_D A (mW ad N cI cZ cJ x9.2) ∧ va_S A s.heap H locs ∧ lv_has ls 3 [(2, .int x9.1), (0, .ref (ad 0)), (1, .int pa)])) (fun x9 => (x9.1.toInt + 8).toNat) 3 (fun x9 H locs ls hh ih3 => ?_) (24, v) _ _ _ ⟨(show FG [2] [0, 1] v v from (FG.rf _)), (show ((24 : Int) = 24 ∧ (v.1 0 2).toInt = (v.1 0 2).toInt) ∨ ((24 : Int) = 16 ∧ (v.1 0 2).toInt = (v.1 0 2).toInt + 1) ∨ ((24 : Int) = 8 ∧ (v.1 0 2).toInt = (v.1 0 2).toInt + 2) ∨ ((24 : Int) = 0 ∧ (v.1 0 2).toInt = (v.1 0 2).toInt + 3) ∨ ((24 : Int) = -8 ∧ (v.1 0 2).toInt = (v.1 0 2).toInt + 4) from om_c36c118827), RT.rf, hP, hD, hS, lv_sub hl [0, 1, 2] rfl⟩
  obtain ⟨ka, w3⟩ := x9
  obtain ⟨fwL3, e1L3, exL3, hP, hD, hS, hl⟩ := hh
  have fwL3 : FG [2] [0, 1] v w3 := fwL3
  have e1L3 : (ka.toInt = 24 ∧ (w3.1 0 2).toInt = (v.1 0 2).toInt) ∨ (ka.toInt = 16 ∧ (w3.1 0 2).toInt = (v.1 0 2).toInt + 1) ∨ (ka.toInt = 8 ∧ (w3.1 0 2).toInt = (v.1 0 2).toInt + 2) ∨ (ka.toInt = 0 ∧ (w3.1 0 2).toInt = (v.1 0 2).toInt + 3) ∨ (ka.toInt = -8 ∧ (w3.1 0 2).toInt = (v.1 0 2).toInt + 4) := e1L3
  have hP : va_P (dC, dI) vwCl (mW ad N cI cZ cJ w3) H := hP
  have hD : va_D A (mW ad N cI cZ cJ w3) := hD
  have hl : lv_has ls 3 [(2, .int ka), (0, .ref (ad 0)), (1, .int pa)] := hl
  refine lv_iload_n hx hb dX13_four_3 rfl (lv_at hl 0 rfl) ?_
  refine lv_if_lt (tgt := 39) hx hb dX13_four_4 (by decide) (fun h1 => ?_) (fun h1 => ?_)
  · have z2 : ka.toInt < (0 : Int) := lt_z rfl (show (0 : Int32).toInt = (0 : Int) by decide) h1
    exact W.vret hx hb hr (fun t ht9 hW => ⟨⟨w3, rfl, ⟨(FG.tr (FG.rf _) (FG.up fwL3 (by decide) (by decide))), ⟨zta, ka, w3, exL3, fwL3, e1L3, z2, rfl⟩, (show (w3.1 0 2).toInt = (v.1 0 2).toInt + 4 from (om_908c9dcae2 e1L3 z2))⟩, by rw [ht9]; exact hP, hD⟩, hS.F ht9⟩) hS.2.2 dX13_four_39
  · have z3 : (0 : Int) ≤ ka.toInt := nlt_z rfl (show (0 : Int32).toInt = (0 : Int) by decide) h1
    refine lv_aload_n hx hb dX13_four_7 rfl (lv_at hl 1 rfl) ?_
    refine va_get (D := (dC, dI)) (ci := 16) (fs := mF ad w3) (v := .ref (ad 1)) (C := RX13) (T := TX13) (N := 124) hx hb ht itX13 hown hK hP 0 rfl rfl 1 (by decide) (ht _ tw_250) (fun _ h9 => h9) rfl dX13_four_8 ?_
    refine lv_aload_n hx hb dX13_four_11 rfl (lv_at hl 1 rfl) ?_
    refine va_get (D := (dC, dI)) (ci := 16) (fs := mF ad w3) (v := .int (w3.1 0 2)) (C := RX13) (T := TX13) (N := 124) hx hb ht itX13 hown hK hP 0 rfl rfl 2 (by decide) (ht _ tw_251) (fun _ h9 => h9) rfl dX13_four_12 ?_
    refine lv_iload_n hx hb dX13_four_15 rfl (lv_at hl 2 rfl) ?_
    refine lv_iload_n hx hb dX13_four_16 rfl (lv_at hl 0 rfl) ?_
    refine lv_ishr hx hb dX13_four_17 ?_
    refine lv_sipush (v := 255) hx hb dX13_four_18 (by decide) ?_
    refine lv_iand hx hb dX13_four_21 ?_
    refine va_iast (D := (dC, dI)) (f := (w3.1 1)) hx hb hK hP hD hS 1 0 rfl rfl (in_y (a := (w3.1 0 2).toInt) (b := 4000) rfl (om_b6b6aa1b3d zta e1L3 z3) (om_7fcbaa2470 zta e1L3 z3) rfl) dX13_four_22 (fun H locs hP hD hS => ?_)
    have hP := cP_ (ma_1 ad N cI cZ cJ w3 ((w3.1 0 2).toNatClampNeg) ((pa >>> (ka &&& 31)) &&& (255 : Int32))) hP
    have hD := cD_ (ma_1 ad N cI cZ cJ w3 ((w3.1 0 2).toNatClampNeg) ((pa >>> (ka &&& 31)) &&& (255 : Int32))) hD
    refine lv_aload_n hx hb dX13_four_23 rfl (lv_at hl 1 rfl) ?_
    refine lv_dup hx hb dX13_four_24 rfl ?_
    refine va_get (D := (dC, dI)) (ci := 16) (fs := mF ad (wA w3 1 ((w3.1 0 2).toNatClampNeg) ((pa >>> (ka &&& 31)) &&& (255 : Int32)))) (v := .int (w3.1 0 2)) (C := RX13) (T := TX13) (N := 124) hx hb ht itX13 hown hK hP 0 rfl rfl 2 (by decide) (ht _ tw_251) (fun _ h9 => h9) rfl dX13_four_25 ?_
    refine lv_iconst (v := 1) hx hb dX13_four_28 (by decide) ?_
    refine lv_iadd hx hb dX13_four_29 ?_
    have z4 : ((w3.1 0 2) + (1 : Int32)).toInt = ((w3.1 0 2).toInt) + (1 : Int) := add_z rfl (show (1 : Int32).toInt = (1 : Int) by decide) (om_67e7b8ec47 zta e1L3 z3) (om_3913501158 zta e1L3 z3)
    refine va_put (D := (dC, dI)) (ci := 16) (fs := mF ad (wA w3 1 ((w3.1 0 2).toNatClampNeg) ((pa >>> (ka &&& 31)) &&& (255 : Int32)))) (v := .int ((w3.1 0 2) + (1 : Int32))) (ty := .int) (C := RX13) (T := TX13) (N := 124) hx hb ht itX13 tyX13 tyX13_ok nmX13 hown hK hP hD hS 0 rfl rfl 2 (by decide) (ht _ tw_251) (fun _ h9 => h9) rfl (by decide +kernel) rfl rfl (Nat.le_of_ble_eq_true rfl) dX13_four_30 (fun H locs hP hD hS => ?_)
    have hP := cP_ (mw_2 ad N cI cZ cJ (wA w3 1 ((w3.1 0 2).toNatClampNeg) ((pa >>> (ka &&& 31)) &&& (255 : Int32))) ((w3.1 0 2) + (1 : Int32))) hP
    have hD := cD_ (mw_2 ad N cI cZ cJ (wA w3 1 ((w3.1 0 2).toNatClampNeg) ((pa >>> (ka &&& 31)) &&& (255 : Int32))) ((w3.1 0 2) + (1 : Int32))) hD
    refine lv_iinc (v := (ka + (-8 : Int32))) (lv' := [(2, .int (ka + (-8 : Int32))), (0, .ref (ad 0)), (1, .int pa)]) hx hb dX13_four_33 hl (k := 0) rfl (rfl) (by decide) rfl (fun ls hl => ?_)
    have z5 : (ka + (-8 : Int32)).toInt = ka.toInt + (-8 : Int) := add_z rfl (show ((-8) : Int32).toInt = (-8 : Int) by decide) (om_ac11f45ced z3) (om_d2a1c0a5f4 e1L3 z3)
    refine lv_goto (tgt := 3) hx hb dX13_four_36 (by decide) ?_
    exact ih3 ((ka + (-8 : Int32)), (wA (wA w3 1 ((w3.1 0 2).toNatClampNeg) ((pa >>> (ka &&& 31)) &&& (255 : Int32))) 0 2 ((w3.1 0 2) + (1 : Int32)))) _ _ _ (show ((ka + (-8 : Int32)).toInt + 8).toNat < (ka.toInt + 8).toNat from tn_z (om_7daa630335 z5) (om_6819d4a94b z3)) ⟨(show FG [2] [0, 1] v (wA (wA w3 1 ((w3.1 0 2).toNatClampNeg) ((pa >>> (ka &&& 31)) &&& (255 : Int32))) 0 2 ((w3.1 0 2) + (1 : Int32))) from (FG.f (FG.a (FG.tr (FG.rf _) (FG.up fwL3 (by decide) (by decide))) ((w3.1 0 2).toNatClampNeg) ((pa >>> (ka &&& 31)) &&& (255 : Int32)) (by decide) (by decide)) ((w3.1 0 2) + (1 : Int32)) (by decide))), (show ((ka + (-8 : Int32)).toInt = 24 ∧ ((w3.1 0 2) + (1 : Int32)).toInt = (v.1 0 2).toInt) ∨ ((ka + (-8 : Int32)).toInt = 16 ∧ ((w3.1 0 2) + (1 : Int32)).toInt = (v.1 0 2).toInt + 1) ∨ ((ka + (-8 : Int32)).toInt = 8 ∧ ((w3.1 0 2) + (1 : Int32)).toInt = (v.1 0 2).toInt + 2) ∨ ((ka + (-8 : Int32)).toInt = 0 ∧ ((w3.1 0 2) + (1 : Int32)).toInt = (v.1 0 2).toInt + 3) ∨ ((ka + (-8 : Int32)).toInt = -8 ∧ ((w3.1 0 2) + (1 : Int32)).toInt = (v.1 0 2).toInt + 4) from (om_f5c41e4356 e1L3 z3 z4 z5)), (RT.st exL3 ⟨fwL3, e1L3, z3, rfl⟩), hP, hD, hS, lv_sub hl [0, 1, 2] rfl⟩
theorem om_e96b7fa142 {x0 : Int} (h0 : 0 ≤ x0 ∧ x0 ≤ 4000) : -2147483648 ≤ (x0) + (20 : Int) := by omega
theorem om_2ae7fdf0c1 {x0 : Int} (h0 : 0 ≤ x0 ∧ x0 ≤ 4000) : (x0) + (20 : Int) < 2147483648 := by omega
theorem om_b0b72f1153 {x0 : Int} (h0 : 0 ≤ x0 ∧ x0 ≤ 4000) (h1 : ((x0) + (20 : Int)) ≤ (4000 : Int)) : 0 ≤ x0 ∧ x0 ≤ 3996 := by omega
theorem om_3f8ab443b8 {x0 x1 : Int} (h0 : 0 ≤ x0 ∧ x0 ≤ 4000) (h1 : ((x0) + (20 : Int)) ≤ (4000 : Int)) (h2 : x1 = x0 + 4) : 0 ≤ x1 ∧ x1 ≤ 3996 := by omega
theorem om_305549d7cb {x0 x1 x2 : Int} (h0 : 0 ≤ x0 ∧ x0 ≤ 4000) (h1 : ((x0) + (20 : Int)) ≤ (4000 : Int)) (h2 : x1 = x0 + 4) (h3 : x2 = x1 + 4) : 0 ≤ x2 ∧ x2 ≤ 3996 := by omega
theorem om_5fbf26b097 {x0 x1 x2 x3 : Int} (h0 : 0 ≤ x0 ∧ x0 ≤ 4000) (h1 : ((x0) + (20 : Int)) ≤ (4000 : Int)) (h2 : x1 = x0 + 4) (h3 : x2 = x1 + 4) (h4 : x3 = x2 + 4) : 0 ≤ x3 ∧ x3 ≤ 3996 := by omega
theorem om_cd1dba8738 {x0 x1 x2 x3 x4 : Int} (h0 : 0 ≤ x0 ∧ x0 ≤ 4000) (h1 : ((x0) + (20 : Int)) ≤ (4000 : Int)) (h2 : x1 = x0 + 4) (h3 : x2 = x1 + 4) (h4 : x3 = x2 + 4) (h5 : x4 = x3 + 4) : 0 ≤ x4 ∧ x4 ≤ 3996 := by omega
theorem om_d4abe451d2 {x0 x1 x2 x3 x4 x5 : Int} (h0 : 0 ≤ x0 ∧ x0 ≤ 4000) (h1 : ((x0) + (20 : Int)) ≤ (4000 : Int)) (h2 : x1 = x0 + 4) (h3 : x2 = x1 + 4) (h4 : x3 = x2 + 4) (h5 : x4 = x3 + 4) (h6 : x5 = x4 + 4) : 0 ≤ x5 ∧ x5 ≤ 4000 := by omega
theorem om_36dcd54b78 {x0 x1 x2 x3 x4 x5 : Int} (h0 : ((x0) + (20 : Int)) ≤ (4000 : Int)) (h1 : x1 = x0 + 4) (h2 : x2 = x1 + 4) (h3 : x3 = x2 + 4) (h4 : x4 = x3 + 4) (h5 : x5 = x4 + 4) : (x0 + 20 ≤ 4000 ∧ x5 = x0 + 20 ∧ (1 : Int) = 1) ∨ (4000 < x0 + 20 ∧ x5 = x0 ∧ (1 : Int) = 0) := by omega
theorem om_e63d36739a {x0 : Int} (h0 : 0 ≤ x0 ∧ x0 ≤ 4000) (h1 : (4000 : Int) < ((x0) + (20 : Int))) : 0 ≤ x0 ∧ x0 ≤ 4000 := by omega
theorem om_f91223d0ad {x0 : Int} (h0 : (4000 : Int) < ((x0) + (20 : Int))) : (x0 + 20 ≤ 4000 ∧ x0 = x0 + 20 ∧ (0 : Int) = 1) ∨ (4000 < x0 + 20 ∧ x0 = x0 ∧ (0 : Int) = 0) := by omega
set_option maxHeartbeats 4000000 in
set_option maxRecDepth 100000 in
theorem c_m_feed (l : Launch) (dC : Nat → ClassId) (dI : Nat → Nat → Nat) (cI cB cZ cJ cR : ClassId) (tb : Nat → Nat) (sz : Nat) (ad : Nat → Nat) (N : Nat) (v : MS) (pa : Int32) (pb : Int32) (pc1 : Int32) (pd : Int32) (pe : Int32) (zta : 0 ≤ (v.1 0 2).toInt ∧ (v.1 0 2).toInt ≤ 4000) : Met l yX13_feed (Cond.code yX13_feed cX13_feed 6 (some .boolean) :: tw_W) ({ frames := 1, cells := 0, slots := 0, locals := 22 }) (pc_ (dC, dI) (tyS cI cB cZ cJ cR) tb (mW ad N cI cZ cJ v) sz [.ref (ad 0), .int pa, .int pb, .int pc1, .int pd, .int pe]) (qi_ (dC, dI) (mW ad N cI cZ cJ v) sz (fun (r : Int32) (u : MS) => FG [0, 2] [0, 1] v u ∧ (Q_m_feed v pa pb pc1 pd pe r u) ∧ (0 ≤ (u.1 0 2).toInt ∧ (u.1 0 2).toInt ≤ 4000) ∧ (((v.1 0 2).toInt + 20 ≤ 4000 ∧ (u.1 0 2).toInt = (v.1 0 2).toInt + 20 ∧ r.toInt = 1) ∨ (4000 < (v.1 0 2).toInt + 20 ∧ (u.1 0 2).toInt = (v.1 0 2).toInt ∧ r.toInt = 0))) (fun (u : MS) => (mW ad N cI cZ cJ u))) 0 0 (va_A (mW ad N cI cZ cJ v) sz) := by
  refine Met.ofW (cc := cX13_feed) (maxL := 6) (ret := (some .boolean)) (by decide) rfl ?_
  intro p e s m args below meth c s₁ B hml hv
  obtain ⟨rfl, hsz, hP, hKK, hD0, hFx⟩ := hv
  have hK := hKK.1
  have hx := B.exec
  have hb := B.bytes
  have hr := B.returns
  have ht : ∀ w ∈ tw_W, w.before _ s = true := fun w h => atoms_spec (ws := Cond.code yX13_feed cX13_feed 6 (some .boolean) :: tw_W) B.pre w (List.mem_cons_of_mem _ h)
  have hown : s.vm.findClass RX13 = some m.cls := findClass_of_methodNamed B.named
  have hlocks := B.notSynchronized
  subst hsz
  unfold qi_
  have hD := hD0.self (sz := s.heap.size)
  generalize hAe : va_A (mW ad N cI cZ cJ v) s.heap.size = A at hD hFx ⊢
  have hA : ∀ q : Nat, s.heap.size ≤ q → A q := fun q h => by rw [← hAe]; exact Or.inr h
  have hS : va_S A s.heap s.heap [] := va_S.rf
  have hl := lv_entry ([.ref (ad 0), .int pa, .int pb, .int pc1, .int pd, .int pe]) (n := 6) (Nat.le_of_ble_eq_true rfl)
  rw [lg_entry_eq]
  generalize (lg_sl ([.ref (ad 0), .int pa, .int pb, .int pc1, .int pd, .int pe]) ++ List.replicate (6 - (lg_sl ([.ref (ad 0), .int pa, .int pb, .int pc1, .int pd, .int pe])).length) Slot.unset).toArray = ls at hl ⊢
  have hl : lv_has ls 6 [(0, .ref (ad 0)), (1, .int pa), (2, .int pb), (3, .int pc1), (4, .int pd), (5, .int pe)] := hl
  refine lv_aload_n hx hb dX13_feed_0 rfl (lv_at hl 0 rfl) ?_
  refine lv_iconst (v := 0) hx hb dX13_feed_1 (by decide) ?_
  refine va_put (D := (dC, dI)) (ci := 16) (fs := mF ad v) (v := .int 0) (ty := .int) (C := RX13) (T := TX13) (N := 124) hx hb ht itX13 tyX13 tyX13_ok nmX13 hown hK hP hD hS 0 rfl rfl 0 (by decide) (ht _ tw_246) (fun _ h9 => h9) rfl (by decide +kernel) rfl rfl (Nat.le_of_ble_eq_true rfl) dX13_feed_2 (fun H locs hP hD hS => ?_)
  have hP := cP_ (mw_0 ad N cI cZ cJ v 0) hP
  have hD := cD_ (mw_0 ad N cI cZ cJ v 0) hD
  refine lv_aload_n hx hb dX13_feed_5 rfl (lv_at hl 0 rfl) ?_
  refine va_get (D := (dC, dI)) (ci := 16) (fs := mF ad (wA v 0 0 0)) (v := .int (v.1 0 2)) (C := RX13) (T := TX13) (N := 124) hx hb ht itX13 hown hK hP 0 rfl rfl 2 (by decide) (ht _ tw_251) (fun _ h9 => h9) rfl dX13_feed_6 ?_
  refine lv_bipush (v := 20) hx hb dX13_feed_9 (by decide) ?_
  refine lv_iadd hx hb dX13_feed_11 ?_
  have z1 : ((v.1 0 2) + (20 : Int32)).toInt = ((v.1 0 2).toInt) + (20 : Int) := add_z rfl (show (20 : Int32).toInt = (20 : Int) by decide) (om_e96b7fa142 zta) (om_2ae7fdf0c1 zta)
  refine lv_sipush (v := 4000) hx hb dX13_feed_12 (by decide) ?_
  refine lv_icmp_le (tgt := 20) hx hb dX13_feed_15 (by decide) (fun h2 => ?_) (fun h2 => ?_)
  · have z3 : (((v.1 0 2).toInt) + (20 : Int)) ≤ (4000 : Int) := le_z z1 (show (4000 : Int32).toInt = (4000 : Int) by decide) h2
    refine lv_aload_n hx hb dX13_feed_20 rfl (lv_at hl 0 rfl) ?_
    refine lv_iload_n hx hb dX13_feed_21 rfl (lv_at hl 1 rfl) ?_
    refine cu_v (rn_V (n := 1) (As := [.int pa]) (rest := []) hx hb hml hown ht hKK hFx hP hD hS hA (c_m_four l dC dI cI cB cZ cJ cR tb H.size ad N (wA v 0 0 0) pa (show 0 ≤ (v.1 0 2).toInt ∧ (v.1 0 2).toInt ≤ 3996 from (om_b0b72f1153 zta z3))) tw_252 tw_253 (by decide +kernel) rfl rfl ⟨Nat.le_of_ble_eq_true rfl, Nat.le_of_ble_eq_true rfl⟩ (List.range (mW ad N cI cZ cJ (wA v 0 0 0)).length) (rg_map _) (mW_nd _ _ _ _ _ _) rfl rfl rfl rfl hl.1 rfl (Nat.le_of_ble_eq_true rfl) dX13_feed_22 ⟨Nat.le_of_ble_eq_true rfl, Nat.le_of_ble_eq_true rfl⟩) hP hD hS hA (fun u5 H locs hw4 hP hD hS => ?_)
    obtain ⟨fr4, ex4, p14⟩ := hw4
    have p14 : (u5.1 0 2).toInt = (v.1 0 2).toInt + 4 := p14
    refine W.widen (k := 0) (n := 0) (Nat.le_refl _) (Nat.le_refl _) ?_
    refine lv_aload_n hx hb dX13_feed_25 rfl (lv_at hl 0 rfl) ?_
    refine lv_iload_n hx hb dX13_feed_26 rfl (lv_at hl 2 rfl) ?_
    refine cu_v (rn_V (n := 1) (As := [.int pb]) (rest := []) hx hb hml hown ht hKK hFx hP hD hS hA (c_m_four l dC dI cI cB cZ cJ cR tb H.size ad N u5 pb (show 0 ≤ (u5.1 0 2).toInt ∧ (u5.1 0 2).toInt ≤ 3996 from (om_3f8ab443b8 zta z3 p14))) tw_252 tw_253 (by decide +kernel) rfl rfl ⟨Nat.le_of_ble_eq_true rfl, Nat.le_of_ble_eq_true rfl⟩ (List.range (mW ad N cI cZ cJ u5).length) (rg_map _) (mW_nd _ _ _ _ _ _) rfl rfl rfl rfl hl.1 rfl (Nat.le_of_ble_eq_true rfl) dX13_feed_27 ⟨Nat.le_of_ble_eq_true rfl, Nat.le_of_ble_eq_true rfl⟩) hP hD hS hA (fun u8 H locs hw7 hP hD hS => ?_)
    obtain ⟨fr7, ex7, p17⟩ := hw7
    have p17 : (u8.1 0 2).toInt = (u5.1 0 2).toInt + 4 := p17
    refine W.widen (k := 0) (n := 0) (Nat.le_refl _) (Nat.le_refl _) ?_
    refine lv_aload_n hx hb dX13_feed_30 rfl (lv_at hl 0 rfl) ?_
    refine lv_iload_n hx hb dX13_feed_31 rfl (lv_at hl 3 rfl) ?_
    refine cu_v (rn_V (n := 1) (As := [.int pc1]) (rest := []) hx hb hml hown ht hKK hFx hP hD hS hA (c_m_four l dC dI cI cB cZ cJ cR tb H.size ad N u8 pc1 (show 0 ≤ (u8.1 0 2).toInt ∧ (u8.1 0 2).toInt ≤ 3996 from (om_305549d7cb zta z3 p14 p17))) tw_252 tw_253 (by decide +kernel) rfl rfl ⟨Nat.le_of_ble_eq_true rfl, Nat.le_of_ble_eq_true rfl⟩ (List.range (mW ad N cI cZ cJ u8).length) (rg_map _) (mW_nd _ _ _ _ _ _) rfl rfl rfl rfl hl.1 rfl (Nat.le_of_ble_eq_true rfl) dX13_feed_32 ⟨Nat.le_of_ble_eq_true rfl, Nat.le_of_ble_eq_true rfl⟩) hP hD hS hA (fun u11 H locs hw10 hP hD hS => ?_)
    obtain ⟨fr10, ex10, p110⟩ := hw10
    have p110 : (u11.1 0 2).toInt = (u8.1 0 2).toInt + 4 := p110
    refine W.widen (k := 0) (n := 0) (Nat.le_refl _) (Nat.le_refl _) ?_
    refine lv_aload_n hx hb dX13_feed_35 rfl (lv_at hl 0 rfl) ?_
    refine lv_iload hx hb dX13_feed_36 (lv_at hl 4 rfl) ?_
    refine cu_v (rn_V (n := 1) (As := [.int pd]) (rest := []) hx hb hml hown ht hKK hFx hP hD hS hA (c_m_four l dC dI cI cB cZ cJ cR tb H.size ad N u11 pd (show 0 ≤ (u11.1 0 2).toInt ∧ (u11.1 0 2).toInt ≤ 3996 from (om_5fbf26b097 zta z3 p14 p17 p110))) tw_252 tw_253 (by decide +kernel) rfl rfl ⟨Nat.le_of_ble_eq_true rfl, Nat.le_of_ble_eq_true rfl⟩ (List.range (mW ad N cI cZ cJ u11).length) (rg_map _) (mW_nd _ _ _ _ _ _) rfl rfl rfl rfl hl.1 rfl (Nat.le_of_ble_eq_true rfl) dX13_feed_38 ⟨Nat.le_of_ble_eq_true rfl, Nat.le_of_ble_eq_true rfl⟩) hP hD hS hA (fun u14 H locs hw13 hP hD hS => ?_)
    obtain ⟨fr13, ex13, p113⟩ := hw13
    have p113 : (u14.1 0 2).toInt = (u11.1 0 2).toInt + 4 := p113
    refine W.widen (k := 0) (n := 0) (Nat.le_refl _) (Nat.le_refl _) ?_
    refine lv_aload_n hx hb dX13_feed_41 rfl (lv_at hl 0 rfl) ?_
    refine lv_iload hx hb dX13_feed_42 (lv_at hl 5 rfl) ?_
    refine cu_v (rn_V (n := 1) (As := [.int pe]) (rest := []) hx hb hml hown ht hKK hFx hP hD hS hA (c_m_four l dC dI cI cB cZ cJ cR tb H.size ad N u14 pe (show 0 ≤ (u14.1 0 2).toInt ∧ (u14.1 0 2).toInt ≤ 3996 from (om_cd1dba8738 zta z3 p14 p17 p110 p113))) tw_252 tw_253 (by decide +kernel) rfl rfl ⟨Nat.le_of_ble_eq_true rfl, Nat.le_of_ble_eq_true rfl⟩ (List.range (mW ad N cI cZ cJ u14).length) (rg_map _) (mW_nd _ _ _ _ _ _) rfl rfl rfl rfl hl.1 rfl (Nat.le_of_ble_eq_true rfl) dX13_feed_44 ⟨Nat.le_of_ble_eq_true rfl, Nat.le_of_ble_eq_true rfl⟩) hP hD hS hA (fun u17 H locs hw16 hP hD hS => ?_)
    obtain ⟨fr16, ex16, p116⟩ := hw16
    have p116 : (u17.1 0 2).toInt = (u14.1 0 2).toInt + 4 := p116
    refine W.widen (k := 0) (n := 0) (Nat.le_refl _) (Nat.le_refl _) ?_
    refine lv_iconst (v := 1) hx hb dX13_feed_47 (by decide) ?_
    exact W.zret (v := 1) hx hb hr rfl (fun t ht9 hW => ⟨⟨1, u17, rfl, ⟨(FG.tr (FG.tr (FG.tr (FG.tr (FG.tr (FG.f (FG.rf _) 0 (by decide)) (FG.up fr4 (by decide) (by decide))) (FG.up fr7 (by decide) (by decide))) (FG.up fr10 (by decide) (by decide))) (FG.up fr13 (by decide) (by decide))) (FG.up fr16 (by decide) (by decide))), ⟨zta, (Or.inl ⟨z3, u5, ex4, ⟨fr4, p14⟩, u8, ex7, ⟨fr7, p17⟩, u11, ex10, ⟨fr10, p110⟩, u14, ex13, ⟨fr13, p113⟩, u17, ex16, ⟨fr16, p116⟩, rfl, rfl⟩)⟩, (show 0 ≤ (u17.1 0 2).toInt ∧ (u17.1 0 2).toInt ≤ 4000 from (om_d4abe451d2 zta z3 p14 p17 p110 p113 p116)), (show ((v.1 0 2).toInt + 20 ≤ 4000 ∧ (u17.1 0 2).toInt = (v.1 0 2).toInt + 20 ∧ (1 : Int) = 1) ∨ (4000 < (v.1 0 2).toInt + 20 ∧ (u17.1 0 2).toInt = (v.1 0 2).toInt ∧ (1 : Int) = 0) from (om_36dcd54b78 z3 p14 p17 p110 p113 p116))⟩, by rw [ht9]; exact hP, hD⟩, hS.F ht9⟩) hS.2.2 dX13_feed_48
  · have z19 : (4000 : Int) < (((v.1 0 2).toInt) + (20 : Int)) := nle_z z1 (show (4000 : Int32).toInt = (4000 : Int) by decide) h2
    refine lv_iconst (v := 0) hx hb dX13_feed_18 (by decide) ?_
    exact W.zret (v := 0) hx hb hr rfl (fun t ht9 hW => ⟨⟨0, (wA v 0 0 0), rfl, ⟨(FG.f (FG.rf _) 0 (by decide)), ⟨zta, (Or.inr (⟨z19, rfl, rfl⟩))⟩, (show 0 ≤ (v.1 0 2).toInt ∧ (v.1 0 2).toInt ≤ 4000 from (om_e63d36739a zta z19)), (show ((v.1 0 2).toInt + 20 ≤ 4000 ∧ (v.1 0 2).toInt = (v.1 0 2).toInt + 20 ∧ (0 : Int) = 1) ∨ (4000 < (v.1 0 2).toInt + 20 ∧ (v.1 0 2).toInt = (v.1 0 2).toInt ∧ (0 : Int) = 0) from (om_f91223d0ad z19))⟩, by rw [ht9]; exact hP, hD⟩, hS.F ht9⟩) hS.2.2 dX13_feed_19
theorem om_c74a68af25 {x0 : Int} (h0 : 0 ≤ x0 ∧ x0 ≤ 4000) : 0 ≤ x0 ∧ x0 ≤ 4000 := by omega
theorem om_9aa8bfd1ce {x0 x1 : Int} (h0 : x0 < (0 : Int)) : ((0 ≤ x0 ∧ x0 ≤ x1) ∧ x1 = x0 ∧ (0 : Int) = 1) ∨ ((x0 < 0 ∨ x1 < x0) ∧ x1 = x1 ∧ (0 : Int) = 0) := by omega
theorem om_33bba70809 {x0 x1 : Int} (h0 : 0 ≤ x0 ∧ x0 ≤ 4000) (h1 : (0 : Int) ≤ x1) (h2 : x1 ≤ x0) : 0 ≤ x1 ∧ x1 ≤ 4000 := by omega
theorem om_4a4ab3e051 {x0 x1 : Int} (h0 : (0 : Int) ≤ x0) (h1 : x0 ≤ x1) : ((0 ≤ x0 ∧ x0 ≤ x1) ∧ x0 = x0 ∧ (1 : Int) = 1) ∨ ((x0 < 0 ∨ x1 < x0) ∧ x0 = x1 ∧ (1 : Int) = 0) := by omega
theorem om_ed04f77e74 {x0 x1 : Int} (h0 : x0 < x1) : ((0 ≤ x1 ∧ x1 ≤ x0) ∧ x0 = x1 ∧ (0 : Int) = 1) ∨ ((x1 < 0 ∨ x0 < x1) ∧ x0 = x0 ∧ (0 : Int) = 0) := by omega
set_option maxHeartbeats 4000000 in
set_option maxRecDepth 100000 in
theorem c_m_end (l : Launch) (dC : Nat → ClassId) (dI : Nat → Nat → Nat) (cI cB cZ cJ cR : ClassId) (tb : Nat → Nat) (sz : Nat) (ad : Nat → Nat) (N : Nat) (v : MS) (pa : Int32) (zta : 0 ≤ (v.1 0 2).toInt ∧ (v.1 0 2).toInt ≤ 4000) : Met l yX13_end (Cond.code yX13_end cX13_end 2 (some .boolean) :: tw_W) ({ frames := 0, cells := 0, slots := 0, locals := 0 }) (pc_ (dC, dI) (tyS cI cB cZ cJ cR) tb (mW ad N cI cZ cJ v) sz [.ref (ad 0), .int pa]) (qi_ (dC, dI) (mW ad N cI cZ cJ v) sz (fun (r : Int32) (u : MS) => FG [0, 2] [0] v u ∧ (Q_m_end v pa r u) ∧ (0 ≤ (u.1 0 2).toInt ∧ (u.1 0 2).toInt ≤ 4000) ∧ (((0 ≤ pa.toInt ∧ pa.toInt ≤ (v.1 0 2).toInt) ∧ (u.1 0 2).toInt = pa.toInt ∧ r.toInt = 1) ∨ ((pa.toInt < 0 ∨ (v.1 0 2).toInt < pa.toInt) ∧ (u.1 0 2).toInt = (v.1 0 2).toInt ∧ r.toInt = 0))) (fun (u : MS) => (mW ad N cI cZ cJ u))) 0 0 (va_A (mW ad N cI cZ cJ v) sz) := by
  refine Met.ofW (cc := cX13_end) (maxL := 2) (ret := (some .boolean)) (by decide) rfl ?_
  intro p e s m args below meth c s₁ B hml hv
  obtain ⟨rfl, hsz, hP, hKK, hD0, hFx⟩ := hv
  have hK := hKK.1
  have hx := B.exec
  have hb := B.bytes
  have hr := B.returns
  have ht : ∀ w ∈ tw_W, w.before _ s = true := fun w h => atoms_spec (ws := Cond.code yX13_end cX13_end 2 (some .boolean) :: tw_W) B.pre w (List.mem_cons_of_mem _ h)
  have hown : s.vm.findClass RX13 = some m.cls := findClass_of_methodNamed B.named
  have hlocks := B.notSynchronized
  subst hsz
  unfold qi_
  have hD := hD0.self (sz := s.heap.size)
  generalize hAe : va_A (mW ad N cI cZ cJ v) s.heap.size = A at hD hFx ⊢
  have hA : ∀ q : Nat, s.heap.size ≤ q → A q := fun q h => by rw [← hAe]; exact Or.inr h
  have hS : va_S A s.heap s.heap [] := va_S.rf
  have hl := lv_entry ([.ref (ad 0), .int pa]) (n := 2) (Nat.le_of_ble_eq_true rfl)
  rw [lg_entry_eq]
  generalize (lg_sl ([.ref (ad 0), .int pa]) ++ List.replicate (2 - (lg_sl ([.ref (ad 0), .int pa])).length) Slot.unset).toArray = ls at hl ⊢
  have hl : lv_has ls 2 [(0, .ref (ad 0)), (1, .int pa)] := hl
  refine lv_aload_n hx hb dX13_end_0 rfl (lv_at hl 0 rfl) ?_
  refine lv_iconst (v := 0) hx hb dX13_end_1 (by decide) ?_
  refine va_put (D := (dC, dI)) (ci := 16) (fs := mF ad v) (v := .int 0) (ty := .int) (C := RX13) (T := TX13) (N := 124) hx hb ht itX13 tyX13 tyX13_ok nmX13 hown hK hP hD hS 0 rfl rfl 0 (by decide) (ht _ tw_246) (fun _ h9 => h9) rfl (by decide +kernel) rfl rfl (Nat.le_of_ble_eq_true rfl) dX13_end_2 (fun H locs hP hD hS => ?_)
  have hP := cP_ (mw_0 ad N cI cZ cJ v 0) hP
  have hD := cD_ (mw_0 ad N cI cZ cJ v 0) hD
  refine lv_iload_n hx hb dX13_end_5 rfl (lv_at hl 1 rfl) ?_
  refine lv_if_lt (tgt := 17) hx hb dX13_end_6 (by decide) (fun h1 => ?_) (fun h1 => ?_)
  · have z2 : pa.toInt < (0 : Int) := lt_z rfl (show (0 : Int32).toInt = (0 : Int) by decide) h1
    refine lv_iconst (v := 0) hx hb dX13_end_17 (by decide) ?_
    exact W.zret (v := 0) hx hb hr rfl (fun t ht9 hW => ⟨⟨0, (wA v 0 0 0), rfl, ⟨(FG.f (FG.rf _) 0 (by decide)), ⟨zta, (Or.inl ⟨z2, rfl, rfl⟩)⟩, (show 0 ≤ (v.1 0 2).toInt ∧ (v.1 0 2).toInt ≤ 4000 from (om_c74a68af25 zta)), (show ((0 ≤ pa.toInt ∧ pa.toInt ≤ (v.1 0 2).toInt) ∧ (v.1 0 2).toInt = pa.toInt ∧ (0 : Int) = 1) ∨ ((pa.toInt < 0 ∨ (v.1 0 2).toInt < pa.toInt) ∧ (v.1 0 2).toInt = (v.1 0 2).toInt ∧ (0 : Int) = 0) from (om_9aa8bfd1ce z2))⟩, by rw [ht9]; exact hP, hD⟩, hS.F ht9⟩) hS.2.2 dX13_end_18
  · have z3 : (0 : Int) ≤ pa.toInt := nlt_z rfl (show (0 : Int32).toInt = (0 : Int) by decide) h1
    refine lv_iload_n hx hb dX13_end_9 rfl (lv_at hl 1 rfl) ?_
    refine lv_aload_n hx hb dX13_end_10 rfl (lv_at hl 0 rfl) ?_
    refine va_get (D := (dC, dI)) (ci := 16) (fs := mF ad (wA v 0 0 0)) (v := .int (v.1 0 2)) (C := RX13) (T := TX13) (N := 124) hx hb ht itX13 hown hK hP 0 rfl rfl 2 (by decide) (ht _ tw_251) (fun _ h9 => h9) rfl dX13_end_11 ?_
    refine lv_icmp_le (tgt := 19) hx hb dX13_end_14 (by decide) (fun h4 => ?_) (fun h4 => ?_)
    · have z5 : pa.toInt ≤ (v.1 0 2).toInt := le_z rfl rfl h4
      refine lv_aload_n hx hb dX13_end_19 rfl (lv_at hl 0 rfl) ?_
      refine lv_iload_n hx hb dX13_end_20 rfl (lv_at hl 1 rfl) ?_
      refine va_put (D := (dC, dI)) (ci := 16) (fs := mF ad (wA v 0 0 0)) (v := .int pa) (ty := .int) (C := RX13) (T := TX13) (N := 124) hx hb ht itX13 tyX13 tyX13_ok nmX13 hown hK hP hD hS 0 rfl rfl 2 (by decide) (ht _ tw_251) (fun _ h9 => h9) rfl (by decide +kernel) rfl rfl (Nat.le_of_ble_eq_true rfl) dX13_end_21 (fun H locs hP hD hS => ?_)
      have hP := cP_ (mw_2 ad N cI cZ cJ (wA v 0 0 0) pa) hP
      have hD := cD_ (mw_2 ad N cI cZ cJ (wA v 0 0 0) pa) hD
      refine lv_iconst (v := 1) hx hb dX13_end_24 (by decide) ?_
      exact W.zret (v := 1) hx hb hr rfl (fun t ht9 hW => ⟨⟨1, (wA (wA v 0 0 0) 0 2 pa), rfl, ⟨(FG.f (FG.f (FG.rf _) 0 (by decide)) pa (by decide)), ⟨zta, (Or.inr (⟨z3, (Or.inl ⟨z5, rfl, rfl⟩)⟩))⟩, (show 0 ≤ pa.toInt ∧ pa.toInt ≤ 4000 from (om_33bba70809 zta z3 z5)), (show ((0 ≤ pa.toInt ∧ pa.toInt ≤ (v.1 0 2).toInt) ∧ pa.toInt = pa.toInt ∧ (1 : Int) = 1) ∨ ((pa.toInt < 0 ∨ (v.1 0 2).toInt < pa.toInt) ∧ pa.toInt = (v.1 0 2).toInt ∧ (1 : Int) = 0) from (om_4a4ab3e051 z3 z5))⟩, by rw [ht9]; exact hP, hD⟩, hS.F ht9⟩) hS.2.2 dX13_end_25
    · have z6 : (v.1 0 2).toInt < pa.toInt := nle_z rfl rfl h4
      refine lv_iconst (v := 0) hx hb dX13_end_17 (by decide) ?_
      exact W.zret (v := 0) hx hb hr rfl (fun t ht9 hW => ⟨⟨0, (wA v 0 0 0), rfl, ⟨(FG.f (FG.rf _) 0 (by decide)), ⟨zta, (Or.inr (⟨z3, (Or.inr (⟨z6, rfl, rfl⟩))⟩))⟩, (show 0 ≤ (v.1 0 2).toInt ∧ (v.1 0 2).toInt ≤ 4000 from (om_c74a68af25 zta)), (show ((0 ≤ pa.toInt ∧ pa.toInt ≤ (v.1 0 2).toInt) ∧ (v.1 0 2).toInt = pa.toInt ∧ (0 : Int) = 1) ∨ ((pa.toInt < 0 ∨ (v.1 0 2).toInt < pa.toInt) ∧ (v.1 0 2).toInt = (v.1 0 2).toInt ∧ (0 : Int) = 0) from (om_ed04f77e74 z6))⟩, by rw [ht9]; exact hP, hD⟩, hS.F ht9⟩) hS.2.2 dX13_end_18
