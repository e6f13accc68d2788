theorem dL_code_0 : decode cL_code 0 = .ok (.aload_n 2, 1) := by decide +kernel
theorem dL_code_1 : decode cL_code 1 = .ok (.iconst 0, 1) := by decide +kernel
theorem dL_code_2 : decode cL_code 2 = .ok (.aload_n 0, 1) := by decide +kernel
theorem dL_code_3 : decode cL_code 3 = .ok (.iload_n 1, 1) := by decide +kernel
theorem dL_code_4 : decode cL_code 4 = .ok (.invokevirtual 7, 3) := by decide +kernel
theorem tw_1080 : (.code yX11_code cX11_code 2 (some .int) : Cond) ∈ tw_W := tw_in (t8_8 (List.mem_of_getElem? (i := 34) rfl)) rfl
theorem tw_1081 : ∀ w ∈ ([.methodLink RL 7 yX11_code, .instanceMethod yX11_code, .selects RX11 yX11_code yX11_code, .initialized RX11] : List Cond), w ∈ tw_W := al_c (tw_in (t8_8 (List.mem_of_getElem? (i := 31) rfl)) rfl) (al_c (tw_in (t8_8 (List.mem_of_getElem? (i := 32) rfl)) rfl) (al_c (tw_in (t8_8 (List.mem_of_getElem? (i := 33) rfl)) rfl) (al_c (tw_in (t8_1 (List.mem_of_getElem? (i := 1) rfl)) rfl) al_n)))
theorem tw_1082 : (.classLink RL 13 "java/lang/IndexOutOfBoundsException" : Cond) ∈ tw_W := tw_in (t8_8 (List.mem_of_getElem? (i := 30) rfl)) rfl
theorem dL_code_12 : decode cL_code 12 = .ok (.astore_n 3, 1) := by decide +kernel
theorem dL_code_13 : decode cL_code 13 = .ok (.iconst 1, 1) := by decide +kernel
theorem dL_code_14 : decode cL_code 14 = .ok (.ireturn, 1) := by decide +kernel
theorem dL_code_7 : decode cL_code 7 = .ok (.i2l, 1) := by decide +kernel
theorem dL_code_8 : decode cL_code 8 = .ok (.lastore, 1) := by decide +kernel
theorem dL_code_9 : decode cL_code 9 = .ok (.goto 6, 3) := by decide +kernel
theorem dL_code_15 : decode cL_code 15 = .ok (.iconst 0, 1) := by decide +kernel
theorem dL_code_16 : decode cL_code 16 = .ok (.ireturn, 1) := by decide +kernel
theorem dL_find_0 : decode cL_find 0 = .ok (.aload_n 2, 1) := by decide +kernel
theorem dL_find_1 : decode cL_find 1 = .ok (.iconst 0, 1) := by decide +kernel
theorem dL_find_2 : decode cL_find 2 = .ok (.aload_n 0, 1) := by decide +kernel
theorem dL_find_3 : decode cL_find 3 = .ok (.iload_n 1, 1) := by decide +kernel
theorem dL_find_4 : decode cL_find 4 = .ok (.invokevirtual 15, 3) := by decide +kernel
theorem tw_1083 : (.code yX11_find cX11_find 5 (some .int) : Cond) ∈ tw_W := tw_in (t8_8 (List.mem_of_getElem? (i := 56) rfl)) rfl
theorem tw_1084 : ∀ w ∈ ([.methodLink RL 15 yX11_find, .instanceMethod yX11_find, .selects RX11 yX11_find yX11_find, .initialized RX11] : List Cond), w ∈ tw_W := al_c (tw_in (t8_8 (List.mem_of_getElem? (i := 53) rfl)) rfl) (al_c (tw_in (t8_8 (List.mem_of_getElem? (i := 54) rfl)) rfl) (al_c (tw_in (t8_8 (List.mem_of_getElem? (i := 55) rfl)) rfl) (al_c (tw_in (t8_1 (List.mem_of_getElem? (i := 1) rfl)) rfl) al_n)))
theorem tw_1085 : (.classLink RL 18 "java/lang/IllegalArgumentException" : Cond) ∈ tw_W := tw_in (t8_8 (List.mem_of_getElem? (i := 52) rfl)) rfl
theorem dL_find_12 : decode cL_find 12 = .ok (.astore_n 3, 1) := by decide +kernel
theorem dL_find_13 : decode cL_find 13 = .ok (.iconst 1, 1) := by decide +kernel
theorem dL_find_14 : decode cL_find 14 = .ok (.ireturn, 1) := by decide +kernel
theorem dL_find_7 : decode cL_find 7 = .ok (.i2l, 1) := by decide +kernel
theorem dL_find_8 : decode cL_find 8 = .ok (.lastore, 1) := by decide +kernel
theorem dL_find_9 : decode cL_find 9 = .ok (.goto 6, 3) := by decide +kernel
theorem dL_find_15 : decode cL_find 15 = .ok (.iconst 0, 1) := by decide +kernel
theorem dL_find_16 : decode cL_find 16 = .ok (.ireturn, 1) := by decide +kernel
theorem dL_run_0 : decode cL_run 0 = .ok (.aload_n 2, 1) := by decide +kernel
theorem dL_run_1 : decode cL_run 1 = .ok (.iconst 0, 1) := by decide +kernel
theorem dL_run_2 : decode cL_run 2 = .ok (.aload_n 0, 1) := by decide +kernel
theorem dL_run_3 : decode cL_run 3 = .ok (.iload_n 1, 1) := by decide +kernel
theorem dL_run_4 : decode cL_run 4 = .ok (.invokevirtual 20, 3) := by decide +kernel
theorem tw_1086 : (.code yX11_run cX11_run 2 (some .int) : Cond) ∈ tw_W := tw_in (t8_8 (List.mem_of_getElem? (i := 71) rfl)) rfl
theorem tw_1087 : ∀ w ∈ ([.methodLink RL 20 yX11_run, .instanceMethod yX11_run, .selects RX11 yX11_run yX11_run, .initialized RX11] : List Cond), w ∈ tw_W := al_c (tw_in (t8_8 (List.mem_of_getElem? (i := 68) rfl)) rfl) (al_c (tw_in (t8_8 (List.mem_of_getElem? (i := 69) rfl)) rfl) (al_c (tw_in (t8_8 (List.mem_of_getElem? (i := 70) rfl)) rfl) (al_c (tw_in (t8_1 (List.mem_of_getElem? (i := 1) rfl)) rfl) al_n)))
theorem dL_run_12 : decode cL_run 12 = .ok (.astore_n 3, 1) := by decide +kernel
theorem dL_run_13 : decode cL_run 13 = .ok (.iconst 1, 1) := by decide +kernel
theorem dL_run_14 : decode cL_run 14 = .ok (.ireturn, 1) := by decide +kernel
theorem dL_run_7 : decode cL_run 7 = .ok (.i2l, 1) := by decide +kernel
theorem dL_run_8 : decode cL_run 8 = .ok (.lastore, 1) := by decide +kernel
theorem dL_run_9 : decode cL_run 9 = .ok (.goto 6, 3) := by decide +kernel
theorem dL_run_15 : decode cL_run 15 = .ok (.iconst 0, 1) := by decide +kernel
theorem dL_run_16 : decode cL_run 16 = .ok (.ireturn, 1) := by decide +kernel
theorem dL_register_0 : decode cL_register 0 = .ok (.aload_n 2, 1) := by decide +kernel
theorem dL_register_1 : decode cL_register 1 = .ok (.iconst 0, 1) := by decide +kernel
theorem dL_register_2 : decode cL_register 2 = .ok (.aload_n 0, 1) := by decide +kernel
theorem dL_register_3 : decode cL_register 3 = .ok (.iload_n 1, 1) := by decide +kernel
theorem dL_register_4 : decode cL_register 4 = .ok (.invokevirtual 23, 3) := by decide +kernel
theorem tw_1088 : (.code yX11_register cX11_register 2 (some .int) : Cond) ∈ tw_W := tw_in (t8_8 (List.mem_of_getElem? (i := 85) rfl)) rfl
theorem tw_1089 : ∀ w ∈ ([.methodLink RL 23 yX11_register, .instanceMethod yX11_register, .selects RX11 yX11_register yX11_register, .initialized RX11] : List Cond), w ∈ tw_W := al_c (tw_in (t8_8 (List.mem_of_getElem? (i := 82) rfl)) rfl) (al_c (tw_in (t8_8 (List.mem_of_getElem? (i := 83) rfl)) rfl) (al_c (tw_in (t8_8 (List.mem_of_getElem? (i := 84) rfl)) rfl) (al_c (tw_in (t8_1 (List.mem_of_getElem? (i := 1) rfl)) rfl) al_n)))
theorem dL_register_12 : decode cL_register 12 = .ok (.astore_n 3, 1) := by decide +kernel
theorem dL_register_13 : decode cL_register 13 = .ok (.iconst 1, 1) := by decide +kernel
theorem dL_register_14 : decode cL_register 14 = .ok (.ireturn, 1) := by decide +kernel
theorem dL_register_7 : decode cL_register 7 = .ok (.i2l, 1) := by decide +kernel
theorem dL_register_8 : decode cL_register 8 = .ok (.lastore, 1) := by decide +kernel
theorem dL_register_9 : decode cL_register 9 = .ok (.goto 6, 3) := by decide +kernel
theorem dL_register_15 : decode cL_register 15 = .ok (.iconst 0, 1) := by decide +kernel
theorem dL_register_16 : decode cL_register 16 = .ok (.ireturn, 1) := by decide +kernel
theorem dL_set_0 : decode cL_set 0 = .ok (.aload_n 0, 1) := by decide +kernel
theorem dL_set_1 : decode cL_set 1 = .ok (.iload_n 1, 1) := by decide +kernel
theorem dL_set_2 : decode cL_set 2 = .ok (.iload_n 2, 1) := by decide +kernel
theorem dL_set_3 : decode cL_set 3 = .ok (.invokevirtual 26, 3) := by decide +kernel
theorem tw_1090 : (.code yX11_set cX11_set 3 none : Cond) ∈ tw_W := tw_in (t8_8 (List.mem_of_getElem? (i := 93) rfl)) rfl
theorem tw_1091 : ∀ w ∈ ([.methodLink RL 26 yX11_set, .instanceMethod yX11_set, .selects RX11 yX11_set yX11_set, .initialized RX11] : List Cond), w ∈ tw_W := al_c (tw_in (t8_8 (List.mem_of_getElem? (i := 90) rfl)) rfl) (al_c (tw_in (t8_8 (List.mem_of_getElem? (i := 91) rfl)) rfl) (al_c (tw_in (t8_8 (List.mem_of_getElem? (i := 92) rfl)) rfl) (al_c (tw_in (t8_1 (List.mem_of_getElem? (i := 1) rfl)) rfl) al_n)))
theorem dL_set_9 : decode cL_set 9 = .ok (.astore_n 3, 1) := by decide +kernel
theorem dL_set_10 : decode cL_set 10 = .ok (.iconst 1, 1) := by decide +kernel
theorem dL_set_11 : decode cL_set 11 = .ok (.ireturn, 1) := by decide +kernel
theorem dL_set_6 : decode cL_set 6 = .ok (.goto 6, 3) := by decide +kernel
theorem dL_set_12 : decode cL_set 12 = .ok (.iconst 0, 1) := by decide +kernel
theorem dL_set_13 : decode cL_set 13 = .ok (.ireturn, 1) := by decide +kernel
theorem dL_word_0 : decode cL_word 0 = .ok (.aload_n 2, 1) := by decide +kernel
theorem dL_word_1 : decode cL_word 1 = .ok (.iconst 0, 1) := by decide +kernel
theorem dL_word_2 : decode cL_word 2 = .ok (.aload_n 0, 1) := by decide +kernel
theorem dL_word_3 : decode cL_word 3 = .ok (.iload_n 1, 1) := by decide +kernel
theorem dL_word_4 : decode cL_word 4 = .ok (.invokevirtual 30, 3) := by decide +kernel
theorem tw_1092 : (.code yX11_word cX11_word 2 (some .int) : Cond) ∈ tw_W := tw_in (t8_8 (List.mem_of_getElem? (i := 104) rfl)) rfl
theorem tw_1093 : ∀ w ∈ ([.methodLink RL 30 yX11_word, .instanceMethod yX11_word, .selects RX11 yX11_word yX11_word, .initialized RX11] : List Cond), w ∈ tw_W := al_c (tw_in (t8_8 (List.mem_of_getElem? (i := 101) rfl)) rfl) (al_c (tw_in (t8_8 (List.mem_of_getElem? (i := 102) rfl)) rfl) (al_c (tw_in (t8_8 (List.mem_of_getElem? (i := 103) rfl)) rfl) (al_c (tw_in (t8_1 (List.mem_of_getElem? (i := 1) rfl)) rfl) al_n)))
theorem dL_word_12 : decode cL_word 12 = .ok (.astore_n 3, 1) := by decide +kernel
theorem dL_word_13 : decode cL_word 13 = .ok (.iconst 1, 1) := by decide +kernel
theorem dL_word_14 : decode cL_word 14 = .ok (.ireturn, 1) := by decide +kernel
theorem dL_word_15 : decode cL_word 15 = .ok (.astore_n 3, 1) := by decide +kernel
theorem dL_word_16 : decode cL_word 16 = .ok (.iconst 2, 1) := by decide +kernel
theorem dL_word_17 : decode cL_word 17 = .ok (.ireturn, 1) := by decide +kernel
theorem dL_word_7 : decode cL_word 7 = .ok (.i2l, 1) := by decide +kernel
theorem dL_word_8 : decode cL_word 8 = .ok (.lastore, 1) := by decide +kernel
theorem dL_word_9 : decode cL_word 9 = .ok (.goto 9, 3) := by decide +kernel
theorem dL_word_18 : decode cL_word 18 = .ok (.iconst 0, 1) := by decide +kernel
theorem dL_word_19 : decode cL_word 19 = .ok (.ireturn, 1) := by decide +kernel
theorem dL_poke_0 : decode cL_poke 0 = .ok (.aload_n 0, 1) := by decide +kernel
theorem dL_poke_1 : decode cL_poke 1 = .ok (.iload_n 1, 1) := by decide +kernel
theorem dL_poke_2 : decode cL_poke 2 = .ok (.iload_n 2, 1) := by decide +kernel
theorem dL_poke_3 : decode cL_poke 3 = .ok (.invokevirtual 33, 3) := by decide +kernel
theorem tw_1094 : (.code yX11_poke cX11_poke 3 none : Cond) ∈ tw_W := tw_in (t8_8 (List.mem_of_getElem? (i := 119) rfl)) rfl
theorem tw_1095 : ∀ w ∈ ([.methodLink RL 33 yX11_poke, .instanceMethod yX11_poke, .selects RX11 yX11_poke yX11_poke, .initialized RX11] : List Cond), w ∈ tw_W := al_c (tw_in (t8_8 (List.mem_of_getElem? (i := 116) rfl)) rfl) (al_c (tw_in (t8_8 (List.mem_of_getElem? (i := 117) rfl)) rfl) (al_c (tw_in (t8_8 (List.mem_of_getElem? (i := 118) rfl)) rfl) (al_c (tw_in (t8_1 (List.mem_of_getElem? (i := 1) rfl)) rfl) al_n)))
theorem dL_poke_9 : decode cL_poke 9 = .ok (.astore_n 3, 1) := by decide +kernel
theorem dL_poke_10 : decode cL_poke 10 = .ok (.iconst 1, 1) := by decide +kernel
theorem dL_poke_11 : decode cL_poke 11 = .ok (.ireturn, 1) := by decide +kernel
theorem dL_poke_12 : decode cL_poke 12 = .ok (.astore_n 3, 1) := by decide +kernel
theorem dL_poke_13 : decode cL_poke 13 = .ok (.iconst 2, 1) := by decide +kernel
theorem dL_poke_14 : decode cL_poke 14 = .ok (.ireturn, 1) := by decide +kernel
theorem dL_poke_6 : decode cL_poke 6 = .ok (.goto 9, 3) := by decide +kernel
theorem dL_poke_15 : decode cL_poke 15 = .ok (.iconst 0, 1) := by decide +kernel
theorem dL_poke_16 : decode cL_poke 16 = .ok (.ireturn, 1) := by decide +kernel
theorem dL_put_0 : decode cL_put 0 = .ok (.aload_n 2, 1) := by decide +kernel
theorem dL_put_1 : decode cL_put 1 = .ok (.iconst 0, 1) := by decide +kernel
theorem dL_put_2 : decode cL_put 2 = .ok (.aload_n 0, 1) := by decide +kernel
theorem dL_put_3 : decode cL_put 3 = .ok (.iload_n 1, 1) := by decide +kernel
theorem dL_put_4 : decode cL_put 4 = .ok (.invokevirtual 36, 3) := by decide +kernel
theorem tw_1096 : (.code yX11_put cX11_put 2 (some .int) : Cond) ∈ tw_W := tw_in (t8_8 (List.mem_of_getElem? (i := 128) rfl)) rfl
theorem tw_1097 : ∀ w ∈ ([.methodLink RL 36 yX11_put, .instanceMethod yX11_put, .selects RX11 yX11_put yX11_put, .initialized RX11] : List Cond), w ∈ tw_W := al_c (tw_in (t8_8 (List.mem_of_getElem? (i := 125) rfl)) rfl) (al_c (tw_in (t8_8 (List.mem_of_getElem? (i := 126) rfl)) rfl) (al_c (tw_in (t8_8 (List.mem_of_getElem? (i := 127) rfl)) rfl) (al_c (tw_in (t8_1 (List.mem_of_getElem? (i := 1) rfl)) rfl) al_n)))
theorem tw_1098 : (.classLink RL 39 "java/util/NoSuchElementException" : Cond) ∈ tw_W := tw_in (t8_8 (List.mem_of_getElem? (i := 124) rfl)) rfl
theorem dL_put_12 : decode cL_put 12 = .ok (.astore_n 3, 1) := by decide +kernel
theorem dL_put_13 : decode cL_put 13 = .ok (.iconst 1, 1) := by decide +kernel
theorem dL_put_14 : decode cL_put 14 = .ok (.ireturn, 1) := by decide +kernel
theorem dL_put_7 : decode cL_put 7 = .ok (.i2l, 1) := by decide +kernel
theorem dL_put_8 : decode cL_put 8 = .ok (.lastore, 1) := by decide +kernel
theorem dL_put_9 : decode cL_put 9 = .ok (.goto 6, 3) := by decide +kernel
theorem dL_put_15 : decode cL_put 15 = .ok (.iconst 0, 1) := by decide +kernel
theorem dL_put_16 : decode cL_put 16 = .ok (.ireturn, 1) := by decide +kernel
theorem dL_work_0 : decode cL_work 0 = .ok (.aload 5, 2) := by decide +kernel
theorem dL_work_2 : decode cL_work 2 = .ok (.iconst 0, 1) := by decide +kernel
theorem dL_work_3 : decode cL_work 3 = .ok (.aload_n 0, 1) := by decide +kernel
theorem dL_work_4 : decode cL_work 4 = .ok (.iload_n 1, 1) := by decide +kernel
theorem dL_work_5 : decode cL_work 5 = .ok (.iload_n 2, 1) := by decide +kernel
theorem dL_work_6 : decode cL_work 6 = .ok (.iload_n 3, 1) := by decide +kernel
theorem dL_work_7 : decode cL_work 7 = .ok (.iload 4, 2) := by decide +kernel
theorem dL_work_9 : decode cL_work 9 = .ok (.invokevirtual 41, 3) := by decide +kernel
theorem tw_1099 : (.code yX11_work cX11_work 6 (some .int) : Cond) ∈ tw_W := tw_in (t8_8 (List.mem_of_getElem? (i := 151) rfl)) rfl
theorem tw_1100 : ∀ w ∈ ([.methodLink RL 41 yX11_work, .instanceMethod yX11_work, .selects RX11 yX11_work yX11_work, .initialized RX11] : List Cond), w ∈ tw_W := al_c (tw_in (t8_8 (List.mem_of_getElem? (i := 148) rfl)) rfl) (al_c (tw_in (t8_8 (List.mem_of_getElem? (i := 149) rfl)) rfl) (al_c (tw_in (t8_8 (List.mem_of_getElem? (i := 150) rfl)) rfl) (al_c (tw_in (t8_1 (List.mem_of_getElem? (i := 1) rfl)) rfl) al_n)))
theorem dL_work_17 : decode cL_work 17 = .ok (.astore 6, 2) := by decide +kernel
theorem dL_work_19 : decode cL_work 19 = .ok (.iconst 1, 1) := by decide +kernel
theorem dL_work_20 : decode cL_work 20 = .ok (.ireturn, 1) := by decide +kernel
theorem dL_work_21 : decode cL_work 21 = .ok (.astore 6, 2) := by decide +kernel
theorem dL_work_23 : decode cL_work 23 = .ok (.iconst 2, 1) := by decide +kernel
theorem dL_work_24 : decode cL_work 24 = .ok (.ireturn, 1) := by decide +kernel
theorem dL_work_12 : decode cL_work 12 = .ok (.i2l, 1) := by decide +kernel
theorem dL_work_13 : decode cL_work 13 = .ok (.lastore, 1) := by decide +kernel
theorem dL_work_14 : decode cL_work 14 = .ok (.goto 11, 3) := by decide +kernel
theorem dL_work_25 : decode cL_work 25 = .ok (.iconst 0, 1) := by decide +kernel
theorem dL_work_26 : decode cL_work 26 = .ok (.ireturn, 1) := by decide +kernel
theorem dL_worked_0 : decode cL_worked 0 = .ok (.aload_n 2, 1) := by decide +kernel
theorem dL_worked_1 : decode cL_worked 1 = .ok (.iconst 0, 1) := by decide +kernel
theorem dL_worked_2 : decode cL_worked 2 = .ok (.aload_n 0, 1) := by decide +kernel
theorem dL_worked_3 : decode cL_worked 3 = .ok (.iload_n 1, 1) := by decide +kernel
theorem dL_worked_4 : decode cL_worked 4 = .ok (.invokevirtual 45, 3) := by decide +kernel
theorem tw_1101 : (.code yX11_worked cX11_worked 2 (some .int) : Cond) ∈ tw_W := tw_in (t8_9 (List.mem_of_getElem? (i := 13) rfl)) rfl
theorem tw_1102 : ∀ w ∈ ([.methodLink RL 45 yX11_worked, .instanceMethod yX11_worked, .selects RX11 yX11_worked yX11_worked, .initialized RX11] : List Cond), w ∈ tw_W := al_c (tw_in (t8_9 (List.mem_of_getElem? (i := 10) rfl)) rfl) (al_c (tw_in (t8_9 (List.mem_of_getElem? (i := 11) rfl)) rfl) (al_c (tw_in (t8_9 (List.mem_of_getElem? (i := 12) rfl)) rfl) (al_c (tw_in (t8_1 (List.mem_of_getElem? (i := 1) rfl)) rfl) al_n)))
theorem dL_worked_12 : decode cL_worked 12 = .ok (.astore_n 3, 1) := by decide +kernel
theorem dL_worked_13 : decode cL_worked 13 = .ok (.iconst 1, 1) := by decide +kernel
theorem dL_worked_14 : decode cL_worked 14 = .ok (.ireturn, 1) := by decide +kernel
theorem dL_worked_7 : decode cL_worked 7 = .ok (.i2l, 1) := by decide +kernel
theorem dL_worked_8 : decode cL_worked 8 = .ok (.lastore, 1) := by decide +kernel
theorem dL_worked_9 : decode cL_worked 9 = .ok (.goto 6, 3) := by decide +kernel
theorem dL_worked_15 : decode cL_worked 15 = .ok (.iconst 0, 1) := by decide +kernel
theorem dL_worked_16 : decode cL_worked 16 = .ok (.ireturn, 1) := by decide +kernel
theorem dL_left_0 : decode cL_left 0 = .ok (.aload_n 3, 1) := by decide +kernel
theorem dL_left_1 : decode cL_left 1 = .ok (.iconst 0, 1) := by decide +kernel
theorem dL_left_2 : decode cL_left 2 = .ok (.aload_n 0, 1) := by decide +kernel
theorem dL_left_3 : decode cL_left 3 = .ok (.iload_n 1, 1) := by decide +kernel
theorem dL_left_4 : decode cL_left 4 = .ok (.iload_n 2, 1) := by decide +kernel
theorem dL_left_5 : decode cL_left 5 = .ok (.invokevirtual 48, 3) := by decide +kernel
theorem tw_1103 : (.code yX11_left cX11_left 3 (some .int) : Cond) ∈ tw_W := tw_in (t8_9 (List.mem_of_getElem? (i := 20) rfl)) rfl
theorem tw_1104 : ∀ w ∈ ([.methodLink RL 48 yX11_left, .instanceMethod yX11_left, .selects RX11 yX11_left yX11_left, .initialized RX11] : List Cond), w ∈ tw_W := al_c (tw_in (t8_9 (List.mem_of_getElem? (i := 17) rfl)) rfl) (al_c (tw_in (t8_9 (List.mem_of_getElem? (i := 18) rfl)) rfl) (al_c (tw_in (t8_9 (List.mem_of_getElem? (i := 19) rfl)) rfl) (al_c (tw_in (t8_1 (List.mem_of_getElem? (i := 1) rfl)) rfl) al_n)))
theorem dL_left_13 : decode cL_left 13 = .ok (.astore 4, 2) := by decide +kernel
theorem dL_left_15 : decode cL_left 15 = .ok (.iconst 1, 1) := by decide +kernel
theorem dL_left_16 : decode cL_left 16 = .ok (.ireturn, 1) := by decide +kernel
theorem dL_left_8 : decode cL_left 8 = .ok (.i2l, 1) := by decide +kernel
theorem dL_left_9 : decode cL_left 9 = .ok (.lastore, 1) := by decide +kernel
theorem dL_left_10 : decode cL_left 10 = .ok (.goto 7, 3) := by decide +kernel
theorem dL_left_17 : decode cL_left 17 = .ok (.iconst 0, 1) := by decide +kernel
theorem dL_left_18 : decode cL_left 18 = .ok (.ireturn, 1) := by decide +kernel
theorem ixC1_map (x : Nat × va_E) (A0 : va_W) : (ixC A0.length).map (fun i => (x :: A0)[i]?) = A0.map some := by
  have h := ixC_map x A0 []
  rw [List.append_nil] at h
  exact h
theorem zero_C (n : Nat) : ∀ i ∈ [0], i ∉ ixC n := fun i hi hc => by
  obtain ⟨j, -, e⟩ := List.mem_map.mp hc
  rw [List.mem_singleton] at hi
  omega
theorem KI.mono {N : Nat} {B B' : Int} {h0 : Nat} {cI cB cR : ClassId} {tz gz : Int} {xz : ZG} {U : va_W} (h : KI N B h0 cI cB cR tz gz xz U) (hb : B ≤ B') : KI N B' h0 cI cB cR tz gz xz U := by
  obtain ⟨ad, pr, L1, L2, v, ad2, L3, L4, w, sb, a, m, n, f, cnt, mb, h1, h2, ⟨c1, c2, c3, c4, c5, c6, c7, c8⟩, h4⟩ := h
  exact ⟨ad, pr, L1, L2, v, ad2, L3, L4, w, sb, a, m, n, f, cnt, mb, h1, h2, ⟨c1, c2, c3, c4, c5, c6, c7, ⟨c8.1, Int.le_trans c8.2 hb⟩⟩, h4⟩
theorem KI.recv {N : Nat} {B : Int} {h0 : Nat} {cI cB cR : ClassId} {tz gz : Int} {xz : ZG} {U : va_W} (h : KI N B h0 cI cB cR tz gz xz U) : ∃ (k : Nat) (fs : List Value), U[k]? = some (h0, .inr (14, fs)) := by
  obtain ⟨ad, pr, L1, L2, v, ad2, L3, L4, w, sb, a, m, n, f, cnt, mb, h1, rfl, -, -⟩ := h
  obtain ⟨k, hk⟩ := List.getElem?_of_mem (h1.mem_iff.mpr (List.mem_cons_self : (ad 909, Sum.inr (14, oF_X11 ad pr v)) ∈ pW ad pr N cI cR L1 L2 _ v))
  exact ⟨k, _, hk⟩
theorem MIW.recv {N : Nat} {B : Int} {m0 : Nat} {cI cZ cJ : ClassId} {tz gz : Int} {xz : ZG} {U : va_W} (h : MIW N B m0 cI cZ cJ tz gz xz U) : ∃ (k : Nat) (fs : List Value), U[k]? = some (m0, .inr (16, fs)) := by
  obtain ⟨ad, v, h1, rfl, -⟩ := h
  obtain ⟨k, hk⟩ := List.getElem?_of_mem (h1.mem_iff.mpr (List.mem_cons_self : (ad 0, Sum.inr (16, mF ad v)) ∈ mW ad N cI cZ cJ v))
  exact ⟨k, _, hk⟩
theorem MIT.w {N : Nat} {B : Int} {m0 : Nat} {cI cZ cJ : ClassId} {tz gz : Int} {xz : ZG} {T : Int → Prop} {U : va_W} (h : MIT N B m0 cI cZ cJ tz gz xz T U) : MIW N B m0 cI cZ cJ tz gz xz U := by
  obtain ⟨ad, v, h1, h2, h3, h4, h5, h6, -⟩ := h
  exact ⟨ad, v, h1, h2, h3, h4, h5, h6⟩
theorem MIT.recv {N : Nat} {B : Int} {m0 : Nat} {cI cZ cJ : ClassId} {tz gz : Int} {xz : ZG} {T : Int → Prop} {U : va_W} (h : MIT N B m0 cI cZ cJ tz gz xz T U) : ∃ (k : Nat) (fs : List Value), U[k]? = some (m0, .inr (16, fs)) := h.w.recv
theorem MIT.t {N : Nat} {B : Int} {m0 : Nat} {cI cZ cJ : ClassId} {tz gz : Int} {xz : ZG} {T : Int → Prop} {U : va_W} (h : MIT N B m0 cI cZ cJ tz gz xz T U) : ∃ x : Int, T x := by
  obtain ⟨ad, v, h1, h2, h3, h4, h5, h6, t⟩ := h
  exact ⟨_, t⟩
theorem KI.cw {N : Nat} {B : Int} {h0 : Nat} {cI cB cR : ClassId} {tz gz : Int} {xz : ZG} {U : va_W} (h : KI N B h0 cI cB cR tz gz xz U) (m : MS) : KI N B h0 cI cB cR tz gz (xz.cw xz.cs m) U := by
  obtain ⟨ad, pr, L1, L2, v, ad2, L3, L4, w, sb, a, m9, n, f, cnt, mb, h1, h2, h3, h4, h5, h6, h7, h8, h9, h10, h11⟩ := h
  exact ⟨ad, pr, L1, L2, v, ad2, L3, L4, w, sb, a, m9, n, f, cnt, mb, h1, h2, h3, h4, h5, h6, h7, h8, h9, h10, h11⟩
/-- an address: what the class asks of it, and what the reference asks -/
theorem adr_f (a : Int32) {N : Nat} (hN : N ≤ 4096) : (a &&& (3 : Int32)).toInt ≠ 0 ∨ ((N : Int) ≤ ((a.toUInt32 >>> ((2 : Int32).toUInt32 &&& Int32.toUInt32 31)).toInt32).toInt ∧ (a.toInt < 0 ∨ 4 * (N : Int) < a.toInt + 4)) ∨ (((a.toUInt32 >>> ((2 : Int32).toUInt32 &&& Int32.toUInt32 31)).toInt32).toInt < (N : Int) ∧ (0 ≤ a.toInt ∧ a.toInt + 4 ≤ 4 * (N : Int))) := by
  have hu := uI_lt a
  have e2 : ((a.toUInt32 >>> ((2 : Int32).toUInt32 &&& Int32.toUInt32 31)).toInt32).toInt = ((uI a / 4 : Nat) : Int) := by
    rw [ush2, nI_Z (by omega)]
  have ec : a.toInt = (if 2 * a.toBitVec.toNat < 2 ^ 32 then (a.toBitVec.toNat : Int) else (a.toBitVec.toNat : Int) - ((2 ^ 32 : Nat) : Int)) := BitVec.toInt_eq_toNat_cond a.toBitVec
  have eu : uI a = a.toBitVec.toNat := rfl
  have e3 : (a &&& (3 : Int32)).toInt = ((uI a % 4 : Nat) : Int) := by
    have h3 : a &&& (3 : Int32) = nI (uI a % 4) := and3 a
    rw [h3, nI_Z (by omega)]
  rw [e2, e3]
  by_cases q : 2 * a.toBitVec.toNat < 2 ^ 32
  · rw [if_pos q] at ec
    omega
  · rw [if_neg q] at ec
    omega
section CCB
variable {p : Program} {l : Launch} {e : Env} {R : Room} {s : State} {m : MethodId} {args : Array Value} {below : List Frame} {meth : Method} {c : Code} {H H0 : Heap} {locs : List Loc} {cells slots : Nat} {Q : State → Prop}
variable {cc bytes : ByteArray} {pc nL maxL mc ms n index ci b k0 : Nat} {ls : Array Slot} {rest st0 As fs : List Value} {D : va_G} {A : Nat → Prop} {tys : List (ClassId × FieldType)} {A0 : va_W} {S : Type} {x : Nat × va_E}
theorem cCx_i {post : Int32 → S → Prop} {Wf : S → va_W} {px : String → Prop} {a : Array Value} (hr : vx_Run p l e R s m args below meth c H locs cells slots mc ms (F0 m pc ls st0) rest (qi_ D A0 H.size post Wf a) (qxp D A0 H.size px) (va_A A0 H.size)) (hP : va_P D vwCl (x :: A0) H) (hD : va_D A (x :: A0)) (hS : va_S A H0 H locs) (hA : ∀ q, H0.size ≤ q → A q)
    (kx : ∀ (E : String) (ce : Cell) (q9 : Addr) (H1 : Heap) (locs1 : List Loc), px E → va_P D vwCl (x :: A0) H1 → va_D A (x :: A0) → va_S A H0 H1 locs1 → H1[q9]? = some ce → ce.vm = .none → s.vm.findClass E = some ce.cls → vx_W p l e R s m args below meth c H1 locs1 (cells + mc) (slots + ms) Q (F0 m pc ls rest) q9)
    (kk : ∀ (r : Int32) (u : S) (H1 : Heap) (locs1 : List Loc), post r u → va_P D vwCl (x :: Wf u) H1 → va_D A (x :: Wf u) → va_S A H0 H1 locs1 → W p l e R s m args below meth c H1 locs1 (cells + mc) (slots + ms) Q (F0 m (pc + 3) ls (.int r :: rest))) : W p l e R s m args below meth c H locs cells slots Q (F0 m pc ls st0) := by
  have hF := va_free hD hS hA (ixC A0.length) (ixC1_map x A0)
  refine vx_calli hr hS (fun q _ h => hF q h) hF (fun q _ h => hF q h) (fun E ce q9 u t H1 locs1 ht hvm hpx hB hz hk hS1 h1 h2 h3 => ?_) (fun r u t H1 locs1 ht hvm hw hB hz hk hS1 => ?_)
  · obtain ⟨hE, hP1, hD1⟩ := hB
    rw [ht] at hP1
    obtain ⟨hP2, hD2⟩ := va_join (wr := [x]) (w1 := A0) hP hD (ixC A0.length) [0] (ixC1_map x A0) rfl rfl (zero_C _) hk hF hP1 hD1
    exact kx E ce q9 H1 locs1 hE hP2 hD2 hS1 h1 h2 h3
  · obtain ⟨hP1, hD1⟩ := hB
    rw [ht] at hP1
    obtain ⟨hP2, hD2⟩ := va_join (wr := [x]) (w1 := Wf u) hP hD (ixC A0.length) [0] (ixC1_map x A0) rfl rfl (zero_C _) hk hF hP1 hD1
    exact kk r u H1 locs1 hw hP2 hD2 hS1
end CCB
set_option maxHeartbeats 4000000 in
set_option maxRecDepth 100000 in
theorem hl_code (l : Launch) (dC : Nat → ClassId) (dI : Nat → Nat → Nat) (cI cB cZ cJ cR : ClassId) (tb : Nat → Nat) (hst : l.stackTraces = false) (sz x0 o0 N : Nat) (B : Int) (U : va_W) (g : Nat → Int64) (hN2 : N ≤ 4096) (hB : B + 50000 ≤ 200000000) (tz gz : Int) (xz : ZG) (hU : KI N B x0 cI cB cR tz gz xz U) (pa : Int32) : Met l yL_code (Cond.codeWith yL_code cL_code 4 (some .int) [(0, 9, 12, 13)] :: tw_W) ({ frames := 7, cells := 1, slots := 6, locals := 103 }) (pc_ (dC, dI) (tyS cI cB cZ cJ cR) tb ((o0, .inl (cJ, 1, .inr (.inl g))) :: U) sz [.ref x0, .int pa, .ref o0]) (qi_ (dC, dI) ((o0, .inl (cJ, 1, .inr (.inl g))) :: U) sz (fun (r : Int32) (u : va_W) => ∃ (g9 : Nat → Int64) (U9 : va_W), u = (o0, .inl (cJ, 1, .inr (.inl g9))) :: U9 ∧ KI N (B + 50000) x0 cI cB cR tz gz xz U9 ∧ HCc N xz pa r.toInt (g9 0)) (fun (u : va_W) => u)) 1 6 (va_A ((o0, .inl (cJ, 1, .inr (.inl g))) :: U) sz) := by
  refine va_MetW (cc := cL_code) (maxL := 4) (ret := (some .int)) (by decide) rfl ?_
  intro p e s m args below meth c s₁ B9 hml hv
  obtain ⟨rfl, hsz, hP, hKK, hD0, hFx⟩ := hv
  have hK := hKK.1
  have hx := B9.exec
  have hb := B9.bytes
  have hr := B9.returns
  have ht : ∀ w ∈ tw_W, w.before _ s = true := fun w h => atoms_spec (ws := Cond.codeWith yL_code cL_code 4 (some .int) [(0, 9, 12, 13)] :: tw_W) B9.pre w (List.mem_cons_of_mem _ h)
  have htab := vx_table (x := yL_code) B9 (atoms_spec (ws := Cond.codeWith yL_code cL_code 4 (some .int) [(0, 9, 12, 13)] :: tw_W) B9.pre _ List.mem_cons_self)
  have hown : s.vm.findClass RL = some m.cls := findClass_of_methodNamed B9.named
  have hlocks := B9.notSynchronized
  subst hsz
  unfold qi_
  have hD := hD0.self (sz := s.heap.size)
  generalize hAe : va_A ((o0, .inl (cJ, 1, .inr (.inl g))) :: U) s.heap.size = A at hD hFx ⊢
  have hA : ∀ q : Nat, s.heap.size ≤ q → A q := fun q h => by rw [← hAe]; exact Or.inr h
  have hS : va_S A s.heap s.heap [] := va_S.rf
  have hP : va_P (dC, dI) vwCl ((o0, .inl (cJ, 1, .inr (.inl g))) :: U) s.heap := hP
  have hl := lv_entry ([.ref x0, .int pa, .ref o0]) (n := 4) (Nat.le_of_ble_eq_true rfl)
  rw [lg_entry_eq]
  generalize (lg_sl ([.ref x0, .int pa, .ref o0]) ++ List.replicate (4 - (lg_sl ([.ref x0, .int pa, .ref o0])).length) Slot.unset).toArray = ls at hl ⊢
  have hl : lv_has ls 4 [(0, .ref x0), (1, .int pa), (2, .ref o0)] := hl
  obtain ⟨kr, fsr, hrc⟩ := KI.recv hU
  refine lv_aload_n hx hb dL_code_0 rfl (lv_at hl 2 rfl) ?_
  refine lv_iconst (v := 0) hx hb dL_code_1 (by decide) ?_
  refine lv_aload_n hx hb dL_code_2 rfl (lv_at hl 0 rfl) ?_
  refine lv_iload_n hx hb dL_code_3 rfl (lv_at hl 1 rfl) ?_
  refine cCx_i (rx_Vk (n := 1) (As := [.int pa]) (rest := [.int 0, .ref o0]) hx hb hml hown ht hKK hFx hP hD hS hA (kl_code l dC dI cI cB cZ cJ cR tb hst s.heap.size x0 N B U hN2 hB tz gz xz hU pa) tw_1080 tw_1081 (by decide +kernel) rfl rfl ⟨Nat.le_of_ble_eq_true rfl, Nat.le_of_ble_eq_true rfl⟩ (ixC U.length) (ixC1_map _ _) (ixC_nd _) kr hrc rfl rfl rfl hl.1 rfl (Nat.le_of_ble_eq_true rfl) dL_code_4 ⟨Nat.le_of_ble_eq_true rfl, Nat.le_of_ble_eq_true rfl⟩) hP hD hS hA (fun E9 ce9 q9 H locs hx9 hP hD hS hc9 hv9 hf9 => ?_) (fun r9 u H locs hw hP hD hS => ?_)
  · have hU2 : KI N (B + 50000) x0 cI cB cR tz gz xz U := KI.mono hU (by omega)
    obtain ⟨rfl, hcx⟩ := hx9
    refine vx_catch (own := RL) (name := "java/lang/IndexOutOfBoundsException") hown [] ⟨0, 9, 12, 13⟩ [] (by rw [htab]; rfl) (fun z h9 => by simp at h9) (by decide) (by decide) (ht _ tw_1082) (va_Nw.use rfl (hKK.2.2.2.2.2.1 _ (List.mem_of_getElem? (i := 0) rfl))) hc9 hv9 hf9 ?_
    refine W.eq (g2 := F0 m 12 ls [.ref q9]) rfl ?_
    have hP : va_P (dC, dI) vwCl ((o0, .inl (cJ, 1, .inr (.inl g))) :: U) H := hP
    have hD : va_D A ((o0, .inl (cJ, 1, .inr (.inl g))) :: U) := hD
    refine W.widen (k := 1) (n := 6) (Nat.le_refl _) (Nat.le_refl _) ?_
    refine lv_astore_n (lv' := [(3, .ref q9), (0, .ref x0), (1, .int pa), (2, .ref o0)]) hx hb dL_code_12 rfl hl (by decide) rfl (fun ls hl => ?_)
    refine lv_iconst (v := 1) hx hb dL_code_13 (by decide) ?_
    exact W.iret (v := 1) hx hb hr (fun t ht9 hW => ⟨⟨1, ((o0, .inl (cJ, 1, .inr (.inl g))) :: U), rfl, ⟨g, U, rfl, hU2, Or.inr ⟨by decide, hcx⟩⟩, by rw [ht9]; exact hP, hD⟩, hS.F ht9⟩) hS.2.2 dL_code_14
  obtain ⟨hU2, hnp⟩ := hw
  have hP : va_P (dC, dI) vwCl ((o0, .inl (cJ, 1, .inr (.inl g))) :: u) H := hP
  have hD : va_D A ((o0, .inl (cJ, 1, .inr (.inl g))) :: u) := hD
  refine W.widen (k := 1) (n := 6) (Nat.le_refl _) (Nat.le_refl _) ?_
  refine lv_i2l hx hb dL_code_7 rfl ?_
  refine va_last (D := (dC, dI)) (f := g) hx hb hK hP hD hS 0 3 rfl rfl (vp_in_iff.mpr (by decide)) dL_code_8 (fun H locs hP hD hS => ?_)
  have hP : va_P (dC, dI) vwCl ((o0, .inl (cJ, 1, .inr (.inl (vp_updL g (0 : Int32).toNatClampNeg (r9).toInt64)))) :: u) H := hP
  have hD : va_D A ((o0, .inl (cJ, 1, .inr (.inl (vp_updL g (0 : Int32).toNatClampNeg (r9).toInt64)))) :: u) := hD
  refine lv_goto (tgt := 15) hx hb dL_code_9 (by decide) ?_
  refine lv_iconst (v := 0) hx hb dL_code_15 (by decide) ?_
  exact W.iret (v := 0) hx hb hr (fun t ht9 hW => ⟨⟨0, ((o0, .inl (cJ, 1, .inr (.inl (vp_updL g (0 : Int32).toNatClampNeg (r9).toInt64)))) :: u), rfl, ⟨(vp_updL g (0 : Int32).toNatClampNeg (r9).toInt64), u, rfl, hU2, Or.inl ⟨by decide, r9, if_pos (by decide), hnp⟩⟩, by rw [ht9]; exact hP, hD⟩, hS.F ht9⟩) hS.2.2 dL_code_16
set_option maxHeartbeats 4000000 in
set_option maxRecDepth 100000 in
theorem hl_find (l : Launch) (dC : Nat → ClassId) (dI : Nat → Nat → Nat) (cI cB cZ cJ cR : ClassId) (tb : Nat → Nat) (hst : l.stackTraces = false) (sz x0 o0 N : Nat) (B : Int) (U : va_W) (g : Nat → Int64) (hN2 : N ≤ 4096) (hB : B + 50000 ≤ 200000000) (tz gz : Int) (xz : ZG) (hU : KI N B x0 cI cB cR tz gz xz U) (pa : Int32) : Met l yL_find (Cond.codeWith yL_find cL_find 4 (some .int) [(0, 9, 12, 18)] :: tw_W) ({ frames := 7, cells := 1, slots := 6, locals := 106 }) (pc_ (dC, dI) (tyS cI cB cZ cJ cR) tb ((o0, .inl (cJ, 1, .inr (.inl g))) :: U) sz [.ref x0, .int pa, .ref o0]) (qi_ (dC, dI) ((o0, .inl (cJ, 1, .inr (.inl g))) :: U) sz (fun (r : Int32) (u : va_W) => ∃ (g9 : Nat → Int64) (U9 : va_W), u = (o0, .inl (cJ, 1, .inr (.inl g9))) :: U9 ∧ KI N (B + 50000) x0 cI cB cR tz gz xz U9 ∧ ((r.toInt = 0 ∧ ∃ q9 : Int32, g9 0 = q9.toInt64 ∧ fiR xz.dt xz.tb tz pa q9) ∨ (r.toInt = 1 ∧ pa.toInt ≠ 0 ∧ pa.toInt ≠ 1))) (fun (u : va_W) => u)) 1 6 (va_A ((o0, .inl (cJ, 1, .inr (.inl g))) :: U) sz) := by
  refine va_MetW (cc := cL_find) (maxL := 4) (ret := (some .int)) (by decide) rfl ?_
  intro p e s m args below meth c s₁ B9 hml hv
  obtain ⟨rfl, hsz, hP, hKK, hD0, hFx⟩ := hv
  have hK := hKK.1
  have hx := B9.exec
  have hb := B9.bytes
  have hr := B9.returns
  have ht : ∀ w ∈ tw_W, w.before _ s = true := fun w h => atoms_spec (ws := Cond.codeWith yL_find cL_find 4 (some .int) [(0, 9, 12, 18)] :: tw_W) B9.pre w (List.mem_cons_of_mem _ h)
  have htab := vx_table (x := yL_find) B9 (atoms_spec (ws := Cond.codeWith yL_find cL_find 4 (some .int) [(0, 9, 12, 18)] :: tw_W) B9.pre _ List.mem_cons_self)
  have hown : s.vm.findClass RL = some m.cls := findClass_of_methodNamed B9.named
  have hlocks := B9.notSynchronized
  subst hsz
  unfold qi_
  have hD := hD0.self (sz := s.heap.size)
  generalize hAe : va_A ((o0, .inl (cJ, 1, .inr (.inl g))) :: U) s.heap.size = A at hD hFx ⊢
  have hA : ∀ q : Nat, s.heap.size ≤ q → A q := fun q h => by rw [← hAe]; exact Or.inr h
  have hS : va_S A s.heap s.heap [] := va_S.rf
  have hP : va_P (dC, dI) vwCl ((o0, .inl (cJ, 1, .inr (.inl g))) :: U) s.heap := hP
  have hl := lv_entry ([.ref x0, .int pa, .ref o0]) (n := 4) (Nat.le_of_ble_eq_true rfl)
  rw [lg_entry_eq]
  generalize (lg_sl ([.ref x0, .int pa, .ref o0]) ++ List.replicate (4 - (lg_sl ([.ref x0, .int pa, .ref o0])).length) Slot.unset).toArray = ls at hl ⊢
  have hl : lv_has ls 4 [(0, .ref x0), (1, .int pa), (2, .ref o0)] := hl
  obtain ⟨kr, fsr, hrc⟩ := KI.recv hU
  refine lv_aload_n hx hb dL_find_0 rfl (lv_at hl 2 rfl) ?_
  refine lv_iconst (v := 0) hx hb dL_find_1 (by decide) ?_
  refine lv_aload_n hx hb dL_find_2 rfl (lv_at hl 0 rfl) ?_
  refine lv_iload_n hx hb dL_find_3 rfl (lv_at hl 1 rfl) ?_
  refine cCx_i (rx_Vk (n := 1) (As := [.int pa]) (rest := [.int 0, .ref o0]) hx hb hml hown ht hKK hFx hP hD hS hA (kl_find l dC dI cI cB cZ cJ cR tb hst s.heap.size x0 N B U hN2 hB tz gz xz hU pa) tw_1083 tw_1084 (by decide +kernel) rfl rfl ⟨Nat.le_of_ble_eq_true rfl, Nat.le_of_ble_eq_true rfl⟩ (ixC U.length) (ixC1_map _ _) (ixC_nd _) kr hrc rfl rfl rfl hl.1 rfl (Nat.le_of_ble_eq_true rfl) dL_find_4 ⟨Nat.le_of_ble_eq_true rfl, Nat.le_of_ble_eq_true rfl⟩) hP hD hS hA (fun E9 ce9 q9 H locs hx9 hP hD hS hc9 hv9 hf9 => ?_) (fun r9 u H locs hw hP hD hS => ?_)
  · have hU2 : KI N (B + 50000) x0 cI cB cR tz gz xz U := KI.mono hU (by omega)
    obtain ⟨rfl, hcx⟩ := hx9
    refine vx_catch (own := RL) (name := "java/lang/IllegalArgumentException") hown [] ⟨0, 9, 12, 18⟩ [] (by rw [htab]; rfl) (fun z h9 => by simp at h9) (by decide) (by decide) (ht _ tw_1085) (va_Nw.use rfl (hKK.2.2.2.2.2.1 _ (List.mem_of_getElem? (i := 1) rfl))) hc9 hv9 hf9 ?_
    refine W.eq (g2 := F0 m 12 ls [.ref q9]) rfl ?_
    have hP : va_P (dC, dI) vwCl ((o0, .inl (cJ, 1, .inr (.inl g))) :: U) H := hP
    have hD : va_D A ((o0, .inl (cJ, 1, .inr (.inl g))) :: U) := hD
    refine W.widen (k := 1) (n := 6) (Nat.le_refl _) (Nat.le_refl _) ?_
    refine lv_astore_n (lv' := [(3, .ref q9), (0, .ref x0), (1, .int pa), (2, .ref o0)]) hx hb dL_find_12 rfl hl (by decide) rfl (fun ls hl => ?_)
    refine lv_iconst (v := 1) hx hb dL_find_13 (by decide) ?_
    exact W.iret (v := 1) hx hb hr (fun t ht9 hW => ⟨⟨1, ((o0, .inl (cJ, 1, .inr (.inl g))) :: U), rfl, ⟨g, U, rfl, hU2, Or.inr (⟨by decide, hcx⟩)⟩, by rw [ht9]; exact hP, hD⟩, hS.F ht9⟩) hS.2.2 dL_find_14
  obtain ⟨hU2, hnp⟩ := hw
  have hP : va_P (dC, dI) vwCl ((o0, .inl (cJ, 1, .inr (.inl g))) :: u) H := hP
  have hD : va_D A ((o0, .inl (cJ, 1, .inr (.inl g))) :: u) := hD
  refine W.widen (k := 1) (n := 6) (Nat.le_refl _) (Nat.le_refl _) ?_
  refine lv_i2l hx hb dL_find_7 rfl ?_
  refine va_last (D := (dC, dI)) (f := g) hx hb hK hP hD hS 0 3 rfl rfl (vp_in_iff.mpr (by decide)) dL_find_8 (fun H locs hP hD hS => ?_)
  have hP : va_P (dC, dI) vwCl ((o0, .inl (cJ, 1, .inr (.inl (vp_updL g (0 : Int32).toNatClampNeg (r9).toInt64)))) :: u) H := hP
  have hD : va_D A ((o0, .inl (cJ, 1, .inr (.inl (vp_updL g (0 : Int32).toNatClampNeg (r9).toInt64)))) :: u) := hD
  refine lv_goto (tgt := 15) hx hb dL_find_9 (by decide) ?_
  refine lv_iconst (v := 0) hx hb dL_find_15 (by decide) ?_
  exact W.iret (v := 0) hx hb hr (fun t ht9 hW => ⟨⟨0, ((o0, .inl (cJ, 1, .inr (.inl (vp_updL g (0 : Int32).toNatClampNeg (r9).toInt64)))) :: u), rfl, ⟨(vp_updL g (0 : Int32).toNatClampNeg (r9).toInt64), u, rfl, hU2, Or.inl ⟨by decide, r9, if_pos (by decide), hnp⟩⟩, by rw [ht9]; exact hP, hD⟩, hS.F ht9⟩) hS.2.2 dL_find_16
set_option maxHeartbeats 4000000 in
set_option maxRecDepth 100000 in
theorem hl_run (l : Launch) (dC : Nat → ClassId) (dI : Nat → Nat → Nat) (cI cB cZ cJ cR : ClassId) (tb : Nat → Nat) (hst : l.stackTraces = false) (sz x0 o0 N : Nat) (B : Int) (U : va_W) (g : Nat → Int64) (hN2 : N ≤ 4096) (hB : B + 50000 ≤ 200000000) (tz gz : Int) (xz : ZG) (hU : KI N B x0 cI cB cR tz gz xz U) (pa : Int32) : Met l yL_run (Cond.codeWith yL_run cL_run 4 (some .int) [(0, 9, 12, 18)] :: tw_W) ({ frames := 8, cells := 1, slots := 6, locals := 177 }) (pc_ (dC, dI) (tyS cI cB cZ cJ cR) tb ((o0, .inl (cJ, 1, .inr (.inl g))) :: U) sz [.ref x0, .int pa, .ref o0]) (qi_ (dC, dI) ((o0, .inl (cJ, 1, .inr (.inl g))) :: U) sz (fun (r : Int32) (u : va_W) => ∃ (g9 : Nat → Int64) (U9 : va_W), u = (o0, .inl (cJ, 1, .inr (.inl g9))) :: U9 ∧ KI N (B + 50000) x0 cI cB cR tz gz xz U9) (fun (u : va_W) => u)) 1 6 (va_A ((o0, .inl (cJ, 1, .inr (.inl g))) :: U) sz) := by
  refine va_MetW (cc := cL_run) (maxL := 4) (ret := (some .int)) (by decide) rfl ?_
  intro p e s m args below meth c s₁ B9 hml hv
  obtain ⟨rfl, hsz, hP, hKK, hD0, hFx⟩ := hv
  have hK := hKK.1
  have hx := B9.exec
  have hb := B9.bytes
  have hr := B9.returns
  have ht : ∀ w ∈ tw_W, w.before _ s = true := fun w h => atoms_spec (ws := Cond.codeWith yL_run cL_run 4 (some .int) [(0, 9, 12, 18)] :: tw_W) B9.pre w (List.mem_cons_of_mem _ h)
  have htab := vx_table (x := yL_run) B9 (atoms_spec (ws := Cond.codeWith yL_run cL_run 4 (some .int) [(0, 9, 12, 18)] :: tw_W) B9.pre _ List.mem_cons_self)
  have hown : s.vm.findClass RL = some m.cls := findClass_of_methodNamed B9.named
  have hlocks := B9.notSynchronized
  subst hsz
  unfold qi_
  have hD := hD0.self (sz := s.heap.size)
  generalize hAe : va_A ((o0, .inl (cJ, 1, .inr (.inl g))) :: U) s.heap.size = A at hD hFx ⊢
  have hA : ∀ q : Nat, s.heap.size ≤ q → A q := fun q h => by rw [← hAe]; exact Or.inr h
  have hS : va_S A s.heap s.heap [] := va_S.rf
  have hP : va_P (dC, dI) vwCl ((o0, .inl (cJ, 1, .inr (.inl g))) :: U) s.heap := hP
  have hl := lv_entry ([.ref x0, .int pa, .ref o0]) (n := 4) (Nat.le_of_ble_eq_true rfl)
  rw [lg_entry_eq]
  generalize (lg_sl ([.ref x0, .int pa, .ref o0]) ++ List.replicate (4 - (lg_sl ([.ref x0, .int pa, .ref o0])).length) Slot.unset).toArray = ls at hl ⊢
  have hl : lv_has ls 4 [(0, .ref x0), (1, .int pa), (2, .ref o0)] := hl
  obtain ⟨kr, fsr, hrc⟩ := KI.recv hU
  refine lv_aload_n hx hb dL_run_0 rfl (lv_at hl 2 rfl) ?_
  refine lv_iconst (v := 0) hx hb dL_run_1 (by decide) ?_
  refine lv_aload_n hx hb dL_run_2 rfl (lv_at hl 0 rfl) ?_
  refine lv_iload_n hx hb dL_run_3 rfl (lv_at hl 1 rfl) ?_
  refine cCx_i (rx_Vk (n := 1) (As := [.int pa]) (rest := [.int 0, .ref o0]) hx hb hml hown ht hKK hFx hP hD hS hA (kl_run l dC dI cI cB cZ cJ cR tb hst s.heap.size x0 N B U hN2 hB tz gz xz hU pa) tw_1086 tw_1087 (by decide +kernel) rfl rfl ⟨Nat.le_of_ble_eq_true rfl, Nat.le_of_ble_eq_true rfl⟩ (ixC U.length) (ixC1_map _ _) (ixC_nd _) kr hrc rfl rfl rfl hl.1 rfl (Nat.le_of_ble_eq_true rfl) dL_run_4 ⟨Nat.le_of_ble_eq_true rfl, Nat.le_of_ble_eq_true rfl⟩) hP hD hS hA (fun E9 ce9 q9 H locs hx9 hP hD hS hc9 hv9 hf9 => ?_) (fun r9 u H locs hw hP hD hS => ?_)
  · have hU2 : KI N (B + 50000) x0 cI cB cR tz gz xz U := KI.mono hU (by omega)
    obtain rfl := hx9
    refine vx_catch (own := RL) (name := "java/lang/IllegalArgumentException") hown [] ⟨0, 9, 12, 18⟩ [] (by rw [htab]; rfl) (fun z h9 => by simp at h9) (by decide) (by decide) (ht _ tw_1085) (va_Nw.use rfl (hKK.2.2.2.2.2.1 _ (List.mem_of_getElem? (i := 1) rfl))) hc9 hv9 hf9 ?_
    refine W.eq (g2 := F0 m 12 ls [.ref q9]) rfl ?_
    have hP : va_P (dC, dI) vwCl ((o0, .inl (cJ, 1, .inr (.inl g))) :: U) H := hP
    have hD : va_D A ((o0, .inl (cJ, 1, .inr (.inl g))) :: U) := hD
    refine W.widen (k := 1) (n := 6) (Nat.le_refl _) (Nat.le_refl _) ?_
    refine lv_astore_n (lv' := [(3, .ref q9), (0, .ref x0), (1, .int pa), (2, .ref o0)]) hx hb dL_run_12 rfl hl (by decide) rfl (fun ls hl => ?_)
    refine lv_iconst (v := 1) hx hb dL_run_13 (by decide) ?_
    exact W.iret (v := 1) hx hb hr (fun t ht9 hW => ⟨⟨1, ((o0, .inl (cJ, 1, .inr (.inl g))) :: U), rfl, ⟨g, U, rfl, hU2⟩, by rw [ht9]; exact hP, hD⟩, hS.F ht9⟩) hS.2.2 dL_run_14
  have hP : va_P (dC, dI) vwCl ((o0, .inl (cJ, 1, .inr (.inl g))) :: u) H := hP
  have hD : va_D A ((o0, .inl (cJ, 1, .inr (.inl g))) :: u) := hD
  refine W.widen (k := 1) (n := 6) (Nat.le_refl _) (Nat.le_refl _) ?_
  refine lv_i2l hx hb dL_run_7 rfl ?_
  refine va_last (D := (dC, dI)) (f := g) hx hb hK hP hD hS 0 3 rfl rfl (vp_in_iff.mpr (by decide)) dL_run_8 (fun H locs hP hD hS => ?_)
  have hP : va_P (dC, dI) vwCl ((o0, .inl (cJ, 1, .inr (.inl (vp_updL g (0 : Int32).toNatClampNeg (r9).toInt64)))) :: u) H := hP
  have hD : va_D A ((o0, .inl (cJ, 1, .inr (.inl (vp_updL g (0 : Int32).toNatClampNeg (r9).toInt64)))) :: u) := hD
  refine lv_goto (tgt := 15) hx hb dL_run_9 (by decide) ?_
  refine lv_iconst (v := 0) hx hb dL_run_15 (by decide) ?_
  exact W.iret (v := 0) hx hb hr (fun t ht9 hW => ⟨⟨0, ((o0, .inl (cJ, 1, .inr (.inl (vp_updL g (0 : Int32).toNatClampNeg (r9).toInt64)))) :: u), rfl, ⟨(vp_updL g (0 : Int32).toNatClampNeg (r9).toInt64), u, rfl, hw⟩, by rw [ht9]; exact hP, hD⟩, hS.F ht9⟩) hS.2.2 dL_run_16
set_option maxHeartbeats 4000000 in
set_option maxRecDepth 100000 in
theorem hl_register (l : Launch) (dC : Nat → ClassId) (dI : Nat → Nat → Nat) (cI cB cZ cJ cR : ClassId) (tb : Nat → Nat) (hst : l.stackTraces = false) (sz x0 o0 N : Nat) (B : Int) (U : va_W) (g : Nat → Int64) (hN2 : N ≤ 4096) (hB : B + 50000 ≤ 200000000) (tz gz : Int) (xz : ZG) (hU : KI N B x0 cI cB cR tz gz xz U) (pa : Int32) : Met l yL_register (Cond.codeWith yL_register cL_register 4 (some .int) [(0, 9, 12, 13)] :: tw_W) ({ frames := 7, cells := 1, slots := 6, locals := 103 }) (pc_ (dC, dI) (tyS cI cB cZ cJ cR) tb ((o0, .inl (cJ, 1, .inr (.inl g))) :: U) sz [.ref x0, .int pa, .ref o0]) (qi_ (dC, dI) ((o0, .inl (cJ, 1, .inr (.inl g))) :: U) sz (fun (r : Int32) (u : va_W) => ∃ (g9 : Nat → Int64) (U9 : va_W), u = (o0, .inl (cJ, 1, .inr (.inl g9))) :: U9 ∧ KI N (B + 50000) x0 cI cB cR tz gz xz U9) (fun (u : va_W) => u)) 1 6 (va_A ((o0, .inl (cJ, 1, .inr (.inl g))) :: U) sz) := by
  refine va_MetW (cc := cL_register) (maxL := 4) (ret := (some .int)) (by decide) rfl ?_
  intro p e s m args below meth c s₁ B9 hml hv
  obtain ⟨rfl, hsz, hP, hKK, hD0, hFx⟩ := hv
  have hK := hKK.1
  have hx := B9.exec
  have hb := B9.bytes
  have hr := B9.returns
  have ht : ∀ w ∈ tw_W, w.before _ s = true := fun w h => atoms_spec (ws := Cond.codeWith yL_register cL_register 4 (some .int) [(0, 9, 12, 13)] :: tw_W) B9.pre w (List.mem_cons_of_mem _ h)
  have htab := vx_table (x := yL_register) B9 (atoms_spec (ws := Cond.codeWith yL_register cL_register 4 (some .int) [(0, 9, 12, 13)] :: tw_W) B9.pre _ List.mem_cons_self)
  have hown : s.vm.findClass RL = some m.cls := findClass_of_methodNamed B9.named
  have hlocks := B9.notSynchronized
  subst hsz
  unfold qi_
  have hD := hD0.self (sz := s.heap.size)
  generalize hAe : va_A ((o0, .inl (cJ, 1, .inr (.inl g))) :: U) s.heap.size = A at hD hFx ⊢
  have hA : ∀ q : Nat, s.heap.size ≤ q → A q := fun q h => by rw [← hAe]; exact Or.inr h
  have hS : va_S A s.heap s.heap [] := va_S.rf
  have hP : va_P (dC, dI) vwCl ((o0, .inl (cJ, 1, .inr (.inl g))) :: U) s.heap := hP
  have hl := lv_entry ([.ref x0, .int pa, .ref o0]) (n := 4) (Nat.le_of_ble_eq_true rfl)
  rw [lg_entry_eq]
  generalize (lg_sl ([.ref x0, .int pa, .ref o0]) ++ List.replicate (4 - (lg_sl ([.ref x0, .int pa, .ref o0])).length) Slot.unset).toArray = ls at hl ⊢
  have hl : lv_has ls 4 [(0, .ref x0), (1, .int pa), (2, .ref o0)] := hl
  obtain ⟨kr, fsr, hrc⟩ := KI.recv hU
  refine lv_aload_n hx hb dL_register_0 rfl (lv_at hl 2 rfl) ?_
  refine lv_iconst (v := 0) hx hb dL_register_1 (by decide) ?_
  refine lv_aload_n hx hb dL_register_2 rfl (lv_at hl 0 rfl) ?_
  refine lv_iload_n hx hb dL_register_3 rfl (lv_at hl 1 rfl) ?_
  refine cCx_i (rx_Vk (n := 1) (As := [.int pa]) (rest := [.int 0, .ref o0]) hx hb hml hown ht hKK hFx hP hD hS hA (kl_register l dC dI cI cB cZ cJ cR tb hst s.heap.size x0 N B U hN2 hB tz gz xz hU pa) tw_1088 tw_1089 (by decide +kernel) rfl rfl ⟨Nat.le_of_ble_eq_true rfl, Nat.le_of_ble_eq_true rfl⟩ (ixC U.length) (ixC1_map _ _) (ixC_nd _) kr hrc rfl rfl rfl hl.1 rfl (Nat.le_of_ble_eq_true rfl) dL_register_4 ⟨Nat.le_of_ble_eq_true rfl, Nat.le_of_ble_eq_true rfl⟩) hP hD hS hA (fun E9 ce9 q9 H locs hx9 hP hD hS hc9 hv9 hf9 => ?_) (fun r9 u H locs hw hP hD hS => ?_)
  · have hU2 : KI N (B + 50000) x0 cI cB cR tz gz xz U := KI.mono hU (by omega)
    obtain rfl := hx9
    refine vx_catch (own := RL) (name := "java/lang/IndexOutOfBoundsException") hown [] ⟨0, 9, 12, 13⟩ [] (by rw [htab]; rfl) (fun z h9 => by simp at h9) (by decide) (by decide) (ht _ tw_1082) (va_Nw.use rfl (hKK.2.2.2.2.2.1 _ (List.mem_of_getElem? (i := 0) rfl))) hc9 hv9 hf9 ?_
    refine W.eq (g2 := F0 m 12 ls [.ref q9]) rfl ?_
    have hP : va_P (dC, dI) vwCl ((o0, .inl (cJ, 1, .inr (.inl g))) :: U) H := hP
    have hD : va_D A ((o0, .inl (cJ, 1, .inr (.inl g))) :: U) := hD
    refine W.widen (k := 1) (n := 6) (Nat.le_refl _) (Nat.le_refl _) ?_
    refine lv_astore_n (lv' := [(3, .ref q9), (0, .ref x0), (1, .int pa), (2, .ref o0)]) hx hb dL_register_12 rfl hl (by decide) rfl (fun ls hl => ?_)
    refine lv_iconst (v := 1) hx hb dL_register_13 (by decide) ?_
    exact W.iret (v := 1) hx hb hr (fun t ht9 hW => ⟨⟨1, ((o0, .inl (cJ, 1, .inr (.inl g))) :: U), rfl, ⟨g, U, rfl, hU2⟩, by rw [ht9]; exact hP, hD⟩, hS.F ht9⟩) hS.2.2 dL_register_14
  have hP : va_P (dC, dI) vwCl ((o0, .inl (cJ, 1, .inr (.inl g))) :: u) H := hP
  have hD : va_D A ((o0, .inl (cJ, 1, .inr (.inl g))) :: u) := hD
  refine W.widen (k := 1) (n := 6) (Nat.le_refl _) (Nat.le_refl _) ?_
  refine lv_i2l hx hb dL_register_7 rfl ?_
  refine va_last (D := (dC, dI)) (f := g) hx hb hK hP hD hS 0 3 rfl rfl (vp_in_iff.mpr (by decide)) dL_register_8 (fun H locs hP hD hS => ?_)
  have hP : va_P (dC, dI) vwCl ((o0, .inl (cJ, 1, .inr (.inl (vp_updL g (0 : Int32).toNatClampNeg (r9).toInt64)))) :: u) H := hP
  have hD : va_D A ((o0, .inl (cJ, 1, .inr (.inl (vp_updL g (0 : Int32).toNatClampNeg (r9).toInt64)))) :: u) := hD
  refine lv_goto (tgt := 15) hx hb dL_register_9 (by decide) ?_
  refine lv_iconst (v := 0) hx hb dL_register_15 (by decide) ?_
  exact W.iret (v := 0) hx hb hr (fun t ht9 hW => ⟨⟨0, ((o0, .inl (cJ, 1, .inr (.inl (vp_updL g (0 : Int32).toNatClampNeg (r9).toInt64)))) :: u), rfl, ⟨(vp_updL g (0 : Int32).toNatClampNeg (r9).toInt64), u, rfl, hw⟩, by rw [ht9]; exact hP, hD⟩, hS.F ht9⟩) hS.2.2 dL_register_16
set_option maxHeartbeats 4000000 in
set_option maxRecDepth 100000 in
theorem hl_set (l : Launch) (dC : Nat → ClassId) (dI : Nat → Nat → Nat) (cI cB cZ cJ cR : ClassId) (tb : Nat → Nat) (hst : l.stackTraces = false) (sz x0 o0 N : Nat) (B : Int) (U : va_W) (g : Nat → Int64) (hN2 : N ≤ 4096) (hB : B + 50000 ≤ 200000000) (tz gz : Int) (xz : ZG) (hU : KI N B x0 cI cB cR tz gz xz U) (pa : Int32) (pb : Int32) : Met l yL_set (Cond.codeWith yL_set cL_set 4 (some .int) [(0, 6, 9, 13)] :: tw_W) ({ frames := 7, cells := 1, slots := 6, locals := 104 }) (pc_ (dC, dI) (tyS cI cB cZ cJ cR) tb U sz [.ref x0, .int pa, .int pb]) (qi_ (dC, dI) U sz (fun (r : Int32) (u : va_W) => ∃ (g9 : Nat → Int64) (U9 : va_W), u = U9 ∧ KI N (B + 50000) x0 cI cB cR tz gz xz U9 ∧ ((r.toInt = 0 ∧ (0 ≤ pa.toInt ∧ pa.toInt ≤ 32)) ∨ (r.toInt = 1 ∧ (pa.toInt < 0 ∨ 32 < pa.toInt)))) (fun (u : va_W) => u)) 1 6 (va_A U sz) := by
  refine va_MetW (cc := cL_set) (maxL := 4) (ret := (some .int)) (by decide) rfl ?_
  intro p e s m args below meth c s₁ B9 hml hv
  obtain ⟨rfl, hsz, hP, hKK, hD0, hFx⟩ := hv
  have hK := hKK.1
  have hx := B9.exec
  have hb := B9.bytes
  have hr := B9.returns
  have ht : ∀ w ∈ tw_W, w.before _ s = true := fun w h => atoms_spec (ws := Cond.codeWith yL_set cL_set 4 (some .int) [(0, 6, 9, 13)] :: tw_W) B9.pre w (List.mem_cons_of_mem _ h)
  have htab := vx_table (x := yL_set) B9 (atoms_spec (ws := Cond.codeWith yL_set cL_set 4 (some .int) [(0, 6, 9, 13)] :: tw_W) B9.pre _ List.mem_cons_self)
  have hown : s.vm.findClass RL = some m.cls := findClass_of_methodNamed B9.named
  have hlocks := B9.notSynchronized
  subst hsz
  unfold qi_
  have hD := hD0.self (sz := s.heap.size)
  generalize hAe : va_A U s.heap.size = A at hD hFx ⊢
  have hA : ∀ q : Nat, s.heap.size ≤ q → A q := fun q h => by rw [← hAe]; exact Or.inr h
  have hS : va_S A s.heap s.heap [] := va_S.rf
  have hP : va_P (dC, dI) vwCl U s.heap := hP
  have hl := lv_entry ([.ref x0, .int pa, .int pb]) (n := 4) (Nat.le_of_ble_eq_true rfl)
  rw [lg_entry_eq]
  generalize (lg_sl ([.ref x0, .int pa, .int pb]) ++ List.replicate (4 - (lg_sl ([.ref x0, .int pa, .int pb])).length) Slot.unset).toArray = ls at hl ⊢
  have hl : lv_has ls 4 [(0, .ref x0), (1, .int pa), (2, .int pb)] := hl
  obtain ⟨kr, fsr, hrc⟩ := KI.recv hU
  refine lv_aload_n hx hb dL_set_0 rfl (lv_at hl 0 rfl) ?_
  refine lv_iload_n hx hb dL_set_1 rfl (lv_at hl 1 rfl) ?_
  refine lv_iload_n hx hb dL_set_2 rfl (lv_at hl 2 rfl) ?_
  refine cpx_v (rx_Vk (n := 2) (As := [.int pa, .int pb]) (rest := []) hx hb hml hown ht hKK hFx hP hD hS hA (kl_set l dC dI cI cB cZ cJ cR tb hst s.heap.size x0 N B U hN2 hB tz gz xz hU pa pb) tw_1090 tw_1091 (by decide +kernel) rfl rfl ⟨Nat.le_of_ble_eq_true rfl, Nat.le_of_ble_eq_true rfl⟩ (List.range U.length) (rg_map _) (nd_range _) kr hrc rfl rfl rfl hl.1 rfl (Nat.le_of_ble_eq_true rfl) dL_set_3 ⟨Nat.le_of_ble_eq_true rfl, Nat.le_of_ble_eq_true rfl⟩) hP hD hS hA (fun E9 ce9 q9 H locs hx9 hP hD hS hc9 hv9 hf9 => ?_) (fun u H locs hw hP hD hS => ?_)
  · have hU2 : KI N (B + 50000) x0 cI cB cR tz gz xz U := KI.mono hU (by omega)
    obtain ⟨rfl, hcx⟩ := hx9
    refine vx_catch (own := RL) (name := "java/lang/IndexOutOfBoundsException") hown [] ⟨0, 6, 9, 13⟩ [] (by rw [htab]; rfl) (fun z h9 => by simp at h9) (by decide) (by decide) (ht _ tw_1082) (va_Nw.use rfl (hKK.2.2.2.2.2.1 _ (List.mem_of_getElem? (i := 0) rfl))) hc9 hv9 hf9 ?_
    refine W.eq (g2 := F0 m 9 ls [.ref q9]) rfl ?_
    have hP : va_P (dC, dI) vwCl U H := hP
    have hD : va_D A U := hD
    refine W.widen (k := 1) (n := 6) (Nat.le_refl _) (Nat.le_refl _) ?_
    refine lv_astore_n (lv' := [(3, .ref q9), (0, .ref x0), (1, .int pa), (2, .int pb)]) hx hb dL_set_9 rfl hl (by decide) rfl (fun ls hl => ?_)
    refine lv_iconst (v := 1) hx hb dL_set_10 (by decide) ?_
    have e0 : (1 : Int32).toInt = 1 := by decide
    exact W.iret (v := 1) hx hb hr (fun t ht9 hW => ⟨⟨1, U, rfl, ⟨g, U, rfl, hU2, by omega⟩, by rw [ht9]; exact hP, hD⟩, hS.F ht9⟩) hS.2.2 dL_set_11
  obtain ⟨hU2, hcx⟩ := hw
  have hP : va_P (dC, dI) vwCl u H := hP
  have hD : va_D A u := hD
  refine W.widen (k := 1) (n := 6) (Nat.le_refl _) (Nat.le_refl _) ?_
  refine lv_goto (tgt := 12) hx hb dL_set_6 (by decide) ?_
  refine lv_iconst (v := 0) hx hb dL_set_12 (by decide) ?_
  have e0 : (0 : Int32).toInt = 0 := by decide
  exact W.iret (v := 0) hx hb hr (fun t ht9 hW => ⟨⟨0, u, rfl, ⟨g, u, rfl, hU2, by omega⟩, by rw [ht9]; exact hP, hD⟩, hS.F ht9⟩) hS.2.2 dL_set_13
set_option maxHeartbeats 4000000 in
set_option maxRecDepth 100000 in
theorem hl_word (l : Launch) (dC : Nat → ClassId) (dI : Nat → Nat → Nat) (cI cB cZ cJ cR : ClassId) (tb : Nat → Nat) (hst : l.stackTraces = false) (sz x0 o0 N : Nat) (B : Int) (U : va_W) (g : Nat → Int64) (hN2 : N ≤ 4096) (hB : B + 50000 ≤ 200000000) (tz gz : Int) (xz : ZG) (hU : KI N B x0 cI cB cR tz gz xz U) (pa : Int32) : Met l yL_word (Cond.codeWith yL_word cL_word 4 (some .int) [(0, 9, 12, 18), (0, 9, 15, 13)] :: tw_W) ({ frames := 8, cells := 1, slots := 6, locals := 124 }) (pc_ (dC, dI) (tyS cI cB cZ cJ cR) tb ((o0, .inl (cJ, 1, .inr (.inl g))) :: U) sz [.ref x0, .int pa, .ref o0]) (qi_ (dC, dI) ((o0, .inl (cJ, 1, .inr (.inl g))) :: U) sz (fun (r : Int32) (u : va_W) => ∃ (g9 : Nat → Int64) (U9 : va_W), u = (o0, .inl (cJ, 1, .inr (.inl g9))) :: U9 ∧ KI N (B + 50000) x0 cI cB cR tz gz xz U9) (fun (u : va_W) => u)) 1 6 (va_A ((o0, .inl (cJ, 1, .inr (.inl g))) :: U) sz) := by
  refine va_MetW (cc := cL_word) (maxL := 4) (ret := (some .int)) (by decide) rfl ?_
  intro p e s m args below meth c s₁ B9 hml hv
  obtain ⟨rfl, hsz, hP, hKK, hD0, hFx⟩ := hv
  have hK := hKK.1
  have hx := B9.exec
  have hb := B9.bytes
  have hr := B9.returns
  have ht : ∀ w ∈ tw_W, w.before _ s = true := fun w h => atoms_spec (ws := Cond.codeWith yL_word cL_word 4 (some .int) [(0, 9, 12, 18), (0, 9, 15, 13)] :: tw_W) B9.pre w (List.mem_cons_of_mem _ h)
  have htab := vx_table (x := yL_word) B9 (atoms_spec (ws := Cond.codeWith yL_word cL_word 4 (some .int) [(0, 9, 12, 18), (0, 9, 15, 13)] :: tw_W) B9.pre _ List.mem_cons_self)
  have hown : s.vm.findClass RL = some m.cls := findClass_of_methodNamed B9.named
  have hlocks := B9.notSynchronized
  subst hsz
  unfold qi_
  have hD := hD0.self (sz := s.heap.size)
  generalize hAe : va_A ((o0, .inl (cJ, 1, .inr (.inl g))) :: U) s.heap.size = A at hD hFx ⊢
  have hA : ∀ q : Nat, s.heap.size ≤ q → A q := fun q h => by rw [← hAe]; exact Or.inr h
  have hS : va_S A s.heap s.heap [] := va_S.rf
  have hP : va_P (dC, dI) vwCl ((o0, .inl (cJ, 1, .inr (.inl g))) :: U) s.heap := hP
  have hl := lv_entry ([.ref x0, .int pa, .ref o0]) (n := 4) (Nat.le_of_ble_eq_true rfl)
  rw [lg_entry_eq]
  generalize (lg_sl ([.ref x0, .int pa, .ref o0]) ++ List.replicate (4 - (lg_sl ([.ref x0, .int pa, .ref o0])).length) Slot.unset).toArray = ls at hl ⊢
  have hl : lv_has ls 4 [(0, .ref x0), (1, .int pa), (2, .ref o0)] := hl
  obtain ⟨kr, fsr, hrc⟩ := KI.recv hU
  refine lv_aload_n hx hb dL_word_0 rfl (lv_at hl 2 rfl) ?_
  refine lv_iconst (v := 0) hx hb dL_word_1 (by decide) ?_
  refine lv_aload_n hx hb dL_word_2 rfl (lv_at hl 0 rfl) ?_
  refine lv_iload_n hx hb dL_word_3 rfl (lv_at hl 1 rfl) ?_
  refine cCx_i (rx_Vk (n := 1) (As := [.int pa]) (rest := [.int 0, .ref o0]) hx hb hml hown ht hKK hFx hP hD hS hA (kl_word l dC dI cI cB cZ cJ cR tb hst s.heap.size x0 N B U hN2 hB tz gz xz hU pa) tw_1092 tw_1093 (by decide +kernel) rfl rfl ⟨Nat.le_of_ble_eq_true rfl, Nat.le_of_ble_eq_true rfl⟩ (ixC U.length) (ixC1_map _ _) (ixC_nd _) kr hrc rfl rfl rfl hl.1 rfl (Nat.le_of_ble_eq_true rfl) dL_word_4 ⟨Nat.le_of_ble_eq_true rfl, Nat.le_of_ble_eq_true rfl⟩) hP hD hS hA (fun E9 ce9 q9 H locs hx9 hP hD hS hc9 hv9 hf9 => ?_) (fun r9 u H locs hw hP hD hS => ?_)
  · have hU2 : KI N (B + 50000) x0 cI cB cR tz gz xz U := KI.mono hU (by omega)
    rcases hx9 with ⟨rfl, hcx⟩ | ⟨rfl, hcx⟩
    · refine vx_catch (own := RL) (name := "java/lang/IllegalArgumentException") hown [] ⟨0, 9, 12, 18⟩ [⟨0, 9, 15, 13⟩] (by rw [htab]; rfl) (fun z h9 => by simp at h9) (by decide) (by decide) (ht _ tw_1085) (va_Nw.use rfl (hKK.2.2.2.2.2.1 _ (List.mem_of_getElem? (i := 1) rfl))) hc9 hv9 hf9 ?_
      refine W.eq (g2 := F0 m 12 ls [.ref q9]) rfl ?_
      have hP : va_P (dC, dI) vwCl ((o0, .inl (cJ, 1, .inr (.inl g))) :: U) H := hP
      have hD : va_D A ((o0, .inl (cJ, 1, .inr (.inl g))) :: U) := hD
      refine W.widen (k := 1) (n := 6) (Nat.le_refl _) (Nat.le_refl _) ?_
      refine lv_astore_n (lv' := [(3, .ref q9), (0, .ref x0), (1, .int pa), (2, .ref o0)]) hx hb dL_word_12 rfl hl (by decide) rfl (fun ls hl => ?_)
      refine lv_iconst (v := 1) hx hb dL_word_13 (by decide) ?_
      exact W.iret (v := 1) hx hb hr (fun t ht9 hW => ⟨⟨1, ((o0, .inl (cJ, 1, .inr (.inl g))) :: U), rfl, ⟨g, U, rfl, hU2⟩, by rw [ht9]; exact hP, hD⟩, hS.F ht9⟩) hS.2.2 dL_word_14
    · refine vx_catch (own := RL) (name := "java/lang/IndexOutOfBoundsException") hown [⟨0, 9, 12, 18⟩] ⟨0, 9, 15, 13⟩ [] (by rw [htab]; rfl) (fun z h9 => by rw [List.mem_singleton] at h9; subst h9; exact Or.inr ⟨by decide, "java/lang/IllegalArgumentException", ht _ tw_1085, hKK.2.2.2.2.2.2 _ (List.mem_of_getElem? (i := 0) rfl)⟩) (by decide) (by decide) (ht _ tw_1082) (va_Nw.use rfl (hKK.2.2.2.2.2.1 _ (List.mem_of_getElem? (i := 0) rfl))) hc9 hv9 hf9 ?_
      refine W.eq (g2 := F0 m 15 ls [.ref q9]) rfl ?_
      have hP : va_P (dC, dI) vwCl ((o0, .inl (cJ, 1, .inr (.inl g))) :: U) H := hP
      have hD : va_D A ((o0, .inl (cJ, 1, .inr (.inl g))) :: U) := hD
      refine W.widen (k := 1) (n := 6) (Nat.le_refl _) (Nat.le_refl _) ?_
      refine lv_astore_n (lv' := [(3, .ref q9), (0, .ref x0), (1, .int pa), (2, .ref o0)]) hx hb dL_word_15 rfl hl (by decide) rfl (fun ls hl => ?_)
      refine lv_iconst (v := 2) hx hb dL_word_16 (by decide) ?_
      exact W.iret (v := 2) hx hb hr (fun t ht9 hW => ⟨⟨2, ((o0, .inl (cJ, 1, .inr (.inl g))) :: U), rfl, ⟨g, U, rfl, hU2⟩, by rw [ht9]; exact hP, hD⟩, hS.F ht9⟩) hS.2.2 dL_word_17
  have hP : va_P (dC, dI) vwCl ((o0, .inl (cJ, 1, .inr (.inl g))) :: u) H := hP
  have hD : va_D A ((o0, .inl (cJ, 1, .inr (.inl g))) :: u) := hD
  refine W.widen (k := 1) (n := 6) (Nat.le_refl _) (Nat.le_refl _) ?_
  refine lv_i2l hx hb dL_word_7 rfl ?_
  refine va_last (D := (dC, dI)) (f := g) hx hb hK hP hD hS 0 3 rfl rfl (vp_in_iff.mpr (by decide)) dL_word_8 (fun H locs hP hD hS => ?_)
  have hP : va_P (dC, dI) vwCl ((o0, .inl (cJ, 1, .inr (.inl (vp_updL g (0 : Int32).toNatClampNeg (r9).toInt64)))) :: u) H := hP
  have hD : va_D A ((o0, .inl (cJ, 1, .inr (.inl (vp_updL g (0 : Int32).toNatClampNeg (r9).toInt64)))) :: u) := hD
  refine lv_goto (tgt := 18) hx hb dL_word_9 (by decide) ?_
  refine lv_iconst (v := 0) hx hb dL_word_18 (by decide) ?_
  exact W.iret (v := 0) hx hb hr (fun t ht9 hW => ⟨⟨0, ((o0, .inl (cJ, 1, .inr (.inl (vp_updL g (0 : Int32).toNatClampNeg (r9).toInt64)))) :: u), rfl, ⟨(vp_updL g (0 : Int32).toNatClampNeg (r9).toInt64), u, rfl, hw⟩, by rw [ht9]; exact hP, hD⟩, hS.F ht9⟩) hS.2.2 dL_word_19
set_option maxHeartbeats 4000000 in
set_option maxRecDepth 100000 in
theorem hl_poke (l : Launch) (dC : Nat → ClassId) (dI : Nat → Nat → Nat) (cI cB cZ cJ cR : ClassId) (tb : Nat → Nat) (hst : l.stackTraces = false) (sz x0 o0 N : Nat) (B : Int) (U : va_W) (g : Nat → Int64) (hN2 : N ≤ 4096) (hB : B + 50000 ≤ 200000000) (tz gz : Int) (xz : ZG) (hU : KI N B x0 cI cB cR tz gz xz U) (pa : Int32) (pb : Int32) : Met l yL_poke (Cond.codeWith yL_poke cL_poke 4 (some .int) [(0, 6, 9, 18), (0, 6, 12, 13)] :: tw_W) ({ frames := 8, cells := 1, slots := 6, locals := 125 }) (pc_ (dC, dI) (tyS cI cB cZ cJ cR) tb U sz [.ref x0, .int pa, .int pb]) (qi_ (dC, dI) U sz (fun (r : Int32) (u : va_W) => ∃ (g9 : Nat → Int64) (U9 : va_W), u = U9 ∧ KI N (B + 50000) x0 cI cB cR tz gz xz U9 ∧ ((r.toInt = 1 ∧ (pa &&& (3 : Int32)).toInt ≠ 0) ∨ (r.toInt = 2 ∧ (pa &&& (3 : Int32)).toInt = 0 ∧ (pa.toInt < 0 ∨ 4 * (N : Int) < pa.toInt + 4)) ∨ (r.toInt = 0 ∧ (pa &&& (3 : Int32)).toInt = 0 ∧ (0 ≤ pa.toInt ∧ pa.toInt + 4 ≤ 4 * (N : Int))))) (fun (u : va_W) => u)) 1 6 (va_A U sz) := by
  refine va_MetW (cc := cL_poke) (maxL := 4) (ret := (some .int)) (by decide) rfl ?_
  intro p e s m args below meth c s₁ B9 hml hv
  obtain ⟨rfl, hsz, hP, hKK, hD0, hFx⟩ := hv
  have hK := hKK.1
  have hx := B9.exec
  have hb := B9.bytes
  have hr := B9.returns
  have ht : ∀ w ∈ tw_W, w.before _ s = true := fun w h => atoms_spec (ws := Cond.codeWith yL_poke cL_poke 4 (some .int) [(0, 6, 9, 18), (0, 6, 12, 13)] :: tw_W) B9.pre w (List.mem_cons_of_mem _ h)
  have htab := vx_table (x := yL_poke) B9 (atoms_spec (ws := Cond.codeWith yL_poke cL_poke 4 (some .int) [(0, 6, 9, 18), (0, 6, 12, 13)] :: tw_W) B9.pre _ List.mem_cons_self)
  have hown : s.vm.findClass RL = some m.cls := findClass_of_methodNamed B9.named
  have hlocks := B9.notSynchronized
  subst hsz
  unfold qi_
  have hD := hD0.self (sz := s.heap.size)
  generalize hAe : va_A U s.heap.size = A at hD hFx ⊢
  have hA : ∀ q : Nat, s.heap.size ≤ q → A q := fun q h => by rw [← hAe]; exact Or.inr h
  have hS : va_S A s.heap s.heap [] := va_S.rf
  have hP : va_P (dC, dI) vwCl U s.heap := hP
  have hl := lv_entry ([.ref x0, .int pa, .int pb]) (n := 4) (Nat.le_of_ble_eq_true rfl)
  rw [lg_entry_eq]
  generalize (lg_sl ([.ref x0, .int pa, .int pb]) ++ List.replicate (4 - (lg_sl ([.ref x0, .int pa, .int pb])).length) Slot.unset).toArray = ls at hl ⊢
  have hl : lv_has ls 4 [(0, .ref x0), (1, .int pa), (2, .int pb)] := hl
  obtain ⟨kr, fsr, hrc⟩ := KI.recv hU
  refine lv_aload_n hx hb dL_poke_0 rfl (lv_at hl 0 rfl) ?_
  refine lv_iload_n hx hb dL_poke_1 rfl (lv_at hl 1 rfl) ?_
  refine lv_iload_n hx hb dL_poke_2 rfl (lv_at hl 2 rfl) ?_
  refine cpx_v (rx_Vk (n := 2) (As := [.int pa, .int pb]) (rest := []) hx hb hml hown ht hKK hFx hP hD hS hA (kl_poke l dC dI cI cB cZ cJ cR tb hst s.heap.size x0 N B U hN2 hB tz gz xz hU pa pb) tw_1094 tw_1095 (by decide +kernel) rfl rfl ⟨Nat.le_of_ble_eq_true rfl, Nat.le_of_ble_eq_true rfl⟩ (List.range U.length) (rg_map _) (nd_range _) kr hrc rfl rfl rfl hl.1 rfl (Nat.le_of_ble_eq_true rfl) dL_poke_3 ⟨Nat.le_of_ble_eq_true rfl, Nat.le_of_ble_eq_true rfl⟩) hP hD hS hA (fun E9 ce9 q9 H locs hx9 hP hD hS hc9 hv9 hf9 => ?_) (fun u H locs hw hP hD hS => ?_)
  · have hU2 : KI N (B + 50000) x0 cI cB cR tz gz xz U := KI.mono hU (by omega)
    rcases hx9 with ⟨rfl, hcx⟩ | ⟨rfl, hcx⟩
    · refine vx_catch (own := RL) (name := "java/lang/IllegalArgumentException") hown [] ⟨0, 6, 9, 18⟩ [⟨0, 6, 12, 13⟩] (by rw [htab]; rfl) (fun z h9 => by simp at h9) (by decide) (by decide) (ht _ tw_1085) (va_Nw.use rfl (hKK.2.2.2.2.2.1 _ (List.mem_of_getElem? (i := 1) rfl))) hc9 hv9 hf9 ?_
      refine W.eq (g2 := F0 m 9 ls [.ref q9]) rfl ?_
      have hP : va_P (dC, dI) vwCl U H := hP
      have hD : va_D A U := hD
      refine W.widen (k := 1) (n := 6) (Nat.le_refl _) (Nat.le_refl _) ?_
      refine lv_astore_n (lv' := [(3, .ref q9), (0, .ref x0), (1, .int pa), (2, .int pb)]) hx hb dL_poke_9 rfl hl (by decide) rfl (fun ls hl => ?_)
      refine lv_iconst (v := 1) hx hb dL_poke_10 (by decide) ?_
      have e0 : (1 : Int32).toInt = 1 := by decide
      have had := adr_f pa hN2
      exact W.iret (v := 1) hx hb hr (fun t ht9 hW => ⟨⟨1, U, rfl, ⟨g, U, rfl, hU2, by omega⟩, by rw [ht9]; exact hP, hD⟩, hS.F ht9⟩) hS.2.2 dL_poke_11
    · refine vx_catch (own := RL) (name := "java/lang/IndexOutOfBoundsException") hown [⟨0, 6, 9, 18⟩] ⟨0, 6, 12, 13⟩ [] (by rw [htab]; rfl) (fun z h9 => by rw [List.mem_singleton] at h9; subst h9; exact Or.inr ⟨by decide, "java/lang/IllegalArgumentException", ht _ tw_1085, hKK.2.2.2.2.2.2 _ (List.mem_of_getElem? (i := 0) rfl)⟩) (by decide) (by decide) (ht _ tw_1082) (va_Nw.use rfl (hKK.2.2.2.2.2.1 _ (List.mem_of_getElem? (i := 0) rfl))) hc9 hv9 hf9 ?_
      refine W.eq (g2 := F0 m 12 ls [.ref q9]) rfl ?_
      have hP : va_P (dC, dI) vwCl U H := hP
      have hD : va_D A U := hD
      refine W.widen (k := 1) (n := 6) (Nat.le_refl _) (Nat.le_refl _) ?_
      refine lv_astore_n (lv' := [(3, .ref q9), (0, .ref x0), (1, .int pa), (2, .int pb)]) hx hb dL_poke_12 rfl hl (by decide) rfl (fun ls hl => ?_)
      refine lv_iconst (v := 2) hx hb dL_poke_13 (by decide) ?_
      have e0 : (2 : Int32).toInt = 2 := by decide
      have had := adr_f pa hN2
      exact W.iret (v := 2) hx hb hr (fun t ht9 hW => ⟨⟨2, U, rfl, ⟨g, U, rfl, hU2, by omega⟩, by rw [ht9]; exact hP, hD⟩, hS.F ht9⟩) hS.2.2 dL_poke_14
  obtain ⟨hU2, hcx⟩ := hw
  have hP : va_P (dC, dI) vwCl u H := hP
  have hD : va_D A u := hD
  refine W.widen (k := 1) (n := 6) (Nat.le_refl _) (Nat.le_refl _) ?_
  refine lv_goto (tgt := 15) hx hb dL_poke_6 (by decide) ?_
  refine lv_iconst (v := 0) hx hb dL_poke_15 (by decide) ?_
  have e0 : (0 : Int32).toInt = 0 := by decide
  have had := adr_f pa hN2
  exact W.iret (v := 0) hx hb hr (fun t ht9 hW => ⟨⟨0, u, rfl, ⟨g, u, rfl, hU2, by omega⟩, by rw [ht9]; exact hP, hD⟩, hS.F ht9⟩) hS.2.2 dL_poke_16
set_option maxHeartbeats 4000000 in
set_option maxRecDepth 100000 in
theorem hl_put (l : Launch) (dC : Nat → ClassId) (dI : Nat → Nat → Nat) (cI cB cZ cJ cR : ClassId) (tb : Nat → Nat) (hst : l.stackTraces = false) (sz x0 o0 N : Nat) (B : Int) (U : va_W) (g : Nat → Int64) (hN2 : N ≤ 4096) (hB : B + 50000 ≤ 200000000) (tz gz : Int) (xz : ZG) (hU : KI N B x0 cI cB cR tz gz xz U) (pa : Int32) : Met l yL_put (Cond.codeWith yL_put cL_put 4 (some .int) [(0, 9, 12, 39)] :: tw_W) ({ frames := 7, cells := 1, slots := 6, locals := 103 }) (pc_ (dC, dI) (tyS cI cB cZ cJ cR) tb ((o0, .inl (cJ, 1, .inr (.inl g))) :: U) sz [.ref x0, .int pa, .ref o0]) (qi_ (dC, dI) ((o0, .inl (cJ, 1, .inr (.inl g))) :: U) sz (fun (r : Int32) (u : va_W) => ∃ (g9 : Nat → Int64) (U9 : va_W), u = (o0, .inl (cJ, 1, .inr (.inl g9))) :: U9 ∧ KI N (B + 50000) x0 cI cB cR tz gz xz U9) (fun (u : va_W) => u)) 1 6 (va_A ((o0, .inl (cJ, 1, .inr (.inl g))) :: U) sz) := by
  refine va_MetW (cc := cL_put) (maxL := 4) (ret := (some .int)) (by decide) rfl ?_
  intro p e s m args below meth c s₁ B9 hml hv
  obtain ⟨rfl, hsz, hP, hKK, hD0, hFx⟩ := hv
  have hK := hKK.1
  have hx := B9.exec
  have hb := B9.bytes
  have hr := B9.returns
  have ht : ∀ w ∈ tw_W, w.before _ s = true := fun w h => atoms_spec (ws := Cond.codeWith yL_put cL_put 4 (some .int) [(0, 9, 12, 39)] :: tw_W) B9.pre w (List.mem_cons_of_mem _ h)
  have htab := vx_table (x := yL_put) B9 (atoms_spec (ws := Cond.codeWith yL_put cL_put 4 (some .int) [(0, 9, 12, 39)] :: tw_W) B9.pre _ List.mem_cons_self)
  have hown : s.vm.findClass RL = some m.cls := findClass_of_methodNamed B9.named
  have hlocks := B9.notSynchronized
  subst hsz
  unfold qi_
  have hD := hD0.self (sz := s.heap.size)
  generalize hAe : va_A ((o0, .inl (cJ, 1, .inr (.inl g))) :: U) s.heap.size = A at hD hFx ⊢
  have hA : ∀ q : Nat, s.heap.size ≤ q → A q := fun q h => by rw [← hAe]; exact Or.inr h
  have hS : va_S A s.heap s.heap [] := va_S.rf
  have hP : va_P (dC, dI) vwCl ((o0, .inl (cJ, 1, .inr (.inl g))) :: U) s.heap := hP
  have hl := lv_entry ([.ref x0, .int pa, .ref o0]) (n := 4) (Nat.le_of_ble_eq_true rfl)
  rw [lg_entry_eq]
  generalize (lg_sl ([.ref x0, .int pa, .ref o0]) ++ List.replicate (4 - (lg_sl ([.ref x0, .int pa, .ref o0])).length) Slot.unset).toArray = ls at hl ⊢
  have hl : lv_has ls 4 [(0, .ref x0), (1, .int pa), (2, .ref o0)] := hl
  obtain ⟨kr, fsr, hrc⟩ := KI.recv hU
  refine lv_aload_n hx hb dL_put_0 rfl (lv_at hl 2 rfl) ?_
  refine lv_iconst (v := 0) hx hb dL_put_1 (by decide) ?_
  refine lv_aload_n hx hb dL_put_2 rfl (lv_at hl 0 rfl) ?_
  refine lv_iload_n hx hb dL_put_3 rfl (lv_at hl 1 rfl) ?_
  refine cCx_i (rx_Vk (n := 1) (As := [.int pa]) (rest := [.int 0, .ref o0]) hx hb hml hown ht hKK hFx hP hD hS hA (kl_put l dC dI cI cB cZ cJ cR tb hst s.heap.size x0 N B U hN2 hB tz gz xz hU pa) tw_1096 tw_1097 (by decide +kernel) rfl rfl ⟨Nat.le_of_ble_eq_true rfl, Nat.le_of_ble_eq_true rfl⟩ (ixC U.length) (ixC1_map _ _) (ixC_nd _) kr hrc rfl rfl rfl hl.1 rfl (Nat.le_of_ble_eq_true rfl) dL_put_4 ⟨Nat.le_of_ble_eq_true rfl, Nat.le_of_ble_eq_true rfl⟩) hP hD hS hA (fun E9 ce9 q9 H locs hx9 hP hD hS hc9 hv9 hf9 => ?_) (fun r9 u H locs hw hP hD hS => ?_)
  · have hU2 : KI N (B + 50000) x0 cI cB cR tz gz xz U := KI.mono hU (by omega)
    obtain rfl := hx9
    refine vx_catch (own := RL) (name := "java/util/NoSuchElementException") hown [] ⟨0, 9, 12, 39⟩ [] (by rw [htab]; rfl) (fun z h9 => by simp at h9) (by decide) (by decide) (ht _ tw_1098) (va_Nw.use rfl (hKK.2.2.2.2.2.1 _ (List.mem_of_getElem? (i := 2) rfl))) hc9 hv9 hf9 ?_
    refine W.eq (g2 := F0 m 12 ls [.ref q9]) rfl ?_
    have hP : va_P (dC, dI) vwCl ((o0, .inl (cJ, 1, .inr (.inl g))) :: U) H := hP
    have hD : va_D A ((o0, .inl (cJ, 1, .inr (.inl g))) :: U) := hD
    refine W.widen (k := 1) (n := 6) (Nat.le_refl _) (Nat.le_refl _) ?_
    refine lv_astore_n (lv' := [(3, .ref q9), (0, .ref x0), (1, .int pa), (2, .ref o0)]) hx hb dL_put_12 rfl hl (by decide) rfl (fun ls hl => ?_)
    refine lv_iconst (v := 1) hx hb dL_put_13 (by decide) ?_
    exact W.iret (v := 1) hx hb hr (fun t ht9 hW => ⟨⟨1, ((o0, .inl (cJ, 1, .inr (.inl g))) :: U), rfl, ⟨g, U, rfl, hU2⟩, by rw [ht9]; exact hP, hD⟩, hS.F ht9⟩) hS.2.2 dL_put_14
  have hP : va_P (dC, dI) vwCl ((o0, .inl (cJ, 1, .inr (.inl g))) :: u) H := hP
  have hD : va_D A ((o0, .inl (cJ, 1, .inr (.inl g))) :: u) := hD
  refine W.widen (k := 1) (n := 6) (Nat.le_refl _) (Nat.le_refl _) ?_
  refine lv_i2l hx hb dL_put_7 rfl ?_
  refine va_last (D := (dC, dI)) (f := g) hx hb hK hP hD hS 0 3 rfl rfl (vp_in_iff.mpr (by decide)) dL_put_8 (fun H locs hP hD hS => ?_)
  have hP : va_P (dC, dI) vwCl ((o0, .inl (cJ, 1, .inr (.inl (vp_updL g (0 : Int32).toNatClampNeg (r9).toInt64)))) :: u) H := hP
  have hD : va_D A ((o0, .inl (cJ, 1, .inr (.inl (vp_updL g (0 : Int32).toNatClampNeg (r9).toInt64)))) :: u) := hD
  refine lv_goto (tgt := 15) hx hb dL_put_9 (by decide) ?_
  refine lv_iconst (v := 0) hx hb dL_put_15 (by decide) ?_
  exact W.iret (v := 0) hx hb hr (fun t ht9 hW => ⟨⟨0, ((o0, .inl (cJ, 1, .inr (.inl (vp_updL g (0 : Int32).toNatClampNeg (r9).toInt64)))) :: u), rfl, ⟨(vp_updL g (0 : Int32).toNatClampNeg (r9).toInt64), u, rfl, hw⟩, by rw [ht9]; exact hP, hD⟩, hS.F ht9⟩) hS.2.2 dL_put_16
set_option maxHeartbeats 4000000 in
set_option maxRecDepth 100000 in
theorem hl_work (l : Launch) (dC : Nat → ClassId) (dI : Nat → Nat → Nat) (cI cB cZ cJ cR : ClassId) (tb : Nat → Nat) (hst : l.stackTraces = false) (sz x0 o0 N : Nat) (B : Int) (U : va_W) (g : Nat → Int64) (hN2 : N ≤ 4096) (hB : B + 50000 ≤ 200000000) (tz gz : Int) (xz : ZG) (hU : KI N B x0 cI cB cR tz gz xz U) (pa : Int32) (pb : Int32) (pc1 : Int32) (pd : Int32) : Met l yL_work (Cond.codeWith yL_work cL_work 7 (some .int) [(0, 14, 17, 39), (0, 14, 21, 18)] :: tw_W) ({ frames := 7, cells := 1, slots := 6, locals := 160 }) (pc_ (dC, dI) (tyS cI cB cZ cJ cR) tb ((o0, .inl (cJ, 1, .inr (.inl g))) :: U) sz [.ref x0, .int pa, .int pb, .int pc1, .int pd, .ref o0]) (qi_ (dC, dI) ((o0, .inl (cJ, 1, .inr (.inl g))) :: U) sz (fun (r : Int32) (u : va_W) => ∃ (g9 : Nat → Int64) (U9 : va_W), u = (o0, .inl (cJ, 1, .inr (.inl g9))) :: U9 ∧ ∃ c9 : MS × List Nat × List Nat, (∀ m9 : MS, KI N (B + 50000) x0 cI cB cR tz gz (xz.cw c9 m9) U9) ∧ HCw N gz xz pa pb pc1 pd r.toInt (g9 0) c9) (fun (u : va_W) => u)) 1 6 (va_A ((o0, .inl (cJ, 1, .inr (.inl g))) :: U) sz) := by
  refine va_MetW (cc := cL_work) (maxL := 7) (ret := (some .int)) (by decide) rfl ?_
  intro p e s m args below meth c s₁ B9 hml hv
  obtain ⟨rfl, hsz, hP, hKK, hD0, hFx⟩ := hv
  have hK := hKK.1
  have hx := B9.exec
  have hb := B9.bytes
  have hr := B9.returns
  have ht : ∀ w ∈ tw_W, w.before _ s = true := fun w h => atoms_spec (ws := Cond.codeWith yL_work cL_work 7 (some .int) [(0, 14, 17, 39), (0, 14, 21, 18)] :: tw_W) B9.pre w (List.mem_cons_of_mem _ h)
  have htab := vx_table (x := yL_work) B9 (atoms_spec (ws := Cond.codeWith yL_work cL_work 7 (some .int) [(0, 14, 17, 39), (0, 14, 21, 18)] :: tw_W) B9.pre _ List.mem_cons_self)
  have hown : s.vm.findClass RL = some m.cls := findClass_of_methodNamed B9.named
  have hlocks := B9.notSynchronized
  subst hsz
  unfold qi_
  have hD := hD0.self (sz := s.heap.size)
  generalize hAe : va_A ((o0, .inl (cJ, 1, .inr (.inl g))) :: U) s.heap.size = A at hD hFx ⊢
  have hA : ∀ q : Nat, s.heap.size ≤ q → A q := fun q h => by rw [← hAe]; exact Or.inr h
  have hS : va_S A s.heap s.heap [] := va_S.rf
  have hP : va_P (dC, dI) vwCl ((o0, .inl (cJ, 1, .inr (.inl g))) :: U) s.heap := hP
  have hl := lv_entry ([.ref x0, .int pa, .int pb, .int pc1, .int pd, .ref o0]) (n := 7) (Nat.le_of_ble_eq_true rfl)
  rw [lg_entry_eq]
  generalize (lg_sl ([.ref x0, .int pa, .int pb, .int pc1, .int pd, .ref o0]) ++ List.replicate (7 - (lg_sl ([.ref x0, .int pa, .int pb, .int pc1, .int pd, .ref o0])).length) Slot.unset).toArray = ls at hl ⊢
  have hl : lv_has ls 7 [(0, .ref x0), (1, .int pa), (2, .int pb), (3, .int pc1), (4, .int pd), (5, .ref o0)] := hl
  obtain ⟨kr, fsr, hrc⟩ := KI.recv hU
  refine lv_aload hx hb dL_work_0 (lv_at hl 5 rfl) ?_
  refine lv_iconst (v := 0) hx hb dL_work_2 (by decide) ?_
  refine lv_aload_n hx hb dL_work_3 rfl (lv_at hl 0 rfl) ?_
  refine lv_iload_n hx hb dL_work_4 rfl (lv_at hl 1 rfl) ?_
  refine lv_iload_n hx hb dL_work_5 rfl (lv_at hl 2 rfl) ?_
  refine lv_iload_n hx hb dL_work_6 rfl (lv_at hl 3 rfl) ?_
  refine lv_iload hx hb dL_work_7 (lv_at hl 4 rfl) ?_
  refine cCx_i (rx_Vk (n := 4) (As := [.int pa, .int pb, .int pc1, .int pd]) (rest := [.int 0, .ref o0]) hx hb hml hown ht hKK hFx hP hD hS hA (kl_work l dC dI cI cB cZ cJ cR tb hst s.heap.size x0 N B U hN2 hB tz gz xz hU pa pb pc1 pd) tw_1099 tw_1100 (by decide +kernel) rfl rfl ⟨Nat.le_of_ble_eq_true rfl, Nat.le_of_ble_eq_true rfl⟩ (ixC U.length) (ixC1_map _ _) (ixC_nd _) kr hrc rfl rfl rfl hl.1 rfl (Nat.le_of_ble_eq_true rfl) dL_work_9 ⟨Nat.le_of_ble_eq_true rfl, Nat.le_of_ble_eq_true rfl⟩) hP hD hS hA (fun E9 ce9 q9 H locs hx9 hP hD hS hc9 hv9 hf9 => ?_) (fun r9 u H locs hw hP hD hS => ?_)
  · have hU2 : KI N (B + 50000) x0 cI cB cR tz gz xz U := KI.mono hU (by omega)
    rcases hx9 with ⟨rfl, hcx⟩ | ⟨rfl, hcx⟩
    · refine vx_catch (own := RL) (name := "java/util/NoSuchElementException") hown [] ⟨0, 14, 17, 39⟩ [⟨0, 14, 21, 18⟩] (by rw [htab]; rfl) (fun z h9 => by simp at h9) (by decide) (by decide) (ht _ tw_1098) (va_Nw.use rfl (hKK.2.2.2.2.2.1 _ (List.mem_of_getElem? (i := 2) rfl))) hc9 hv9 hf9 ?_
      refine W.eq (g2 := F0 m 17 ls [.ref q9]) rfl ?_
      have hP : va_P (dC, dI) vwCl ((o0, .inl (cJ, 1, .inr (.inl g))) :: U) H := hP
      have hD : va_D A ((o0, .inl (cJ, 1, .inr (.inl g))) :: U) := hD
      refine W.widen (k := 1) (n := 6) (Nat.le_refl _) (Nat.le_refl _) ?_
      refine lv_astore (lv' := [(6, .ref q9), (0, .ref x0), (1, .int pa), (2, .int pb), (3, .int pc1), (4, .int pd), (5, .ref o0)]) hx hb dL_work_17 hl (by decide) rfl (fun ls hl => ?_)
      refine lv_iconst (v := 1) hx hb dL_work_19 (by decide) ?_
      exact W.iret (v := 1) hx hb hr (fun t ht9 hW => ⟨⟨1, ((o0, .inl (cJ, 1, .inr (.inl g))) :: U), rfl, ⟨g, U, rfl, xz.cs, fun m9 => KI.cw hU2 m9, Or.inr (Or.inl ⟨by decide, hcx, rfl⟩)⟩, by rw [ht9]; exact hP, hD⟩, hS.F ht9⟩) hS.2.2 dL_work_20
    · refine vx_catch (own := RL) (name := "java/lang/IllegalArgumentException") hown [⟨0, 14, 17, 39⟩] ⟨0, 14, 21, 18⟩ [] (by rw [htab]; rfl) (fun z h9 => by rw [List.mem_singleton] at h9; subst h9; exact Or.inr ⟨by decide, "java/util/NoSuchElementException", ht _ tw_1098, hKK.2.2.2.2.2.2 _ (List.mem_of_getElem? (i := 1) rfl)⟩) (by decide) (by decide) (ht _ tw_1085) (va_Nw.use rfl (hKK.2.2.2.2.2.1 _ (List.mem_of_getElem? (i := 1) rfl))) hc9 hv9 hf9 ?_
      refine W.eq (g2 := F0 m 21 ls [.ref q9]) rfl ?_
      have hP : va_P (dC, dI) vwCl ((o0, .inl (cJ, 1, .inr (.inl g))) :: U) H := hP
      have hD : va_D A ((o0, .inl (cJ, 1, .inr (.inl g))) :: U) := hD
      refine W.widen (k := 1) (n := 6) (Nat.le_refl _) (Nat.le_refl _) ?_
      refine lv_astore (lv' := [(6, .ref q9), (0, .ref x0), (1, .int pa), (2, .int pb), (3, .int pc1), (4, .int pd), (5, .ref o0)]) hx hb dL_work_21 hl (by decide) rfl (fun ls hl => ?_)
      refine lv_iconst (v := 2) hx hb dL_work_23 (by decide) ?_
      exact W.iret (v := 2) hx hb hr (fun t ht9 hW => ⟨⟨2, ((o0, .inl (cJ, 1, .inr (.inl g))) :: U), rfl, ⟨g, U, rfl, xz.cs, fun m9 => KI.cw hU2 m9, Or.inr (Or.inr ⟨by decide, hcx, rfl⟩)⟩, by rw [ht9]; exact hP, hD⟩, hS.F ht9⟩) hS.2.2 dL_work_24
  obtain ⟨c9, hU2, hnp⟩ := hw
  have hP : va_P (dC, dI) vwCl ((o0, .inl (cJ, 1, .inr (.inl g))) :: u) H := hP
  have hD : va_D A ((o0, .inl (cJ, 1, .inr (.inl g))) :: u) := hD
  refine W.widen (k := 1) (n := 6) (Nat.le_refl _) (Nat.le_refl _) ?_
  refine lv_i2l hx hb dL_work_12 rfl ?_
  refine va_last (D := (dC, dI)) (f := g) hx hb hK hP hD hS 0 3 rfl rfl (vp_in_iff.mpr (by decide)) dL_work_13 (fun H locs hP hD hS => ?_)
  have hP : va_P (dC, dI) vwCl ((o0, .inl (cJ, 1, .inr (.inl (vp_updL g (0 : Int32).toNatClampNeg (r9).toInt64)))) :: u) H := hP
  have hD : va_D A ((o0, .inl (cJ, 1, .inr (.inl (vp_updL g (0 : Int32).toNatClampNeg (r9).toInt64)))) :: u) := hD
  refine lv_goto (tgt := 25) hx hb dL_work_14 (by decide) ?_
  refine lv_iconst (v := 0) hx hb dL_work_25 (by decide) ?_
  exact W.iret (v := 0) hx hb hr (fun t ht9 hW => ⟨⟨0, ((o0, .inl (cJ, 1, .inr (.inl (vp_updL g (0 : Int32).toNatClampNeg (r9).toInt64)))) :: u), rfl, ⟨(vp_updL g (0 : Int32).toNatClampNeg (r9).toInt64), u, rfl, c9, hU2, Or.inl ⟨by decide, r9, if_pos (by decide), hnp⟩⟩, by rw [ht9]; exact hP, hD⟩, hS.F ht9⟩) hS.2.2 dL_work_26
set_option maxHeartbeats 4000000 in
set_option maxRecDepth 100000 in
theorem hl_worked (l : Launch) (dC : Nat → ClassId) (dI : Nat → Nat → Nat) (cI cB cZ cJ cR : ClassId) (tb : Nat → Nat) (hst : l.stackTraces = false) (sz x0 o0 N : Nat) (B : Int) (U : va_W) (g : Nat → Int64) (hN2 : N ≤ 4096) (hB : B + 50000 ≤ 200000000) (tz gz : Int) (xz : ZG) (hU : KI N B x0 cI cB cR tz gz xz U) (pa : Int32) : Met l yL_worked (Cond.codeWith yL_worked cL_worked 4 (some .int) [(0, 9, 12, 39)] :: tw_W) ({ frames := 7, cells := 1, slots := 6, locals := 103 }) (pc_ (dC, dI) (tyS cI cB cZ cJ cR) tb ((o0, .inl (cJ, 1, .inr (.inl g))) :: U) sz [.ref x0, .int pa, .ref o0]) (qi_ (dC, dI) ((o0, .inl (cJ, 1, .inr (.inl g))) :: U) sz (fun (r : Int32) (u : va_W) => ∃ (g9 : Nat → Int64) (U9 : va_W), u = (o0, .inl (cJ, 1, .inr (.inl g9))) :: U9 ∧ KI N (B + 50000) x0 cI cB cR tz gz xz U9 ∧ HCd xz pa r.toInt (g9 0)) (fun (u : va_W) => u)) 1 6 (va_A ((o0, .inl (cJ, 1, .inr (.inl g))) :: U) sz) := by
  refine va_MetW (cc := cL_worked) (maxL := 4) (ret := (some .int)) (by decide) rfl ?_
  intro p e s m args below meth c s₁ B9 hml hv
  obtain ⟨rfl, hsz, hP, hKK, hD0, hFx⟩ := hv
  have hK := hKK.1
  have hx := B9.exec
  have hb := B9.bytes
  have hr := B9.returns
  have ht : ∀ w ∈ tw_W, w.before _ s = true := fun w h => atoms_spec (ws := Cond.codeWith yL_worked cL_worked 4 (some .int) [(0, 9, 12, 39)] :: tw_W) B9.pre w (List.mem_cons_of_mem _ h)
  have htab := vx_table (x := yL_worked) B9 (atoms_spec (ws := Cond.codeWith yL_worked cL_worked 4 (some .int) [(0, 9, 12, 39)] :: tw_W) B9.pre _ List.mem_cons_self)
  have hown : s.vm.findClass RL = some m.cls := findClass_of_methodNamed B9.named
  have hlocks := B9.notSynchronized
  subst hsz
  unfold qi_
  have hD := hD0.self (sz := s.heap.size)
  generalize hAe : va_A ((o0, .inl (cJ, 1, .inr (.inl g))) :: U) s.heap.size = A at hD hFx ⊢
  have hA : ∀ q : Nat, s.heap.size ≤ q → A q := fun q h => by rw [← hAe]; exact Or.inr h
  have hS : va_S A s.heap s.heap [] := va_S.rf
  have hP : va_P (dC, dI) vwCl ((o0, .inl (cJ, 1, .inr (.inl g))) :: U) s.heap := hP
  have hl := lv_entry ([.ref x0, .int pa, .ref o0]) (n := 4) (Nat.le_of_ble_eq_true rfl)
  rw [lg_entry_eq]
  generalize (lg_sl ([.ref x0, .int pa, .ref o0]) ++ List.replicate (4 - (lg_sl ([.ref x0, .int pa, .ref o0])).length) Slot.unset).toArray = ls at hl ⊢
  have hl : lv_has ls 4 [(0, .ref x0), (1, .int pa), (2, .ref o0)] := hl
  obtain ⟨kr, fsr, hrc⟩ := KI.recv hU
  refine lv_aload_n hx hb dL_worked_0 rfl (lv_at hl 2 rfl) ?_
  refine lv_iconst (v := 0) hx hb dL_worked_1 (by decide) ?_
  refine lv_aload_n hx hb dL_worked_2 rfl (lv_at hl 0 rfl) ?_
  refine lv_iload_n hx hb dL_worked_3 rfl (lv_at hl 1 rfl) ?_
  refine cCx_i (rx_Vk (n := 1) (As := [.int pa]) (rest := [.int 0, .ref o0]) hx hb hml hown ht hKK hFx hP hD hS hA (kl_worked l dC dI cI cB cZ cJ cR tb hst s.heap.size x0 N B U hN2 hB tz gz xz hU pa) tw_1101 tw_1102 (by decide +kernel) rfl rfl ⟨Nat.le_of_ble_eq_true rfl, Nat.le_of_ble_eq_true rfl⟩ (ixC U.length) (ixC1_map _ _) (ixC_nd _) kr hrc rfl rfl rfl hl.1 rfl (Nat.le_of_ble_eq_true rfl) dL_worked_4 ⟨Nat.le_of_ble_eq_true rfl, Nat.le_of_ble_eq_true rfl⟩) hP hD hS hA (fun E9 ce9 q9 H locs hx9 hP hD hS hc9 hv9 hf9 => ?_) (fun r9 u H locs hw hP hD hS => ?_)
  · have hU2 : KI N (B + 50000) x0 cI cB cR tz gz xz U := KI.mono hU (by omega)
    obtain ⟨rfl, hcx⟩ := hx9
    refine vx_catch (own := RL) (name := "java/util/NoSuchElementException") hown [] ⟨0, 9, 12, 39⟩ [] (by rw [htab]; rfl) (fun z h9 => by simp at h9) (by decide) (by decide) (ht _ tw_1098) (va_Nw.use rfl (hKK.2.2.2.2.2.1 _ (List.mem_of_getElem? (i := 2) rfl))) hc9 hv9 hf9 ?_
    refine W.eq (g2 := F0 m 12 ls [.ref q9]) rfl ?_
    have hP : va_P (dC, dI) vwCl ((o0, .inl (cJ, 1, .inr (.inl g))) :: U) H := hP
    have hD : va_D A ((o0, .inl (cJ, 1, .inr (.inl g))) :: U) := hD
    refine W.widen (k := 1) (n := 6) (Nat.le_refl _) (Nat.le_refl _) ?_
    refine lv_astore_n (lv' := [(3, .ref q9), (0, .ref x0), (1, .int pa), (2, .ref o0)]) hx hb dL_worked_12 rfl hl (by decide) rfl (fun ls hl => ?_)
    refine lv_iconst (v := 1) hx hb dL_worked_13 (by decide) ?_
    exact W.iret (v := 1) hx hb hr (fun t ht9 hW => ⟨⟨1, ((o0, .inl (cJ, 1, .inr (.inl g))) :: U), rfl, ⟨g, U, rfl, hU2, Or.inr ⟨by decide, hcx⟩⟩, by rw [ht9]; exact hP, hD⟩, hS.F ht9⟩) hS.2.2 dL_worked_14
  obtain ⟨hU2, hnp⟩ := hw
  have hP : va_P (dC, dI) vwCl ((o0, .inl (cJ, 1, .inr (.inl g))) :: u) H := hP
  have hD : va_D A ((o0, .inl (cJ, 1, .inr (.inl g))) :: u) := hD
  refine W.widen (k := 1) (n := 6) (Nat.le_refl _) (Nat.le_refl _) ?_
  refine lv_i2l hx hb dL_worked_7 rfl ?_
  refine va_last (D := (dC, dI)) (f := g) hx hb hK hP hD hS 0 3 rfl rfl (vp_in_iff.mpr (by decide)) dL_worked_8 (fun H locs hP hD hS => ?_)
  have hP : va_P (dC, dI) vwCl ((o0, .inl (cJ, 1, .inr (.inl (vp_updL g (0 : Int32).toNatClampNeg (r9).toInt64)))) :: u) H := hP
  have hD : va_D A ((o0, .inl (cJ, 1, .inr (.inl (vp_updL g (0 : Int32).toNatClampNeg (r9).toInt64)))) :: u) := hD
  refine lv_goto (tgt := 15) hx hb dL_worked_9 (by decide) ?_
  refine lv_iconst (v := 0) hx hb dL_worked_15 (by decide) ?_
  exact W.iret (v := 0) hx hb hr (fun t ht9 hW => ⟨⟨0, ((o0, .inl (cJ, 1, .inr (.inl (vp_updL g (0 : Int32).toNatClampNeg (r9).toInt64)))) :: u), rfl, ⟨(vp_updL g (0 : Int32).toNatClampNeg (r9).toInt64), u, rfl, hU2, Or.inl ⟨by decide, r9, if_pos (by decide), hnp⟩⟩, by rw [ht9]; exact hP, hD⟩, hS.F ht9⟩) hS.2.2 dL_worked_16
set_option maxHeartbeats 4000000 in
set_option maxRecDepth 100000 in
theorem hl_left (l : Launch) (dC : Nat → ClassId) (dI : Nat → Nat → Nat) (cI cB cZ cJ cR : ClassId) (tb : Nat → Nat) (hst : l.stackTraces = false) (sz x0 o0 N : Nat) (B : Int) (U : va_W) (g : Nat → Int64) (hN2 : N ≤ 4096) (hB : B + 50000 ≤ 200000000) (tz gz : Int) (xz : ZG) (hU : KI N B x0 cI cB cR tz gz xz U) (pa : Int32) (pb : Int32) : Met l yL_left (Cond.codeWith yL_left cL_left 5 (some .int) [(0, 10, 13, 39)] :: tw_W) ({ frames := 7, cells := 1, slots := 6, locals := 104 }) (pc_ (dC, dI) (tyS cI cB cZ cJ cR) tb ((o0, .inl (cJ, 1, .inr (.inl g))) :: U) sz [.ref x0, .int pa, .int pb, .ref o0]) (qi_ (dC, dI) ((o0, .inl (cJ, 1, .inr (.inl g))) :: U) sz (fun (r : Int32) (u : va_W) => ∃ (g9 : Nat → Int64) (U9 : va_W), u = (o0, .inl (cJ, 1, .inr (.inl g9))) :: U9 ∧ KI N (B + 50000) x0 cI cB cR tz gz xz U9 ∧ HCl N xz pa pb r.toInt (g9 0)) (fun (u : va_W) => u)) 1 6 (va_A ((o0, .inl (cJ, 1, .inr (.inl g))) :: U) sz) := by
  refine va_MetW (cc := cL_left) (maxL := 5) (ret := (some .int)) (by decide) rfl ?_
  intro p e s m args below meth c s₁ B9 hml hv
  obtain ⟨rfl, hsz, hP, hKK, hD0, hFx⟩ := hv
  have hK := hKK.1
  have hx := B9.exec
  have hb := B9.bytes
  have hr := B9.returns
  have ht : ∀ w ∈ tw_W, w.before _ s = true := fun w h => atoms_spec (ws := Cond.codeWith yL_left cL_left 5 (some .int) [(0, 10, 13, 39)] :: tw_W) B9.pre w (List.mem_cons_of_mem _ h)
  have htab := vx_table (x := yL_left) B9 (atoms_spec (ws := Cond.codeWith yL_left cL_left 5 (some .int) [(0, 10, 13, 39)] :: tw_W) B9.pre _ List.mem_cons_self)
  have hown : s.vm.findClass RL = some m.cls := findClass_of_methodNamed B9.named
  have hlocks := B9.notSynchronized
  subst hsz
  unfold qi_
  have hD := hD0.self (sz := s.heap.size)
  generalize hAe : va_A ((o0, .inl (cJ, 1, .inr (.inl g))) :: U) s.heap.size = A at hD hFx ⊢
  have hA : ∀ q : Nat, s.heap.size ≤ q → A q := fun q h => by rw [← hAe]; exact Or.inr h
  have hS : va_S A s.heap s.heap [] := va_S.rf
  have hP : va_P (dC, dI) vwCl ((o0, .inl (cJ, 1, .inr (.inl g))) :: U) s.heap := hP
  have hl := lv_entry ([.ref x0, .int pa, .int pb, .ref o0]) (n := 5) (Nat.le_of_ble_eq_true rfl)
  rw [lg_entry_eq]
  generalize (lg_sl ([.ref x0, .int pa, .int pb, .ref o0]) ++ List.replicate (5 - (lg_sl ([.ref x0, .int pa, .int pb, .ref o0])).length) Slot.unset).toArray = ls at hl ⊢
  have hl : lv_has ls 5 [(0, .ref x0), (1, .int pa), (2, .int pb), (3, .ref o0)] := hl
  obtain ⟨kr, fsr, hrc⟩ := KI.recv hU
  refine lv_aload_n hx hb dL_left_0 rfl (lv_at hl 3 rfl) ?_
  refine lv_iconst (v := 0) hx hb dL_left_1 (by decide) ?_
  refine lv_aload_n hx hb dL_left_2 rfl (lv_at hl 0 rfl) ?_
  refine lv_iload_n hx hb dL_left_3 rfl (lv_at hl 1 rfl) ?_
  refine lv_iload_n hx hb dL_left_4 rfl (lv_at hl 2 rfl) ?_
  refine cCx_i (rx_Vk (n := 2) (As := [.int pa, .int pb]) (rest := [.int 0, .ref o0]) hx hb hml hown ht hKK hFx hP hD hS hA (kl_left l dC dI cI cB cZ cJ cR tb hst s.heap.size x0 N B U hN2 hB tz gz xz hU pa pb) tw_1103 tw_1104 (by decide +kernel) rfl rfl ⟨Nat.le_of_ble_eq_true rfl, Nat.le_of_ble_eq_true rfl⟩ (ixC U.length) (ixC1_map _ _) (ixC_nd _) kr hrc rfl rfl rfl hl.1 rfl (Nat.le_of_ble_eq_true rfl) dL_left_5 ⟨Nat.le_of_ble_eq_true rfl, Nat.le_of_ble_eq_true rfl⟩) hP hD hS hA (fun E9 ce9 q9 H locs hx9 hP hD hS hc9 hv9 hf9 => ?_) (fun r9 u H locs hw hP hD hS => ?_)
  · have hU2 : KI N (B + 50000) x0 cI cB cR tz gz xz U := KI.mono hU (by omega)
    obtain ⟨rfl, hcx⟩ := hx9
    refine vx_catch (own := RL) (name := "java/util/NoSuchElementException") hown [] ⟨0, 10, 13, 39⟩ [] (by rw [htab]; rfl) (fun z h9 => by simp at h9) (by decide) (by decide) (ht _ tw_1098) (va_Nw.use rfl (hKK.2.2.2.2.2.1 _ (List.mem_of_getElem? (i := 2) rfl))) hc9 hv9 hf9 ?_
    refine W.eq (g2 := F0 m 13 ls [.ref q9]) rfl ?_
    have hP : va_P (dC, dI) vwCl ((o0, .inl (cJ, 1, .inr (.inl g))) :: U) H := hP
    have hD : va_D A ((o0, .inl (cJ, 1, .inr (.inl g))) :: U) := hD
    refine W.widen (k := 1) (n := 6) (Nat.le_refl _) (Nat.le_refl _) ?_
    refine lv_astore (lv' := [(4, .ref q9), (0, .ref x0), (1, .int pa), (2, .int pb), (3, .ref o0)]) hx hb dL_left_13 hl (by decide) rfl (fun ls hl => ?_)
    refine lv_iconst (v := 1) hx hb dL_left_15 (by decide) ?_
    exact W.iret (v := 1) hx hb hr (fun t ht9 hW => ⟨⟨1, ((o0, .inl (cJ, 1, .inr (.inl g))) :: U), rfl, ⟨g, U, rfl, hU2, Or.inr ⟨by decide, hcx⟩⟩, by rw [ht9]; exact hP, hD⟩, hS.F ht9⟩) hS.2.2 dL_left_16
  obtain ⟨hU2, hnp⟩ := hw
  have hP : va_P (dC, dI) vwCl ((o0, .inl (cJ, 1, .inr (.inl g))) :: u) H := hP
  have hD : va_D A ((o0, .inl (cJ, 1, .inr (.inl g))) :: u) := hD
  refine W.widen (k := 1) (n := 6) (Nat.le_refl _) (Nat.le_refl _) ?_
  refine lv_i2l hx hb dL_left_8 rfl ?_
  refine va_last (D := (dC, dI)) (f := g) hx hb hK hP hD hS 0 3 rfl rfl (vp_in_iff.mpr (by decide)) dL_left_9 (fun H locs hP hD hS => ?_)
  have hP : va_P (dC, dI) vwCl ((o0, .inl (cJ, 1, .inr (.inl (vp_updL g (0 : Int32).toNatClampNeg (r9).toInt64)))) :: u) H := hP
  have hD : va_D A ((o0, .inl (cJ, 1, .inr (.inl (vp_updL g (0 : Int32).toNatClampNeg (r9).toInt64)))) :: u) := hD
  refine lv_goto (tgt := 17) hx hb dL_left_10 (by decide) ?_
  refine lv_iconst (v := 0) hx hb dL_left_17 (by decide) ?_
  exact W.iret (v := 0) hx hb hr (fun t ht9 hW => ⟨⟨0, ((o0, .inl (cJ, 1, .inr (.inl (vp_updL g (0 : Int32).toNatClampNeg (r9).toInt64)))) :: u), rfl, ⟨(vp_updL g (0 : Int32).toNatClampNeg (r9).toInt64), u, rfl, hU2, Or.inl ⟨by decide, r9, if_pos (by decide), hnp⟩⟩, by rw [ht9]; exact hP, hD⟩, hS.F ht9⟩) hS.2.2 dL_left_18
