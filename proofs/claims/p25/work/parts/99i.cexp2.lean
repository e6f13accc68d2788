theorem dX2_argument_0 : decode cX2_argument 0 = .ok (.aload_n 0, 1) := by decide +kernel
theorem dX2_argument_1 : decode cX2_argument 1 = .ok (.getfield 22, 3) := by decide +kernel
theorem dX2_argument_4 : decode cX2_argument 4 = .ok (.iconst 1, 1) := by decide +kernel
theorem dX2_argument_5 : decode cX2_argument 5 = .ok (.invokevirtual 75, 3) := by decide +kernel
theorem dX2_argument_8 : decode cX2_argument 8 = .ok (.ifCond .eq 9, 3) := by decide +kernel
theorem dX2_argument_17 : decode cX2_argument 17 = .ok (.aload_n 0, 1) := by decide +kernel
theorem dX2_argument_18 : decode cX2_argument 18 = .ok (.getfield 18, 3) := by decide +kernel
theorem dX2_argument_21 : decode cX2_argument 21 = .ok (.invokevirtual 162, 3) := by decide +kernel
theorem tw_516 : (.code yX9_makeDue cX9_makeDue 1 none : Cond) ∈ tw_W := tw_in (t8_4 (List.mem_of_getElem? (i := 126) rfl)) rfl
theorem tw_517 : ∀ w ∈ ([.methodLink RX2 162 yX9_makeDue, .instanceMethod yX9_makeDue, .selects RX9 yX9_makeDue yX9_makeDue, .initialized RX9] : List Cond), w ∈ tw_W := al_c (tw_in (t8_4 (List.mem_of_getElem? (i := 123) rfl)) rfl) (al_c (tw_in (t8_4 (List.mem_of_getElem? (i := 124) rfl)) rfl) (al_c (tw_in (t8_4 (List.mem_of_getElem? (i := 125) rfl)) rfl) (al_c (tw_in (t8_1 (List.mem_of_getElem? (i := 10) rfl)) rfl) al_n)))
theorem dX2_argument_24 : decode cX2_argument 24 = .ok (.aload_n 0, 1) := by decide +kernel
theorem dX2_argument_25 : decode cX2_argument 25 = .ok (.getfield 22, 3) := by decide +kernel
theorem dX2_argument_28 : decode cX2_argument 28 = .ok (.iload_n 1, 1) := by decide +kernel
theorem dX2_argument_29 : decode cX2_argument 29 = .ok (.invokevirtual 165, 3) := by decide +kernel
theorem tw_518 : (.code yX1_addArgument cX1_addArgument 2 none : Cond) ∈ tw_W := tw_in (t8_4 (List.mem_of_getElem? (i := 130) rfl)) rfl
theorem tw_519 : ∀ w ∈ ([.methodLink RX2 165 yX1_addArgument, .instanceMethod yX1_addArgument, .selects RX1 yX1_addArgument yX1_addArgument, .initialized RX1] : List Cond), w ∈ tw_W := al_c (tw_in (t8_4 (List.mem_of_getElem? (i := 127) rfl)) rfl) (al_c (tw_in (t8_4 (List.mem_of_getElem? (i := 128) rfl)) rfl) (al_c (tw_in (t8_4 (List.mem_of_getElem? (i := 129) rfl)) rfl) (al_c (tw_in (t8_1 (List.mem_of_getElem? (i := 11) rfl)) rfl) al_n)))
theorem dX2_argument_32 : decode cX2_argument 32 = .ok (.aload_n 0, 1) := by decide +kernel
theorem dX2_argument_33 : decode cX2_argument 33 = .ok (.iconst 1, 1) := by decide +kernel
theorem dX2_argument_34 : decode cX2_argument 34 = .ok (.invokevirtual 94, 3) := by decide +kernel
theorem tw_520 : (.code yX2_expression cX2_expression 5 none : Cond) ∈ tw_W := tw_in (t8_4 (List.mem_of_getElem? (i := 82) rfl)) rfl
theorem tw_521 : ∀ w ∈ ([.methodLink RX2 94 yX2_expression, .instanceMethod yX2_expression, .selects RX2 yX2_expression yX2_expression, .initialized RX2] : List Cond), w ∈ tw_W := al_c (tw_in (t8_4 (List.mem_of_getElem? (i := 101) rfl)) rfl) (al_c (tw_in (t8_4 (List.mem_of_getElem? (i := 80) rfl)) rfl) (al_c (tw_in (t8_4 (List.mem_of_getElem? (i := 81) rfl)) rfl) (al_c (tw_in (t8_1 (List.mem_of_getElem? (i := 12) rfl)) rfl) al_n)))
theorem dX2_argument_37 : decode cX2_argument 37 = .ok (.aload_n 0, 1) := by decide +kernel
theorem dX2_argument_38 : decode cX2_argument 38 = .ok (.getfield 22, 3) := by decide +kernel
theorem dX2_argument_41 : decode cX2_argument 41 = .ok (.iconst 4, 1) := by decide +kernel
theorem dX2_argument_42 : decode cX2_argument 42 = .ok (.aload_n 0, 1) := by decide +kernel
theorem dX2_argument_43 : decode cX2_argument 43 = .ok (.getfield 22, 3) := by decide +kernel
theorem dX2_argument_46 : decode cX2_argument 46 = .ok (.invokevirtual 72, 3) := by decide +kernel
theorem dX2_argument_49 : decode cX2_argument 49 = .ok (.iconst 0, 1) := by decide +kernel
theorem dX2_argument_50 : decode cX2_argument 50 = .ok (.invokevirtual 65, 3) := by decide +kernel
theorem dX2_argument_53 : decode cX2_argument 53 = .ok (.aload_n 0, 1) := by decide +kernel
theorem dX2_argument_54 : decode cX2_argument 54 = .ok (.getfield 22, 3) := by decide +kernel
theorem dX2_argument_57 : decode cX2_argument 57 = .ok (.dup, 1) := by decide +kernel
theorem dX2_argument_58 : decode cX2_argument 58 = .ok (.getfield 85, 3) := by decide +kernel
theorem dX2_argument_61 : decode cX2_argument 61 = .ok (.iconst 1, 1) := by decide +kernel
theorem dX2_argument_62 : decode cX2_argument 62 = .ok (.iadd, 1) := by decide +kernel
theorem dX2_argument_63 : decode cX2_argument 63 = .ok (.putfield 85, 3) := by decide +kernel
theorem dX2_argument_66 : decode cX2_argument 66 = .ok (.return_, 1) := by decide +kernel
theorem dX2_argument_11 : decode cX2_argument 11 = .ok (.iload_n 2, 1) := by decide +kernel
theorem dX2_argument_12 : decode cX2_argument 12 = .ok (.bipush 8, 2) := by decide +kernel
theorem dX2_argument_14 : decode cX2_argument 14 = .ok (.if_icmp .lt 10, 3) := by decide +kernel
theorem dX2_changeBy_0 : decode cX2_changeBy 0 = .ok (.iload 4, 2) := by decide +kernel
theorem dX2_changeBy_2 : decode cX2_changeBy 2 = .ok (.ifCond .eq 17, 3) := by decide +kernel
theorem dX2_changeBy_19 : decode cX2_changeBy 19 = .ok (.aload_n 0, 1) := by decide +kernel
theorem dX2_changeBy_20 : decode cX2_changeBy 20 = .ok (.iload_n 2, 1) := by decide +kernel
theorem dX2_changeBy_21 : decode cX2_changeBy 21 = .ok (.iload_n 3, 1) := by decide +kernel
theorem dX2_changeBy_22 : decode cX2_changeBy 22 = .ok (.invokevirtual 149, 3) := by decide +kernel
theorem tw_522 : (.code yX2_read cX2_read 3 none : Cond) ∈ tw_W := tw_in (t8_4 (List.mem_of_getElem? (i := 150) rfl)) rfl
theorem tw_523 : ∀ w ∈ ([.methodLink RX2 149 yX2_read, .instanceMethod yX2_read, .selects RX2 yX2_read yX2_read, .initialized RX2] : List Cond), w ∈ tw_W := al_c (tw_in (t8_4 (List.mem_of_getElem? (i := 147) rfl)) rfl) (al_c (tw_in (t8_4 (List.mem_of_getElem? (i := 149) rfl)) rfl) (al_c (tw_in (t7_2 (q := (yX2_read, 5)) (List.mem_of_getElem? (i := 14) rfl)) rfl) (al_c (tw_in (t8_1 (List.mem_of_getElem? (i := 12) rfl)) rfl) al_n)))
theorem dX2_changeBy_25 : decode cX2_changeBy 25 = .ok (.aload_n 0, 1) := by decide +kernel
theorem dX2_changeBy_26 : decode cX2_changeBy 26 = .ok (.getfield 22, 3) := by decide +kernel
theorem dX2_changeBy_29 : decode cX2_changeBy 29 = .ok (.invokevirtual 72, 3) := by decide +kernel
theorem dX2_changeBy_32 : decode cX2_changeBy 32 = .ok (.istore 5, 2) := by decide +kernel
theorem dX2_changeBy_34 : decode cX2_changeBy 34 = .ok (.aload_n 0, 1) := by decide +kernel
theorem dX2_changeBy_35 : decode cX2_changeBy 35 = .ok (.getfield 22, 3) := by decide +kernel
theorem dX2_changeBy_38 : decode cX2_changeBy 38 = .ok (.iconst 4, 1) := by decide +kernel
theorem dX2_changeBy_39 : decode cX2_changeBy 39 = .ok (.iload 5, 2) := by decide +kernel
theorem dX2_changeBy_41 : decode cX2_changeBy 41 = .ok (.iconst 0, 1) := by decide +kernel
theorem dX2_changeBy_42 : decode cX2_changeBy 42 = .ok (.invokevirtual 65, 3) := by decide +kernel
theorem dX2_changeBy_45 : decode cX2_changeBy 45 = .ok (.aload_n 0, 1) := by decide +kernel
theorem dX2_changeBy_46 : decode cX2_changeBy 46 = .ok (.getfield 22, 3) := by decide +kernel
theorem dX2_changeBy_49 : decode cX2_changeBy 49 = .ok (.dup, 1) := by decide +kernel
theorem dX2_changeBy_50 : decode cX2_changeBy 50 = .ok (.getfield 85, 3) := by decide +kernel
theorem dX2_changeBy_53 : decode cX2_changeBy 53 = .ok (.iconst 1, 1) := by decide +kernel
theorem dX2_changeBy_54 : decode cX2_changeBy 54 = .ok (.iadd, 1) := by decide +kernel
theorem dX2_changeBy_55 : decode cX2_changeBy 55 = .ok (.putfield 85, 3) := by decide +kernel
theorem dX2_changeBy_58 : decode cX2_changeBy 58 = .ok (.aload_n 0, 1) := by decide +kernel
theorem dX2_changeBy_59 : decode cX2_changeBy 59 = .ok (.iconst 1, 1) := by decide +kernel
theorem dX2_changeBy_60 : decode cX2_changeBy 60 = .ok (.invokevirtual 94, 3) := by decide +kernel
theorem dX2_changeBy_63 : decode cX2_changeBy 63 = .ok (.aload_n 0, 1) := by decide +kernel
theorem dX2_changeBy_64 : decode cX2_changeBy 64 = .ok (.getfield 22, 3) := by decide +kernel
theorem dX2_changeBy_67 : decode cX2_changeBy 67 = .ok (.dup, 1) := by decide +kernel
theorem dX2_changeBy_68 : decode cX2_changeBy 68 = .ok (.getfield 85, 3) := by decide +kernel
theorem dX2_changeBy_71 : decode cX2_changeBy 71 = .ok (.iconst 1, 1) := by decide +kernel
theorem dX2_changeBy_72 : decode cX2_changeBy 72 = .ok (.isub, 1) := by decide +kernel
theorem dX2_changeBy_73 : decode cX2_changeBy 73 = .ok (.putfield 85, 3) := by decide +kernel
theorem dX2_changeBy_76 : decode cX2_changeBy 76 = .ok (.aload_n 0, 1) := by decide +kernel
theorem dX2_changeBy_77 : decode cX2_changeBy 77 = .ok (.getfield 22, 3) := by decide +kernel
theorem dX2_changeBy_80 : decode cX2_changeBy 80 = .ok (.bipush 20, 2) := by decide +kernel
theorem dX2_changeBy_82 : decode cX2_changeBy 82 = .ok (.iload_n 1, 1) := by decide +kernel
theorem dX2_changeBy_83 : decode cX2_changeBy 83 = .ok (.iload 5, 2) := by decide +kernel
theorem dX2_changeBy_85 : decode cX2_changeBy 85 = .ok (.invokevirtual 65, 3) := by decide +kernel
theorem dX2_changeBy_88 : decode cX2_changeBy 88 = .ok (.return_, 1) := by decide +kernel
theorem dX2_changeBy_5 : decode cX2_changeBy 5 = .ok (.aload_n 0, 1) := by decide +kernel
theorem dX2_changeBy_6 : decode cX2_changeBy 6 = .ok (.getfield 22, 3) := by decide +kernel
theorem dX2_changeBy_9 : decode cX2_changeBy 9 = .ok (.bipush 10, 2) := by decide +kernel
theorem dX2_changeBy_11 : decode cX2_changeBy 11 = .ok (.iconst 0, 1) := by decide +kernel
theorem dX2_changeBy_12 : decode cX2_changeBy 12 = .ok (.iconst 0, 1) := by decide +kernel
theorem dX2_changeBy_13 : decode cX2_changeBy 13 = .ok (.invokevirtual 65, 3) := by decide +kernel
theorem dX2_changeBy_16 : decode cX2_changeBy 16 = .ok (.goto 9, 3) := by decide +kernel
theorem dX2_choice_0 : decode cX2_choice 0 = .ok (.aload_n 0, 1) := by decide +kernel
theorem dX2_choice_1 : decode cX2_choice 1 = .ok (.getfield 22, 3) := by decide +kernel
theorem dX2_choice_4 : decode cX2_choice 4 = .ok (.invokevirtual 58, 3) := by decide +kernel
theorem dX2_choice_7 : decode cX2_choice 7 = .ok (.istore_n 1, 1) := by decide +kernel
theorem dX2_choice_8 : decode cX2_choice 8 = .ok (.aload_n 0, 1) := by decide +kernel
theorem dX2_choice_9 : decode cX2_choice 9 = .ok (.getfield 22, 3) := by decide +kernel
theorem dX2_choice_12 : decode cX2_choice 12 = .ok (.invokevirtual 58, 3) := by decide +kernel
theorem dX2_choice_15 : decode cX2_choice 15 = .ok (.istore_n 2, 1) := by decide +kernel
theorem dX2_choice_16 : decode cX2_choice 16 = .ok (.aload_n 0, 1) := by decide +kernel
theorem dX2_choice_17 : decode cX2_choice 17 = .ok (.getfield 18, 3) := by decide +kernel
theorem dX2_choice_20 : decode cX2_choice 20 = .ok (.invokevirtual 91, 3) := by decide +kernel
theorem tw_524 : (.code yX9_open cX9_open 1 none : Cond) ∈ tw_W := tw_in (t8_4 (List.mem_of_getElem? (i := 12) rfl)) rfl
theorem tw_525 : ∀ w ∈ ([.methodLink RX2 91 yX9_open, .instanceMethod yX9_open, .selects RX9 yX9_open yX9_open, .initialized RX9] : List Cond), w ∈ tw_W := al_c (tw_in (t8_4 (List.mem_of_getElem? (i := 92) rfl)) rfl) (al_c (tw_in (t8_4 (List.mem_of_getElem? (i := 10) rfl)) rfl) (al_c (tw_in (t8_4 (List.mem_of_getElem? (i := 11) rfl)) rfl) (al_c (tw_in (t8_1 (List.mem_of_getElem? (i := 10) rfl)) rfl) al_n)))
theorem dX2_choice_23 : decode cX2_choice 23 = .ok (.aload_n 0, 1) := by decide +kernel
theorem dX2_choice_24 : decode cX2_choice 24 = .ok (.getfield 22, 3) := by decide +kernel
theorem dX2_choice_27 : decode cX2_choice 27 = .ok (.bipush 16, 2) := by decide +kernel
theorem dX2_choice_29 : decode cX2_choice 29 = .ok (.iload_n 1, 1) := by decide +kernel
theorem dX2_choice_30 : decode cX2_choice 30 = .ok (.iconst 0, 1) := by decide +kernel
theorem dX2_choice_31 : decode cX2_choice 31 = .ok (.invokevirtual 65, 3) := by decide +kernel
theorem dX2_choice_34 : decode cX2_choice 34 = .ok (.aload_n 0, 1) := by decide +kernel
theorem dX2_choice_35 : decode cX2_choice 35 = .ok (.iconst 1, 1) := by decide +kernel
theorem dX2_choice_36 : decode cX2_choice 36 = .ok (.invokevirtual 94, 3) := by decide +kernel
theorem dX2_choice_39 : decode cX2_choice 39 = .ok (.aload_n 0, 1) := by decide +kernel
theorem dX2_choice_40 : decode cX2_choice 40 = .ok (.getfield 18, 3) := by decide +kernel
theorem dX2_choice_43 : decode cX2_choice 43 = .ok (.bipush 39, 2) := by decide +kernel
theorem dX2_choice_45 : decode cX2_choice 45 = .ok (.invokevirtual 98, 3) := by decide +kernel
theorem tw_526 : (.code yX9_expect cX9_expect 2 none : Cond) ∈ tw_W := tw_in (t8_3 (List.mem_of_getElem? (i := 114) rfl)) rfl
theorem tw_527 : ∀ w ∈ ([.methodLink RX2 98 yX9_expect, .instanceMethod yX9_expect, .selects RX9 yX9_expect yX9_expect, .initialized RX9] : List Cond), w ∈ tw_W := al_c (tw_in (t8_4 (List.mem_of_getElem? (i := 100) rfl)) rfl) (al_c (tw_in (t8_3 (List.mem_of_getElem? (i := 112) rfl)) rfl) (al_c (tw_in (t8_3 (List.mem_of_getElem? (i := 113) rfl)) rfl) (al_c (tw_in (t8_1 (List.mem_of_getElem? (i := 10) rfl)) rfl) al_n)))
theorem dX2_choice_48 : decode cX2_choice 48 = .ok (.aload_n 0, 1) := by decide +kernel
theorem dX2_choice_49 : decode cX2_choice 49 = .ok (.getfield 22, 3) := by decide +kernel
theorem dX2_choice_52 : decode cX2_choice 52 = .ok (.bipush 19, 2) := by decide +kernel
theorem dX2_choice_54 : decode cX2_choice 54 = .ok (.iload_n 2, 1) := by decide +kernel
theorem dX2_choice_55 : decode cX2_choice 55 = .ok (.iconst 0, 1) := by decide +kernel
theorem dX2_choice_56 : decode cX2_choice 56 = .ok (.invokevirtual 65, 3) := by decide +kernel
theorem dX2_choice_59 : decode cX2_choice 59 = .ok (.aload_n 0, 1) := by decide +kernel
theorem dX2_choice_60 : decode cX2_choice 60 = .ok (.getfield 22, 3) := by decide +kernel
theorem dX2_choice_63 : decode cX2_choice 63 = .ok (.iload_n 1, 1) := by decide +kernel
theorem dX2_choice_64 : decode cX2_choice 64 = .ok (.invokevirtual 88, 3) := by decide +kernel
theorem dX2_choice_67 : decode cX2_choice 67 = .ok (.aload_n 0, 1) := by decide +kernel
theorem dX2_choice_68 : decode cX2_choice 68 = .ok (.iconst 0, 1) := by decide +kernel
theorem dX2_choice_69 : decode cX2_choice 69 = .ok (.invokevirtual 94, 3) := by decide +kernel
theorem dX2_choice_72 : decode cX2_choice 72 = .ok (.aload_n 0, 1) := by decide +kernel
theorem dX2_choice_73 : decode cX2_choice 73 = .ok (.getfield 22, 3) := by decide +kernel
theorem dX2_choice_76 : decode cX2_choice 76 = .ok (.iload_n 2, 1) := by decide +kernel
theorem dX2_choice_77 : decode cX2_choice 77 = .ok (.invokevirtual 88, 3) := by decide +kernel
theorem dX2_choice_80 : decode cX2_choice 80 = .ok (.aload_n 0, 1) := by decide +kernel
theorem dX2_choice_81 : decode cX2_choice 81 = .ok (.getfield 18, 3) := by decide +kernel
theorem dX2_choice_84 : decode cX2_choice 84 = .ok (.invokevirtual 101, 3) := by decide +kernel
theorem tw_528 : (.code yX9_close cX9_close 1 none : Cond) ∈ tw_W := tw_in (t8_4 (List.mem_of_getElem? (i := 50) rfl)) rfl
theorem tw_529 : ∀ w ∈ ([.methodLink RX2 101 yX9_close, .instanceMethod yX9_close, .selects RX9 yX9_close yX9_close, .initialized RX9] : List Cond), w ∈ tw_W := al_c (tw_in (t8_4 (List.mem_of_getElem? (i := 93) rfl)) rfl) (al_c (tw_in (t8_4 (List.mem_of_getElem? (i := 48) rfl)) rfl) (al_c (tw_in (t8_4 (List.mem_of_getElem? (i := 49) rfl)) rfl) (al_c (tw_in (t8_1 (List.mem_of_getElem? (i := 10) rfl)) rfl) al_n)))
theorem dX2_choice_87 : decode cX2_choice 87 = .ok (.return_, 1) := by decide +kernel
theorem dX2_index_0 : decode cX2_index 0 = .ok (.aload_n 0, 1) := by decide +kernel
theorem dX2_index_1 : decode cX2_index 1 = .ok (.getfield 18, 3) := by decide +kernel
theorem dX2_index_4 : decode cX2_index 4 = .ok (.invokevirtual 91, 3) := by decide +kernel
theorem dX2_index_7 : decode cX2_index 7 = .ok (.aload_n 0, 1) := by decide +kernel
theorem dX2_index_8 : decode cX2_index 8 = .ok (.iconst 1, 1) := by decide +kernel
theorem dX2_index_9 : decode cX2_index 9 = .ok (.invokevirtual 94, 3) := by decide +kernel
theorem dX2_index_12 : decode cX2_index 12 = .ok (.aload_n 0, 1) := by decide +kernel
theorem dX2_index_13 : decode cX2_index 13 = .ok (.getfield 18, 3) := by decide +kernel
theorem dX2_index_16 : decode cX2_index 16 = .ok (.bipush 35, 2) := by decide +kernel
theorem dX2_index_18 : decode cX2_index 18 = .ok (.invokevirtual 98, 3) := by decide +kernel
theorem dX2_index_21 : decode cX2_index 21 = .ok (.aload_n 0, 1) := by decide +kernel
theorem dX2_index_22 : decode cX2_index 22 = .ok (.getfield 18, 3) := by decide +kernel
theorem dX2_index_25 : decode cX2_index 25 = .ok (.invokevirtual 101, 3) := by decide +kernel
theorem dX2_index_28 : decode cX2_index 28 = .ok (.aload_n 0, 1) := by decide +kernel
theorem dX2_index_29 : decode cX2_index 29 = .ok (.getfield 22, 3) := by decide +kernel
theorem dX2_index_32 : decode cX2_index 32 = .ok (.bipush 7, 2) := by decide +kernel
theorem dX2_index_34 : decode cX2_index 34 = .ok (.iload_n 1, 1) := by decide +kernel
theorem dX2_index_35 : decode cX2_index 35 = .ok (.iconst 0, 1) := by decide +kernel
theorem dX2_index_36 : decode cX2_index 36 = .ok (.invokevirtual 65, 3) := by decide +kernel
theorem dX2_index_39 : decode cX2_index 39 = .ok (.return_, 1) := by decide +kernel
theorem dX2_unary_0 : decode cX2_unary 0 = .ok (.aload_n 0, 1) := by decide +kernel
theorem dX2_unary_1 : decode cX2_unary 1 = .ok (.getfield 18, 3) := by decide +kernel
theorem dX2_unary_4 : decode cX2_unary 4 = .ok (.invokevirtual 91, 3) := by decide +kernel
theorem dX2_unary_7 : decode cX2_unary 7 = .ok (.aload_n 0, 1) := by decide +kernel
theorem dX2_unary_8 : decode cX2_unary 8 = .ok (.iconst 0, 1) := by decide +kernel
theorem dX2_unary_9 : decode cX2_unary 9 = .ok (.invokevirtual 30, 3) := by decide +kernel
theorem tw_530 : (.code yX2_operand cX2_operand 2 (some .boolean) : Cond) ∈ tw_W := tw_in (t8_4 (List.mem_of_getElem? (i := 86) rfl)) rfl
theorem tw_531 : ∀ w ∈ ([.methodLink RX2 30 yX2_operand, .instanceMethod yX2_operand, .selects RX2 yX2_operand yX2_operand, .initialized RX2] : List Cond), w ∈ tw_W := al_c (tw_in (t8_4 (List.mem_of_getElem? (i := 83) rfl)) rfl) (al_c (tw_in (t8_4 (List.mem_of_getElem? (i := 85) rfl)) rfl) (al_c (tw_in (t7_2 (q := (yX2_operand, 5)) (List.mem_of_getElem? (i := 6) rfl)) rfl) (al_c (tw_in (t8_1 (List.mem_of_getElem? (i := 12) rfl)) rfl) al_n)))
theorem dX2_unary_12 : decode cX2_unary 12 = .ok (.pop, 1) := by decide +kernel
theorem dX2_unary_13 : decode cX2_unary 13 = .ok (.aload_n 0, 1) := by decide +kernel
theorem dX2_unary_14 : decode cX2_unary 14 = .ok (.getfield 18, 3) := by decide +kernel
theorem dX2_unary_17 : decode cX2_unary 17 = .ok (.invokevirtual 101, 3) := by decide +kernel
theorem dX2_unary_20 : decode cX2_unary 20 = .ok (.aload_n 0, 1) := by decide +kernel
theorem dX2_unary_21 : decode cX2_unary 21 = .ok (.getfield 22, 3) := by decide +kernel
theorem dX2_unary_24 : decode cX2_unary 24 = .ok (.iload_n 1, 1) := by decide +kernel
theorem dX2_unary_25 : decode cX2_unary 25 = .ok (.iconst 0, 1) := by decide +kernel
theorem dX2_unary_26 : decode cX2_unary 26 = .ok (.iconst 0, 1) := by decide +kernel
theorem dX2_unary_27 : decode cX2_unary 27 = .ok (.invokevirtual 65, 3) := by decide +kernel
theorem dX2_unary_30 : decode cX2_unary 30 = .ok (.return_, 1) := by decide +kernel
def Cq_expression (l : Launch) (n : Nat) : Prop := ∀ (dC : Nat → ClassId) (dI : Nat → Nat → Nat) (cI cB cZ cJ cR : ClassId) (tb : Nat → Nat) (sz : Nat) (ad : Nat → Nat) (pr : Int32 → Nat) (N : Nat) (L1 L2 : List Nat) (v : MS) (pa : Int32) (ps : Int32) (z304 : 0 ≤ (v.1 0 304).toInt ∧ (v.1 0 304).toInt ≤ 1503) (z306 : 0 ≤ (v.1 0 306).toInt ∧ (v.1 0 306).toInt ≤ 40) (z312 : 0 ≤ (v.1 0 312).toInt ∧ (v.1 0 312).toInt ≤ 500) (z321 : 0 ≤ (v.1 0 321).toInt ∧ (v.1 0 321).toInt ≤ 501) (z326 : 0 ≤ (v.1 0 326).toInt ∧ (v.1 0 326).toInt ≤ 420) (z373 : 0 ≤ (v.1 0 373).toInt ∧ (v.1 0 373).toInt ≤ 4000) (z381 : 0 ≤ (v.1 0 381).toInt ∧ (v.1 0 381).toInt ≤ 3008) (hL1 : L1.length = 40) (hL2 : L2.length = 60) (rp : RP v) (hps : pr ps = ad 908) (es300 : (v.1 0 300) = ps) (es310 : (v.1 0 310) = ps) (hst : l.stackTraces = false) (zn : 40 ≤ (v.1 0 306).toInt + (n : Int)), vx_Met l yX2_expression (Cond.code yX2_expression cX2_expression 5 none :: tw_W) ({ frames := 8 * n + 20, cells := 1, slots := 6, locals := 28 * (8 * n + 20) }) (pc_ (dC, dI) (tyS cI cB cZ cJ cR) tb (cW ad pr N cI cR L1 L2 v) sz [.ref (ad 902), .int pa]) (qvz_ (dC, dI) (cW ad pr N cI cR L1 L2 v) sz (fun (u : MS) => FC [305, 306, 307, 314, 315, 317, 321, 326, 381] [0, 316, 318, 319, 320, 324, 325, 378, 379, 380] v u ∧ (0 ≤ (u.1 0 306).toInt ∧ (u.1 0 306).toInt ≤ 40) ∧ (0 ≤ (u.1 0 321).toInt ∧ (u.1 0 321).toInt ≤ 501) ∧ (0 ≤ (u.1 0 326).toInt ∧ (u.1 0 326).toInt ≤ 420) ∧ (0 ≤ (u.1 0 381).toInt ∧ (u.1 0 381).toInt ≤ 3008) ∧ ((u.1 0 306).toInt = (v.1 0 306).toInt)) (fun (u : MS) => (cW ad pr N cI cR L1 L2 u))) (qxc (dC, dI) (cW ad pr N cI cR L1 L2 v) sz (fun (u : MS) => (cW ad pr N cI cR L1 L2 u)) (fun (u : MS) => FC xfl xal v u ∧ (u.1 0 308).toInt ≠ 0)) 1 6 (va_A (cW ad pr N cI cR L1 L2 v) sz)
def Cq_operand (l : Launch) (n : Nat) : Prop := ∀ (dC : Nat → ClassId) (dI : Nat → Nat → Nat) (cI cB cZ cJ cR : ClassId) (tb : Nat → Nat) (sz : Nat) (ad : Nat → Nat) (pr : Int32 → Nat) (N : Nat) (L1 L2 : List Nat) (v : MS) (pa : Int32) (ps : Int32) (z304 : 0 ≤ (v.1 0 304).toInt ∧ (v.1 0 304).toInt ≤ 1503) (z306 : 0 ≤ (v.1 0 306).toInt ∧ (v.1 0 306).toInt ≤ 40) (z312 : 0 ≤ (v.1 0 312).toInt ∧ (v.1 0 312).toInt ≤ 500) (z321 : 0 ≤ (v.1 0 321).toInt ∧ (v.1 0 321).toInt ≤ 501) (z326 : 0 ≤ (v.1 0 326).toInt ∧ (v.1 0 326).toInt ≤ 420) (z373 : 0 ≤ (v.1 0 373).toInt ∧ (v.1 0 373).toInt ≤ 4000) (z381 : 0 ≤ (v.1 0 381).toInt ∧ (v.1 0 381).toInt ≤ 3008) (hL1 : L1.length = 40) (hL2 : L2.length = 60) (rp : RP v) (hps : pr ps = ad 908) (es300 : (v.1 0 300) = ps) (es310 : (v.1 0 310) = ps) (hst : l.stackTraces = false) (zn : 40 ≤ (v.1 0 306).toInt + (n : Int)), vx_Met l yX2_operand (Cond.code yX2_operand cX2_operand 2 (some .boolean) :: tw_W) ({ frames := 8 * n + 16, cells := 1, slots := 6, locals := 28 * (8 * n + 16) }) (pc_ (dC, dI) (tyS cI cB cZ cJ cR) tb (cW ad pr N cI cR L1 L2 v) sz [.ref (ad 902), .int pa]) (qiz_ (dC, dI) (cW ad pr N cI cR L1 L2 v) sz (fun (r : Int32) (u : MS) => FC [305, 306, 307, 314, 315, 317, 321, 326, 381] [0, 316, 318, 319, 320, 324, 325, 378, 379, 380] v u ∧ (0 ≤ (u.1 0 306).toInt ∧ (u.1 0 306).toInt ≤ 40) ∧ (0 ≤ (u.1 0 321).toInt ∧ (u.1 0 321).toInt ≤ 501) ∧ (0 ≤ (u.1 0 326).toInt ∧ (u.1 0 326).toInt ≤ 420) ∧ (0 ≤ (u.1 0 381).toInt ∧ (u.1 0 381).toInt ≤ 3008) ∧ ((u.1 0 306).toInt = (v.1 0 306).toInt) ∧ (r = 0 ∨ r = 1)) (fun (u : MS) => (cW ad pr N cI cR L1 L2 u))) (qxc (dC, dI) (cW ad pr N cI cR L1 L2 v) sz (fun (u : MS) => (cW ad pr N cI cR L1 L2 u)) (fun (u : MS) => FC xfl xal v u ∧ (u.1 0 308).toInt ≠ 0)) 1 6 (va_A (cW ad pr N cI cR L1 L2 v) sz)
theorem om_0c36fa896d {n0 : Nat} : 1 + 1 ≤ 8 * n0 + 21 := by omega
theorem om_ec0cce5493 {n0 : Nat} : 8 + (3 + 11) + 15 ≤ 28 * (8 * n0 + 21) := by omega
theorem om_a43f662a07 {n0 : Nat} : 0 + 1 ≤ 8 * n0 + 21 := by omega
theorem om_9f2e4fbaf3 {n0 : Nat} : 8 + (1 + 11) + 0 ≤ 28 * (8 * n0 + 21) := by omega
theorem om_b45810c062 {n0 : Nat} : 8 + (2 + 11) + 0 ≤ 28 * (8 * n0 + 21) := by omega
theorem om_57e3d9ffbd {x0 x1 x2 x3 : Int} (h0 : 0 ≤ x0 ∧ x0 ≤ 1503) (h1 : x1 = x0) (h2 : x2 = x1) (h3 : x3 = x2) : 0 ≤ x3 ∧ x3 ≤ 1503 := by omega
theorem om_ca65317fd6 {x0 x1 x2 x3 : Int} (h0 : 0 ≤ x0 ∧ x0 ≤ 501) (h1 : x1 = x0) (h2 : x2 = x1) (h3 : x3 = x2) : 0 ≤ x3 ∧ x3 ≤ 501 := by omega
theorem om_ba86cd30dc {x0 x1 x2 x3 : Int} (h0 : 0 ≤ x0 ∧ x0 ≤ 420) (h1 : x1 = x0) (h2 : x2 = x1) (h3 : x3 = x2) : 0 ≤ x3 ∧ x3 ≤ 420 := by omega
theorem om_f27686c115 {x0 x1 x2 x3 : Int} (h0 : 0 ≤ x0 ∧ x0 ≤ 3008) (h1 : x1 = x0) (h2 : x2 = x1) (h3 : x3 = x2) : 0 ≤ x3 ∧ x3 ≤ 3008 := by omega
theorem om_00c4deb960 {x0 x2 x3 x4 : Int} {n1 : Nat} (h0 : 40 ≤ x0 + (n1 : Int)) (h1 : x2 = x0) (h2 : x3 = x2) (h3 : x4 = x3) : 40 ≤ x4 + (n1 : Int) := by omega
theorem om_12a3a4432e {n0 : Nat} : (8 * n0 + 20) + 1 ≤ 8 * n0 + 21 := by omega
theorem om_daa41a5b32 {n0 : Nat} : 8 + (5 + 11) + 28 * (8 * n0 + 20) ≤ 28 * (8 * n0 + 21) := by omega
theorem om_78af4e5b79 {n0 : Nat} : 8 + (5 + 11) + 0 ≤ 28 * (8 * n0 + 21) := by omega
theorem om_8ed0dedb19 {x0 x1 : Int} (h0 : 0 ≤ x0 ∧ x0 ≤ 420) (h1 : x1 = x0) : 0 ≤ x1 ∧ x1 ≤ 420 := by omega
theorem om_dd87ee851a {x0 x1 x2 : Int} (h0 : 0 ≤ x0 ∧ x0 ≤ 1503) (h1 : x1 = x0) (h2 : x2 = x1) : 0 ≤ x2 ∧ x2 ≤ 1503 := by omega
theorem om_4dfa815534 {x0 x1 x2 : Int} (h0 : 0 ≤ x0 ∧ x0 ≤ 501) (h1 : x1 = x0) (h2 : x2 = x1) : 0 ≤ x2 ∧ x2 ≤ 501 := by omega
theorem om_03cd8767ac {x0 x1 x2 : Int} (h0 : 0 ≤ x0 ∧ x0 ≤ 4000) (h1 : x1 = x0) (h2 : x2 = x1) : 0 ≤ x2 ∧ x2 ≤ 4000 := by omega
theorem om_769192f2a4 {x0 x1 x2 : Int} (h0 : 0 ≤ x0 ∧ x0 ≤ 3008) (h1 : x1 = x0) (h2 : x2 = x1) : 0 ≤ x2 ∧ x2 ≤ 3008 := by omega
theorem om_ec198adb23 {x0 x2 x3 : Int} {n1 : Nat} (h0 : 40 ≤ x0 + (n1 : Int)) (h1 : x2 = x0) (h2 : x3 = x2) : 40 ≤ x3 + (n1 : Int) := by omega
set_option maxHeartbeats 16000000 in
set_option maxRecDepth 100000 in
theorem c_x_X2_argument (l : Launch) (n : Nat) (E : Cq_expression l n) (dC : Nat → ClassId) (dI : Nat → Nat → Nat) (cI cB cZ cJ cR : ClassId) (tb : Nat → Nat) (sz : Nat) (ad : Nat → Nat) (pr : Int32 → Nat) (N : Nat) (L1 L2 : List Nat) (v : MS) (pa : Int32) (pb : Int32) (ps : Int32) (z304 : 0 ≤ (v.1 0 304).toInt ∧ (v.1 0 304).toInt ≤ 1503) (z306 : 0 ≤ (v.1 0 306).toInt ∧ (v.1 0 306).toInt ≤ 40) (z312 : 0 ≤ (v.1 0 312).toInt ∧ (v.1 0 312).toInt ≤ 500) (z321 : 0 ≤ (v.1 0 321).toInt ∧ (v.1 0 321).toInt ≤ 501) (z326 : 0 ≤ (v.1 0 326).toInt ∧ (v.1 0 326).toInt ≤ 420) (z373 : 0 ≤ (v.1 0 373).toInt ∧ (v.1 0 373).toInt ≤ 4000) (z381 : 0 ≤ (v.1 0 381).toInt ∧ (v.1 0 381).toInt ≤ 3008) (hL1 : L1.length = 40) (hL2 : L2.length = 60) (rp : RP v) (hps : pr ps = ad 908) (es300 : (v.1 0 300) = ps) (es310 : (v.1 0 310) = ps) (hst : l.stackTraces = false) (zn : 40 ≤ (v.1 0 306).toInt + (n : Int)) : vx_Met l yX2_argument (Cond.code yX2_argument cX2_argument 3 none :: tw_W) ({ frames := 8 * n + 21, cells := 1, slots := 6, locals := 28 * (8 * n + 21) }) (pc_ (dC, dI) (tyS cI cB cZ cJ cR) tb (cW ad pr N cI cR L1 L2 v) sz [.ref (ad 902), .int pa, .int pb]) (qvz_ (dC, dI) (cW ad pr N cI cR L1 L2 v) sz (fun (u : MS) => FC [305, 306, 307, 314, 315, 317, 321, 326, 381] [0, 316, 318, 319, 320, 324, 325, 378, 379, 380] v u ∧ (0 ≤ (u.1 0 306).toInt ∧ (u.1 0 306).toInt ≤ 40) ∧ (0 ≤ (u.1 0 321).toInt ∧ (u.1 0 321).toInt ≤ 501) ∧ (0 ≤ (u.1 0 326).toInt ∧ (u.1 0 326).toInt ≤ 420) ∧ (0 ≤ (u.1 0 381).toInt ∧ (u.1 0 381).toInt ≤ 3008) ∧ ((u.1 0 306).toInt = (v.1 0 306).toInt)) (fun (u : MS) => (cW ad pr N cI cR L1 L2 u))) (qxc (dC, dI) (cW ad pr N cI cR L1 L2 v) sz (fun (u : MS) => (cW ad pr N cI cR L1 L2 u)) (fun (u : MS) => FC xfl xal v u ∧ (u.1 0 308).toInt ≠ 0)) 1 6 (va_A (cW ad pr N cI cR L1 L2 v) sz) := by
  refine vx_ofW (cc := cX2_argument) (maxL := 3) (ret := none) (by decide) rfl ?_
  intro p e s m args below meth c s₁ B hml hnt hv
  obtain ⟨rfl, hsz, hP, hKK, hD0, hFx⟩ := hv
  have hK := hKK.1
  have hx := B.exec
  have hb := B.bytes
  have hr := B.returns
  have ht : ∀ w ∈ tw_W, w.before _ s = true := fun w h => atoms_spec (ws := Cond.code yX2_argument cX2_argument 3 none :: tw_W) B.pre w (List.mem_cons_of_mem _ h)
  have hown : s.vm.findClass RX2 = some m.cls := findClass_of_methodNamed B.named
  have hlocks := B.notSynchronized
  subst hsz
  unfold qvz_ qxc
  have hD := hD0.self (sz := s.heap.size)
  generalize hAe : va_A (cW ad pr N cI cR L1 L2 v) s.heap.size = A at hD hFx ⊢
  have hA : ∀ q : Nat, s.heap.size ≤ q → A q := fun q h => by rw [← hAe]; exact Or.inr h
  have hS : va_S A s.heap s.heap [] := va_S.rf
  have hl := lv_entry ([.ref (ad 902), .int pa, .int pb]) (n := 3) (Nat.le_of_ble_eq_true rfl)
  rw [lg_entry_eq]
  generalize (lg_sl ([.ref (ad 902), .int pa, .int pb]) ++ List.replicate (3 - (lg_sl ([.ref (ad 902), .int pa, .int pb])).length) Slot.unset).toArray = ls at hl ⊢
  have hl : lv_has ls 3 [(0, .ref (ad 902)), (1, .int pa), (2, .int pb)] := hl
  refine lv_aload_n hx hb dX2_argument_0 rfl (lv_at hl 0 rfl) ?_
  refine va_get (D := (dC, dI)) (ci := 6) (fs := oF_X2 ad pr v) (v := .ref (ad 901)) (C := RX2) (T := TX2) (N := 5) hx hb ht itX2 hown hK hP 2 rfl rfl 1 (by decide) (ht _ tw_498) (fun _ h9 => h9) rfl dX2_argument_1 ?_
  refine lv_iconst (v := 1) hx hb dX2_argument_4 (by decide) ?_
  refine cu_i (rn_Vk (n := 1) (As := [.int 1]) (rest := []) hx hb hml hown ht hKK hFx hP hD hS hA (c_x_X1_wantSlots l dC dI cI cB cZ cJ cR tb s.heap.size ad pr N L1 L2 v (1 : Int32) (show 0 ≤ (v.1 0 312).toInt ∧ (v.1 0 312).toInt ≤ 500 from (om_9861e69da5 z312))) tw_507 tw_508 (by decide +kernel) rfl rfl ⟨show 1 + 1 ≤ 8 * n + 21 from om_0c36fa896d, show 8 + (3 + 11) + 15 ≤ 28 * (8 * n + 21) from om_ec0cce5493⟩ (List.range (cW ad pr N cI cR L1 L2 v).length) (rg_map _) (nd_range _) 1 rfl rfl rfl rfl hl.1 rfl (Nat.le_of_ble_eq_true rfl) dX2_argument_5 ⟨Nat.le_of_ble_eq_true rfl, Nat.le_of_ble_eq_true rfl⟩) hP hD hS hA (fun r3 u2 H locs hw1 hP hD hS => ?_)
  obtain ⟨fr1, bz1⟩ := hw1
  refine W.widen (k := 0) (n := 0) (Nat.le_refl _) (Nat.le_refl _) ?_
  refine lv_if_eq (tgt := 17) hx hb dX2_argument_8 (by decide) (fun h4 => ?_) (fun h4 => ?_)
  · have z5 : r3.toInt = (0 : Int) := eq_z rfl (show (0 : Int32).toInt = (0 : Int) by decide) h4
    refine lv_aload_n hx hb dX2_argument_17 rfl (lv_at hl 0 rfl) ?_
    refine va_get (D := (dC, dI)) (ci := 6) (fs := oF_X2 ad pr u2) (v := .ref (ad 900)) (C := RX2) (T := TX2) (N := 5) hx hb ht itX2 hown hK hP 2 rfl rfl 0 (by decide) (ht _ tw_509) (fun _ h9 => h9) rfl dX2_argument_18 ?_
    refine cu_v (rn_Vk (n := 0) (As := []) (rest := []) hx hb hml hown ht hKK hFx hP hD hS hA (c_x_X9_makeDue l dC dI cI cB cZ cJ cR tb H.size ad pr N L1 L2 u2  ) tw_516 tw_517 (by decide +kernel) rfl rfl ⟨show 0 + 1 ≤ 8 * n + 21 from om_a43f662a07, show 8 + (1 + 11) + 0 ≤ 28 * (8 * n + 21) from om_9f2e4fbaf3⟩ (List.range (cW ad pr N cI cR L1 L2 u2).length) (rg_map _) (nd_range _) 0 rfl rfl rfl rfl hl.1 rfl (Nat.le_of_ble_eq_true rfl) dX2_argument_21 ⟨Nat.le_of_ble_eq_true rfl, Nat.le_of_ble_eq_true rfl⟩) hP hD hS hA (fun u7 H locs hw6 hP hD hS => ?_)
    have fr6 := hw6
    refine W.widen (k := 0) (n := 0) (Nat.le_refl _) (Nat.le_refl _) ?_
    refine lv_aload_n hx hb dX2_argument_24 rfl (lv_at hl 0 rfl) ?_
    refine va_get (D := (dC, dI)) (ci := 6) (fs := oF_X2 ad pr u7) (v := .ref (ad 901)) (C := RX2) (T := TX2) (N := 5) hx hb ht itX2 hown hK hP 2 rfl rfl 1 (by decide) (ht _ tw_498) (fun _ h9 => h9) rfl dX2_argument_25 ?_
    refine lv_iload_n hx hb dX2_argument_28 rfl (lv_at hl 1 rfl) ?_
    refine cu_v (rn_Vk (n := 1) (As := [.int pa]) (rest := []) hx hb hml hown ht hKK hFx hP hD hS hA (c_x_X1_addArgument l dC dI cI cB cZ cJ cR tb H.size ad pr N L1 L2 u7 pa ) tw_518 tw_519 (by decide +kernel) rfl rfl ⟨show 0 + 1 ≤ 8 * n + 21 from om_a43f662a07, show 8 + (2 + 11) + 0 ≤ 28 * (8 * n + 21) from om_b45810c062⟩ (List.range (cW ad pr N cI cR L1 L2 u7).length) (rg_map _) (nd_range _) 1 rfl rfl rfl rfl hl.1 rfl (Nat.le_of_ble_eq_true rfl) dX2_argument_29 ⟨Nat.le_of_ble_eq_true rfl, Nat.le_of_ble_eq_true rfl⟩) hP hD hS hA (fun u10 H locs hw9 hP hD hS => ?_)
    have fr9 := hw9
    refine W.widen (k := 0) (n := 0) (Nat.le_refl _) (Nat.le_refl _) ?_
    refine lv_aload_n hx hb dX2_argument_32 rfl (lv_at hl 0 rfl) ?_
    refine lv_iconst (v := 1) hx hb dX2_argument_33 (by decide) ?_
    have q12 : (u2.1 0 304).toInt = (v.1 0 304).toInt := congrArg Int32.toInt ((fr1.2.1 304 (by decide)).trans (show v.1 0 304 = (v.1 0 304) by rfl))
    have q13 : (u7.1 0 304).toInt = (u2.1 0 304).toInt := congrArg Int32.toInt ((fr6.2.1 304 (by decide)).trans (show u2.1 0 304 = (u2.1 0 304) by rfl))
    have q14 : (u10.1 0 304).toInt = (u7.1 0 304).toInt := congrArg Int32.toInt ((fr9.2.1 304 (by decide)).trans (show u7.1 0 304 = (u7.1 0 304) by rfl))
    have q15 : (u2.1 0 306).toInt = (v.1 0 306).toInt := congrArg Int32.toInt ((fr1.2.1 306 (by decide)).trans (show v.1 0 306 = (v.1 0 306) by rfl))
    have q16 : (u7.1 0 306).toInt = (u2.1 0 306).toInt := congrArg Int32.toInt ((fr6.2.1 306 (by decide)).trans (show u2.1 0 306 = (u2.1 0 306) by rfl))
    have q17 : (u10.1 0 306).toInt = (u7.1 0 306).toInt := congrArg Int32.toInt ((fr9.2.1 306 (by decide)).trans (show u7.1 0 306 = (u7.1 0 306) by rfl))
    have q18 : (u2.1 0 312).toInt = (v.1 0 312).toInt := congrArg Int32.toInt ((fr1.2.1 312 (by decide)).trans (show v.1 0 312 = (v.1 0 312) by rfl))
    have q19 : (u7.1 0 312).toInt = (u2.1 0 312).toInt := congrArg Int32.toInt ((fr6.2.1 312 (by decide)).trans (show u2.1 0 312 = (u2.1 0 312) by rfl))
    have q20 : (u10.1 0 312).toInt = (u7.1 0 312).toInt := congrArg Int32.toInt ((fr9.2.1 312 (by decide)).trans (show u7.1 0 312 = (u7.1 0 312) by rfl))
    have q21 : (u2.1 0 321).toInt = (v.1 0 321).toInt := congrArg Int32.toInt ((fr1.2.1 321 (by decide)).trans (show v.1 0 321 = (v.1 0 321) by rfl))
    have q22 : (u7.1 0 321).toInt = (u2.1 0 321).toInt := congrArg Int32.toInt ((fr6.2.1 321 (by decide)).trans (show u2.1 0 321 = (u2.1 0 321) by rfl))
    have q23 : (u10.1 0 321).toInt = (u7.1 0 321).toInt := congrArg Int32.toInt ((fr9.2.1 321 (by decide)).trans (show u7.1 0 321 = (u7.1 0 321) by rfl))
    have q24 : (u2.1 0 326).toInt = (v.1 0 326).toInt := congrArg Int32.toInt ((fr1.2.1 326 (by decide)).trans (show v.1 0 326 = (v.1 0 326) by rfl))
    have q25 : (u7.1 0 326).toInt = (u2.1 0 326).toInt := congrArg Int32.toInt ((fr6.2.1 326 (by decide)).trans (show u2.1 0 326 = (u2.1 0 326) by rfl))
    have q26 : (u10.1 0 326).toInt = (u7.1 0 326).toInt := congrArg Int32.toInt ((fr9.2.1 326 (by decide)).trans (show u7.1 0 326 = (u7.1 0 326) by rfl))
    have q27 : (u2.1 0 373).toInt = (v.1 0 373).toInt := congrArg Int32.toInt ((fr1.2.1 373 (by decide)).trans (show v.1 0 373 = (v.1 0 373) by rfl))
    have q28 : (u7.1 0 373).toInt = (u2.1 0 373).toInt := congrArg Int32.toInt ((fr6.2.1 373 (by decide)).trans (show u2.1 0 373 = (u2.1 0 373) by rfl))
    have q29 : (u10.1 0 373).toInt = (u7.1 0 373).toInt := congrArg Int32.toInt ((fr9.2.1 373 (by decide)).trans (show u7.1 0 373 = (u7.1 0 373) by rfl))
    have q30 : (u2.1 0 381).toInt = (v.1 0 381).toInt := congrArg Int32.toInt ((fr1.2.1 381 (by decide)).trans (show v.1 0 381 = (v.1 0 381) by rfl))
    have q31 : (u7.1 0 381).toInt = (u2.1 0 381).toInt := congrArg Int32.toInt ((fr6.2.1 381 (by decide)).trans (show u2.1 0 381 = (u2.1 0 381) by rfl))
    have q32 : (u10.1 0 381).toInt = (u7.1 0 381).toInt := congrArg Int32.toInt ((fr9.2.1 381 (by decide)).trans (show u7.1 0 381 = (u7.1 0 381) by rfl))
    refine W.sz (fun hz9 => ?_)
    refine czx_v (rx_Vk (n := 1) (As := [.int 1]) (rest := []) hx hb hml hown ht hKK hFx hP hD hS hA (E dC dI cI cB cZ cJ cR tb H.size ad pr N L1 L2 u10 (1 : Int32) ps (show 0 ≤ (u10.1 0 304).toInt ∧ (u10.1 0 304).toInt ≤ 1503 from (om_57e3d9ffbd z304 q12 q13 q14)) (show 0 ≤ (u10.1 0 306).toInt ∧ (u10.1 0 306).toInt ≤ 40 from (om_91b0537b40 z306 q15 q16 q17)) (show 0 ≤ (u10.1 0 312).toInt ∧ (u10.1 0 312).toInt ≤ 500 from (om_a369f3fea6 z312 q18 q19 q20)) (show 0 ≤ (u10.1 0 321).toInt ∧ (u10.1 0 321).toInt ≤ 501 from (om_ca65317fd6 z321 q21 q22 q23)) (show 0 ≤ (u10.1 0 326).toInt ∧ (u10.1 0 326).toInt ≤ 420 from (om_ba86cd30dc z326 q24 q25 q26)) (show 0 ≤ (u10.1 0 373).toInt ∧ (u10.1 0 373).toInt ≤ 4000 from (om_282c7f458f z373 q27 q28 q29)) (show 0 ≤ (u10.1 0 381).toInt ∧ (u10.1 0 381).toInt ≤ 3008 from (om_f27686c115 z381 q30 q31 q32)) (show L1.length = 40 from hL1) (show L2.length = 60 from hL2) (show RP u10 from ((show FC [305, 306, 307, 314, 315, 317, 321, 326, 381] [0, 316, 318, 319, 320, 324, 325, 378, 379, 380] v u10 from (FC.tr (FC.tr (FC.tr (FC.rf _) (FC.up fr1 (by decide) (by decide))) (FC.up fr6 (by decide) (by decide))) (FC.up fr9 (by decide) (by decide)))).1 rp)) (show pr ps = ad 908 from hps) (show (u10.1 0 300) = ps from (Eq.trans (fr9.2.1 300 (by decide)) (Eq.trans (fr6.2.1 300 (by decide)) (Eq.trans (fr1.2.1 300 (by decide)) es300)))) (show (u10.1 0 310) = ps from (Eq.trans (fr9.2.1 310 (by decide)) (Eq.trans (fr6.2.1 310 (by decide)) (Eq.trans (fr1.2.1 310 (by decide)) es310)))) (show l.stackTraces = false from hst) (show 40 ≤ (u10.1 0 306).toInt + (n : Int) from (om_00c4deb960 zn q15 q16 q17))) tw_520 tw_521 (by decide +kernel) rfl rfl ⟨show (8 * n + 20) + 1 ≤ 8 * n + 21 from om_12a3a4432e, show 8 + (5 + 11) + 28 * (8 * n + 20) ≤ 28 * (8 * n + 21) from om_daa41a5b32⟩ (List.range (cW ad pr N cI cR L1 L2 u10).length) (rg_map _) (nd_range _) 2 rfl rfl rfl rfl hl.1 rfl (Nat.le_of_ble_eq_true rfl) dX2_argument_34 ⟨Nat.le_of_ble_eq_true rfl, Nat.le_of_ble_eq_true rfl⟩) hP hD hS hA (fun u9 ce9 q9 H locs hx9 hP hD hS hc9 hv9 hf9 => ?_) (fun u34 H locs hw33 hP hD hS hz8 => ?_)
    · exact vx_out (fun x h9 => (hnt x h9).elim) hlocks hc9 hv9 hf9 (fun t9 ht9 hv8 => ⟨u9, ⟨FC.tr (FC.tr (FC.tr (FC.tr (FC.rf _) (FC.up fr1 (by decide) (by decide))) (FC.up fr6 (by decide) (by decide))) (FC.up fr9 (by decide) (by decide))) hx9.1, hx9.2⟩, ⟨rfl, by rw [ht9]; exact hP, hD⟩, hS.F ht9⟩) hS.2.2 (Nat.le_refl _) (Nat.le_refl _)
    refine W.shrink (hz8.trans hz9) ?_
    obtain ⟨fr33, i30633, i32133, i32633, i38133, po33⟩ := hw33
    have i30633 : 0 ≤ (u34.1 0 306).toInt ∧ (u34.1 0 306).toInt ≤ 40 := i30633
    have i32133 : 0 ≤ (u34.1 0 321).toInt ∧ (u34.1 0 321).toInt ≤ 501 := i32133
    have i32633 : 0 ≤ (u34.1 0 326).toInt ∧ (u34.1 0 326).toInt ≤ 420 := i32633
    have i38133 : 0 ≤ (u34.1 0 381).toInt ∧ (u34.1 0 381).toInt ≤ 3008 := i38133
    have po33 : (u34.1 0 306).toInt = (u10.1 0 306).toInt := po33
    refine lv_aload_n hx hb dX2_argument_37 rfl (lv_at hl 0 rfl) ?_
    refine va_get (D := (dC, dI)) (ci := 6) (fs := oF_X2 ad pr u34) (v := .ref (ad 901)) (C := RX2) (T := TX2) (N := 5) hx hb ht itX2 hown hK hP 2 rfl rfl 1 (by decide) (ht _ tw_498) (fun _ h9 => h9) rfl dX2_argument_38 ?_
    refine lv_iconst (v := 4) hx hb dX2_argument_41 (by decide) ?_
    refine lv_aload_n hx hb dX2_argument_42 rfl (lv_at hl 0 rfl) ?_
    refine va_get (D := (dC, dI)) (ci := 6) (fs := oF_X2 ad pr u34) (v := .ref (ad 901)) (C := RX2) (T := TX2) (N := 5) hx hb ht itX2 hown hK hP 2 rfl rfl 1 (by decide) (ht _ tw_498) (fun _ h9 => h9) rfl dX2_argument_43 ?_
    have q36 : (u34.1 0 312).toInt = (u10.1 0 312).toInt := congrArg Int32.toInt ((fr33.2.1 312 (by decide)).trans (show u10.1 0 312 = (u10.1 0 312) by rfl))
    refine cu_i (rn_Vk (n := 0) (As := []) (rest := [.int 4, .ref (ad 901)]) hx hb hml hown ht hKK hFx hP hD hS hA (c_x_X1_nextSlot l dC dI cI cB cZ cJ cR tb H.size ad pr N L1 L2 u34  (show 0 ≤ (u34.1 0 312).toInt ∧ (u34.1 0 312).toInt ≤ 500 from (om_31e0c91fb9 z312 q18 q19 q20 q36))) tw_505 tw_506 (by decide +kernel) rfl rfl ⟨show 0 + 1 ≤ 8 * n + 21 from om_a43f662a07, show 8 + (1 + 11) + 0 ≤ 28 * (8 * n + 21) from om_9f2e4fbaf3⟩ (List.range (cW ad pr N cI cR L1 L2 u34).length) (rg_map _) (nd_range _) 1 rfl rfl rfl rfl hl.1 rfl (Nat.le_of_ble_eq_true rfl) dX2_argument_46 ⟨Nat.le_of_ble_eq_true rfl, Nat.le_of_ble_eq_true rfl⟩) hP hD hS hA (fun r39 u38 H locs hw37 hP hD hS => ?_)
    obtain rfl := hw37
    refine W.widen (k := 0) (n := 0) (Nat.le_refl _) (Nat.le_refl _) ?_
    refine lv_iconst (v := 0) hx hb dX2_argument_49 (by decide) ?_
    refine cu_v (rn_Vk (n := 3) (As := [.int 4, .int r39, .int 0]) (rest := []) hx hb hml hown ht hKK hFx hP hD hS hA (c_x_X1_add l dC dI cI cB cZ cJ cR tb H.size ad pr N L1 L2 u34 (4 : Int32) r39 (0 : Int32) ps (show 0 ≤ (u34.1 0 381).toInt ∧ (u34.1 0 381).toInt ≤ 3008 from (om_e78eec72e1 i38133)) (show pr ps = ad 908 from hps) (show (u34.1 0 310) = ps from (Eq.trans (fr33.2.1 310 (by decide)) (Eq.trans (fr9.2.1 310 (by decide)) (Eq.trans (fr6.2.1 310 (by decide)) (Eq.trans (fr1.2.1 310 (by decide)) es310)))))) tw_499 tw_500 (by decide +kernel) rfl rfl ⟨show 0 + 1 ≤ 8 * n + 21 from om_a43f662a07, show 8 + (5 + 11) + 0 ≤ 28 * (8 * n + 21) from om_78af4e5b79⟩ (List.range (cW ad pr N cI cR L1 L2 u34).length) (rg_map _) (nd_range _) 1 rfl rfl rfl rfl hl.1 rfl (Nat.le_of_ble_eq_true rfl) dX2_argument_50 ⟨Nat.le_of_ble_eq_true rfl, Nat.le_of_ble_eq_true rfl⟩) hP hD hS hA (fun u41 H locs hw40 hP hD hS => ?_)
    obtain ⟨fr40, i38140⟩ := hw40
    have i38140 : 0 ≤ (u41.1 0 381).toInt ∧ (u41.1 0 381).toInt ≤ 3008 := i38140
    refine W.widen (k := 0) (n := 0) (Nat.le_refl _) (Nat.le_refl _) ?_
    refine lv_aload_n hx hb dX2_argument_53 rfl (lv_at hl 0 rfl) ?_
    refine va_get (D := (dC, dI)) (ci := 6) (fs := oF_X2 ad pr u41) (v := .ref (ad 901)) (C := RX2) (T := TX2) (N := 5) hx hb ht itX2 hown hK hP 2 rfl rfl 1 (by decide) (ht _ tw_498) (fun _ h9 => h9) rfl dX2_argument_54 ?_
    refine lv_dup hx hb dX2_argument_57 rfl ?_
    refine va_getN (D := (dC, dI)) (ci := 5) (fs := oF_X1 ad pr u41) (v := .int (u41.1 0 314)) (C := RX1) (T := TX1) (N := 12) hx hb ht itX1 hown hK hP 1 rfl rfl 4 (by decide) (hKK.fl2 6 rfl) (fun _ h9 => h9) rfl dX2_argument_58 ?_
    refine lv_iconst (v := 1) hx hb dX2_argument_61 (by decide) ?_
    refine lv_iadd hx hb dX2_argument_62 ?_
    refine va_putN (D := (dC, dI)) (ci := 5) (fs := oF_X1 ad pr u41) (v := .int ((u41.1 0 314) + (1 : Int32))) (ty := .int) (C := RX1) (T := TX1) (N := 12) hx hb ht itX1 tyX1 tyX1_ok nmX1 hown hK hP hD hS 1 rfl rfl 4 (by decide) (hKK.fl2 6 rfl) (fun _ h9 => h9) rfl (by decide +kernel) rfl rfl (Nat.le_of_ble_eq_true rfl) dX2_argument_63 (fun H locs hP hD hS => ?_)
    have hP := cP_ (cw_314 ad pr N cI cR L1 L2 u41 ((u41.1 0 314) + (1 : Int32))) hP
    have hD := cD_ (cw_314 ad pr N cI cR L1 L2 u41 ((u41.1 0 314) + (1 : Int32))) hD
    have q43 : (u41.1 0 306).toInt = (u34.1 0 306).toInt := congrArg Int32.toInt ((fr40.2.1 306 (by decide)).trans (show u34.1 0 306 = (u34.1 0 306) by rfl))
    have q44 : (u41.1 0 321).toInt = (u34.1 0 321).toInt := congrArg Int32.toInt ((fr40.2.1 321 (by decide)).trans (show u34.1 0 321 = (u34.1 0 321) by rfl))
    have q45 : (u41.1 0 326).toInt = (u34.1 0 326).toInt := congrArg Int32.toInt ((fr40.2.1 326 (by decide)).trans (show u34.1 0 326 = (u34.1 0 326) by rfl))
    refine W.sz (fun hz => ?_)
    refine vx_ret ?_
    refine W.widen (k := 1) (n := 6) (Nat.le_of_ble_eq_true rfl) (Nat.le_of_ble_eq_true rfl) ?_
    exact W.vret hx hb hr (fun t ht9 hW => ⟨⟨(wA u41 0 314 ((u41.1 0 314) + (1 : Int32))), rfl, ⟨(FC.f (FC.tr (FC.tr (FC.tr (FC.tr (FC.tr (FC.rf _) (FC.up fr1 (by decide) (by decide))) (FC.up fr6 (by decide) (by decide))) (FC.up fr9 (by decide) (by decide))) (FC.up fr33 (by decide) (by decide))) (FC.up fr40 (by decide) (by decide))) ((u41.1 0 314) + (1 : Int32)) (by decide)), (show 0 ≤ (u41.1 0 306).toInt ∧ (u41.1 0 306).toInt ≤ 40 from (om_99e115f631 i30633 q43)), (show 0 ≤ (u41.1 0 321).toInt ∧ (u41.1 0 321).toInt ≤ 501 from (om_ff27494c0e i32133 q44)), (show 0 ≤ (u41.1 0 326).toInt ∧ (u41.1 0 326).toInt ≤ 420 from (om_8ed0dedb19 i32633 q45)), (show 0 ≤ (u41.1 0 381).toInt ∧ (u41.1 0 381).toInt ≤ 3008 from (om_e78eec72e1 i38140)), (show (u41.1 0 306).toInt = (v.1 0 306).toInt from (om_8cd1b813ff q15 q16 q17 po33 q43))⟩, ⟨by rw [ht9]; exact hP, hD⟩, by rw [ht9]; exact hz⟩, hS.F ht9⟩) hS.2.2 dX2_argument_66
  · have z46 : r3.toInt ≠ (0 : Int) := ne_z rfl (show (0 : Int32).toInt = (0 : Int) by decide) h4
    refine lv_iload_n hx hb dX2_argument_11 rfl (lv_at hl 2 rfl) ?_
    refine lv_bipush (v := 8) hx hb dX2_argument_12 (by decide) ?_
    refine lv_icmp_lt (tgt := 24) hx hb dX2_argument_14 (by decide) (fun h47 => ?_) (fun h47 => ?_)
    · have z48 : pb.toInt < (8 : Int) := lt_z rfl (show (8 : Int32).toInt = (8 : Int) by decide) h47
      refine lv_aload_n hx hb dX2_argument_24 rfl (lv_at hl 0 rfl) ?_
      refine va_get (D := (dC, dI)) (ci := 6) (fs := oF_X2 ad pr u2) (v := .ref (ad 901)) (C := RX2) (T := TX2) (N := 5) hx hb ht itX2 hown hK hP 2 rfl rfl 1 (by decide) (ht _ tw_498) (fun _ h9 => h9) rfl dX2_argument_25 ?_
      refine lv_iload_n hx hb dX2_argument_28 rfl (lv_at hl 1 rfl) ?_
      refine cu_v (rn_Vk (n := 1) (As := [.int pa]) (rest := []) hx hb hml hown ht hKK hFx hP hD hS hA (c_x_X1_addArgument l dC dI cI cB cZ cJ cR tb H.size ad pr N L1 L2 u2 pa ) tw_518 tw_519 (by decide +kernel) rfl rfl ⟨show 0 + 1 ≤ 8 * n + 21 from om_a43f662a07, show 8 + (2 + 11) + 0 ≤ 28 * (8 * n + 21) from om_b45810c062⟩ (List.range (cW ad pr N cI cR L1 L2 u2).length) (rg_map _) (nd_range _) 1 rfl rfl rfl rfl hl.1 rfl (Nat.le_of_ble_eq_true rfl) dX2_argument_29 ⟨Nat.le_of_ble_eq_true rfl, Nat.le_of_ble_eq_true rfl⟩) hP hD hS hA (fun u50 H locs hw49 hP hD hS => ?_)
      have fr49 := hw49
      refine W.widen (k := 0) (n := 0) (Nat.le_refl _) (Nat.le_refl _) ?_
      refine lv_aload_n hx hb dX2_argument_32 rfl (lv_at hl 0 rfl) ?_
      refine lv_iconst (v := 1) hx hb dX2_argument_33 (by decide) ?_
      have q52 : (u2.1 0 304).toInt = (v.1 0 304).toInt := congrArg Int32.toInt ((fr1.2.1 304 (by decide)).trans (show v.1 0 304 = (v.1 0 304) by rfl))
      have q53 : (u50.1 0 304).toInt = (u2.1 0 304).toInt := congrArg Int32.toInt ((fr49.2.1 304 (by decide)).trans (show u2.1 0 304 = (u2.1 0 304) by rfl))
      have q54 : (u2.1 0 306).toInt = (v.1 0 306).toInt := congrArg Int32.toInt ((fr1.2.1 306 (by decide)).trans (show v.1 0 306 = (v.1 0 306) by rfl))
      have q55 : (u50.1 0 306).toInt = (u2.1 0 306).toInt := congrArg Int32.toInt ((fr49.2.1 306 (by decide)).trans (show u2.1 0 306 = (u2.1 0 306) by rfl))
      have q56 : (u2.1 0 312).toInt = (v.1 0 312).toInt := congrArg Int32.toInt ((fr1.2.1 312 (by decide)).trans (show v.1 0 312 = (v.1 0 312) by rfl))
      have q57 : (u50.1 0 312).toInt = (u2.1 0 312).toInt := congrArg Int32.toInt ((fr49.2.1 312 (by decide)).trans (show u2.1 0 312 = (u2.1 0 312) by rfl))
      have q58 : (u2.1 0 321).toInt = (v.1 0 321).toInt := congrArg Int32.toInt ((fr1.2.1 321 (by decide)).trans (show v.1 0 321 = (v.1 0 321) by rfl))
      have q59 : (u50.1 0 321).toInt = (u2.1 0 321).toInt := congrArg Int32.toInt ((fr49.2.1 321 (by decide)).trans (show u2.1 0 321 = (u2.1 0 321) by rfl))
      have q60 : (u2.1 0 326).toInt = (v.1 0 326).toInt := congrArg Int32.toInt ((fr1.2.1 326 (by decide)).trans (show v.1 0 326 = (v.1 0 326) by rfl))
      have q61 : (u50.1 0 326).toInt = (u2.1 0 326).toInt := congrArg Int32.toInt ((fr49.2.1 326 (by decide)).trans (show u2.1 0 326 = (u2.1 0 326) by rfl))
      have q62 : (u2.1 0 373).toInt = (v.1 0 373).toInt := congrArg Int32.toInt ((fr1.2.1 373 (by decide)).trans (show v.1 0 373 = (v.1 0 373) by rfl))
      have q63 : (u50.1 0 373).toInt = (u2.1 0 373).toInt := congrArg Int32.toInt ((fr49.2.1 373 (by decide)).trans (show u2.1 0 373 = (u2.1 0 373) by rfl))
      have q64 : (u2.1 0 381).toInt = (v.1 0 381).toInt := congrArg Int32.toInt ((fr1.2.1 381 (by decide)).trans (show v.1 0 381 = (v.1 0 381) by rfl))
      have q65 : (u50.1 0 381).toInt = (u2.1 0 381).toInt := congrArg Int32.toInt ((fr49.2.1 381 (by decide)).trans (show u2.1 0 381 = (u2.1 0 381) by rfl))
      refine W.sz (fun hz9 => ?_)
      refine czx_v (rx_Vk (n := 1) (As := [.int 1]) (rest := []) hx hb hml hown ht hKK hFx hP hD hS hA (E dC dI cI cB cZ cJ cR tb H.size ad pr N L1 L2 u50 (1 : Int32) ps (show 0 ≤ (u50.1 0 304).toInt ∧ (u50.1 0 304).toInt ≤ 1503 from (om_dd87ee851a z304 q52 q53)) (show 0 ≤ (u50.1 0 306).toInt ∧ (u50.1 0 306).toInt ≤ 40 from (om_68f540929a z306 q54 q55)) (show 0 ≤ (u50.1 0 312).toInt ∧ (u50.1 0 312).toInt ≤ 500 from (om_8a5975ec21 z312 q56 q57)) (show 0 ≤ (u50.1 0 321).toInt ∧ (u50.1 0 321).toInt ≤ 501 from (om_4dfa815534 z321 q58 q59)) (show 0 ≤ (u50.1 0 326).toInt ∧ (u50.1 0 326).toInt ≤ 420 from (om_9591dea625 z326 q60 q61)) (show 0 ≤ (u50.1 0 373).toInt ∧ (u50.1 0 373).toInt ≤ 4000 from (om_03cd8767ac z373 q62 q63)) (show 0 ≤ (u50.1 0 381).toInt ∧ (u50.1 0 381).toInt ≤ 3008 from (om_769192f2a4 z381 q64 q65)) (show L1.length = 40 from hL1) (show L2.length = 60 from hL2) (show RP u50 from ((show FC [305, 306, 307, 314, 315, 317, 321, 326, 381] [0, 316, 318, 319, 320, 324, 325, 378, 379, 380] v u50 from (FC.tr (FC.tr (FC.rf _) (FC.up fr1 (by decide) (by decide))) (FC.up fr49 (by decide) (by decide)))).1 rp)) (show pr ps = ad 908 from hps) (show (u50.1 0 300) = ps from (Eq.trans (fr49.2.1 300 (by decide)) (Eq.trans (fr1.2.1 300 (by decide)) es300))) (show (u50.1 0 310) = ps from (Eq.trans (fr49.2.1 310 (by decide)) (Eq.trans (fr1.2.1 310 (by decide)) es310))) (show l.stackTraces = false from hst) (show 40 ≤ (u50.1 0 306).toInt + (n : Int) from (om_ec198adb23 zn q54 q55))) tw_520 tw_521 (by decide +kernel) rfl rfl ⟨show (8 * n + 20) + 1 ≤ 8 * n + 21 from om_12a3a4432e, show 8 + (5 + 11) + 28 * (8 * n + 20) ≤ 28 * (8 * n + 21) from om_daa41a5b32⟩ (List.range (cW ad pr N cI cR L1 L2 u50).length) (rg_map _) (nd_range _) 2 rfl rfl rfl rfl hl.1 rfl (Nat.le_of_ble_eq_true rfl) dX2_argument_34 ⟨Nat.le_of_ble_eq_true rfl, Nat.le_of_ble_eq_true rfl⟩) hP hD hS hA (fun u9 ce9 q9 H locs hx9 hP hD hS hc9 hv9 hf9 => ?_) (fun u67 H locs hw66 hP hD hS hz8 => ?_)
      · exact vx_out (fun x h9 => (hnt x h9).elim) hlocks hc9 hv9 hf9 (fun t9 ht9 hv8 => ⟨u9, ⟨FC.tr (FC.tr (FC.tr (FC.rf _) (FC.up fr1 (by decide) (by decide))) (FC.up fr49 (by decide) (by decide))) hx9.1, hx9.2⟩, ⟨rfl, by rw [ht9]; exact hP, hD⟩, hS.F ht9⟩) hS.2.2 (Nat.le_refl _) (Nat.le_refl _)
      refine W.shrink (hz8.trans hz9) ?_
      obtain ⟨fr66, i30666, i32166, i32666, i38166, po66⟩ := hw66
      have i30666 : 0 ≤ (u67.1 0 306).toInt ∧ (u67.1 0 306).toInt ≤ 40 := i30666
      have i32166 : 0 ≤ (u67.1 0 321).toInt ∧ (u67.1 0 321).toInt ≤ 501 := i32166
      have i32666 : 0 ≤ (u67.1 0 326).toInt ∧ (u67.1 0 326).toInt ≤ 420 := i32666
      have i38166 : 0 ≤ (u67.1 0 381).toInt ∧ (u67.1 0 381).toInt ≤ 3008 := i38166
      have po66 : (u67.1 0 306).toInt = (u50.1 0 306).toInt := po66
      refine lv_aload_n hx hb dX2_argument_37 rfl (lv_at hl 0 rfl) ?_
      refine va_get (D := (dC, dI)) (ci := 6) (fs := oF_X2 ad pr u67) (v := .ref (ad 901)) (C := RX2) (T := TX2) (N := 5) hx hb ht itX2 hown hK hP 2 rfl rfl 1 (by decide) (ht _ tw_498) (fun _ h9 => h9) rfl dX2_argument_38 ?_
      refine lv_iconst (v := 4) hx hb dX2_argument_41 (by decide) ?_
      refine lv_aload_n hx hb dX2_argument_42 rfl (lv_at hl 0 rfl) ?_
      refine va_get (D := (dC, dI)) (ci := 6) (fs := oF_X2 ad pr u67) (v := .ref (ad 901)) (C := RX2) (T := TX2) (N := 5) hx hb ht itX2 hown hK hP 2 rfl rfl 1 (by decide) (ht _ tw_498) (fun _ h9 => h9) rfl dX2_argument_43 ?_
      have q69 : (u67.1 0 312).toInt = (u50.1 0 312).toInt := congrArg Int32.toInt ((fr66.2.1 312 (by decide)).trans (show u50.1 0 312 = (u50.1 0 312) by rfl))
      refine cu_i (rn_Vk (n := 0) (As := []) (rest := [.int 4, .ref (ad 901)]) hx hb hml hown ht hKK hFx hP hD hS hA (c_x_X1_nextSlot l dC dI cI cB cZ cJ cR tb H.size ad pr N L1 L2 u67  (show 0 ≤ (u67.1 0 312).toInt ∧ (u67.1 0 312).toInt ≤ 500 from (om_a369f3fea6 z312 q56 q57 q69))) tw_505 tw_506 (by decide +kernel) rfl rfl ⟨show 0 + 1 ≤ 8 * n + 21 from om_a43f662a07, show 8 + (1 + 11) + 0 ≤ 28 * (8 * n + 21) from om_9f2e4fbaf3⟩ (List.range (cW ad pr N cI cR L1 L2 u67).length) (rg_map _) (nd_range _) 1 rfl rfl rfl rfl hl.1 rfl (Nat.le_of_ble_eq_true rfl) dX2_argument_46 ⟨Nat.le_of_ble_eq_true rfl, Nat.le_of_ble_eq_true rfl⟩) hP hD hS hA (fun r72 u71 H locs hw70 hP hD hS => ?_)
      obtain rfl := hw70
      refine W.widen (k := 0) (n := 0) (Nat.le_refl _) (Nat.le_refl _) ?_
      refine lv_iconst (v := 0) hx hb dX2_argument_49 (by decide) ?_
      refine cu_v (rn_Vk (n := 3) (As := [.int 4, .int r72, .int 0]) (rest := []) hx hb hml hown ht hKK hFx hP hD hS hA (c_x_X1_add l dC dI cI cB cZ cJ cR tb H.size ad pr N L1 L2 u67 (4 : Int32) r72 (0 : Int32) ps (show 0 ≤ (u67.1 0 381).toInt ∧ (u67.1 0 381).toInt ≤ 3008 from (om_e78eec72e1 i38166)) (show pr ps = ad 908 from hps) (show (u67.1 0 310) = ps from (Eq.trans (fr66.2.1 310 (by decide)) (Eq.trans (fr49.2.1 310 (by decide)) (Eq.trans (fr1.2.1 310 (by decide)) es310))))) tw_499 tw_500 (by decide +kernel) rfl rfl ⟨show 0 + 1 ≤ 8 * n + 21 from om_a43f662a07, show 8 + (5 + 11) + 0 ≤ 28 * (8 * n + 21) from om_78af4e5b79⟩ (List.range (cW ad pr N cI cR L1 L2 u67).length) (rg_map _) (nd_range _) 1 rfl rfl rfl rfl hl.1 rfl (Nat.le_of_ble_eq_true rfl) dX2_argument_50 ⟨Nat.le_of_ble_eq_true rfl, Nat.le_of_ble_eq_true rfl⟩) hP hD hS hA (fun u74 H locs hw73 hP hD hS => ?_)
      obtain ⟨fr73, i38173⟩ := hw73
      have i38173 : 0 ≤ (u74.1 0 381).toInt ∧ (u74.1 0 381).toInt ≤ 3008 := i38173
      refine W.widen (k := 0) (n := 0) (Nat.le_refl _) (Nat.le_refl _) ?_
      refine lv_aload_n hx hb dX2_argument_53 rfl (lv_at hl 0 rfl) ?_
      refine va_get (D := (dC, dI)) (ci := 6) (fs := oF_X2 ad pr u74) (v := .ref (ad 901)) (C := RX2) (T := TX2) (N := 5) hx hb ht itX2 hown hK hP 2 rfl rfl 1 (by decide) (ht _ tw_498) (fun _ h9 => h9) rfl dX2_argument_54 ?_
      refine lv_dup hx hb dX2_argument_57 rfl ?_
      refine va_getN (D := (dC, dI)) (ci := 5) (fs := oF_X1 ad pr u74) (v := .int (u74.1 0 314)) (C := RX1) (T := TX1) (N := 12) hx hb ht itX1 hown hK hP 1 rfl rfl 4 (by decide) (hKK.fl2 6 rfl) (fun _ h9 => h9) rfl dX2_argument_58 ?_
      refine lv_iconst (v := 1) hx hb dX2_argument_61 (by decide) ?_
      refine lv_iadd hx hb dX2_argument_62 ?_
      refine va_putN (D := (dC, dI)) (ci := 5) (fs := oF_X1 ad pr u74) (v := .int ((u74.1 0 314) + (1 : Int32))) (ty := .int) (C := RX1) (T := TX1) (N := 12) hx hb ht itX1 tyX1 tyX1_ok nmX1 hown hK hP hD hS 1 rfl rfl 4 (by decide) (hKK.fl2 6 rfl) (fun _ h9 => h9) rfl (by decide +kernel) rfl rfl (Nat.le_of_ble_eq_true rfl) dX2_argument_63 (fun H locs hP hD hS => ?_)
      have hP := cP_ (cw_314 ad pr N cI cR L1 L2 u74 ((u74.1 0 314) + (1 : Int32))) hP
      have hD := cD_ (cw_314 ad pr N cI cR L1 L2 u74 ((u74.1 0 314) + (1 : Int32))) hD
      have q76 : (u74.1 0 306).toInt = (u67.1 0 306).toInt := congrArg Int32.toInt ((fr73.2.1 306 (by decide)).trans (show u67.1 0 306 = (u67.1 0 306) by rfl))
      have q77 : (u74.1 0 321).toInt = (u67.1 0 321).toInt := congrArg Int32.toInt ((fr73.2.1 321 (by decide)).trans (show u67.1 0 321 = (u67.1 0 321) by rfl))
      have q78 : (u74.1 0 326).toInt = (u67.1 0 326).toInt := congrArg Int32.toInt ((fr73.2.1 326 (by decide)).trans (show u67.1 0 326 = (u67.1 0 326) by rfl))
      refine W.sz (fun hz => ?_)
      refine vx_ret ?_
      refine W.widen (k := 1) (n := 6) (Nat.le_of_ble_eq_true rfl) (Nat.le_of_ble_eq_true rfl) ?_
      exact W.vret hx hb hr (fun t ht9 hW => ⟨⟨(wA u74 0 314 ((u74.1 0 314) + (1 : Int32))), rfl, ⟨(FC.f (FC.tr (FC.tr (FC.tr (FC.tr (FC.rf _) (FC.up fr1 (by decide) (by decide))) (FC.up fr49 (by decide) (by decide))) (FC.up fr66 (by decide) (by decide))) (FC.up fr73 (by decide) (by decide))) ((u74.1 0 314) + (1 : Int32)) (by decide)), (show 0 ≤ (u74.1 0 306).toInt ∧ (u74.1 0 306).toInt ≤ 40 from (om_99e115f631 i30666 q76)), (show 0 ≤ (u74.1 0 321).toInt ∧ (u74.1 0 321).toInt ≤ 501 from (om_ff27494c0e i32166 q77)), (show 0 ≤ (u74.1 0 326).toInt ∧ (u74.1 0 326).toInt ≤ 420 from (om_8ed0dedb19 i32666 q78)), (show 0 ≤ (u74.1 0 381).toInt ∧ (u74.1 0 381).toInt ≤ 3008 from (om_e78eec72e1 i38173)), (show (u74.1 0 306).toInt = (v.1 0 306).toInt from (om_42b828193d q54 q55 po66 q76))⟩, ⟨by rw [ht9]; exact hP, hD⟩, by rw [ht9]; exact hz⟩, hS.F ht9⟩) hS.2.2 dX2_argument_66
    · have z79 : (8 : Int) ≤ pb.toInt := nlt_z rfl (show (8 : Int32).toInt = (8 : Int) by decide) h47
      refine lv_aload_n hx hb dX2_argument_17 rfl (lv_at hl 0 rfl) ?_
      refine va_get (D := (dC, dI)) (ci := 6) (fs := oF_X2 ad pr u2) (v := .ref (ad 900)) (C := RX2) (T := TX2) (N := 5) hx hb ht itX2 hown hK hP 2 rfl rfl 0 (by decide) (ht _ tw_509) (fun _ h9 => h9) rfl dX2_argument_18 ?_
      refine cu_v (rn_Vk (n := 0) (As := []) (rest := []) hx hb hml hown ht hKK hFx hP hD hS hA (c_x_X9_makeDue l dC dI cI cB cZ cJ cR tb H.size ad pr N L1 L2 u2  ) tw_516 tw_517 (by decide +kernel) rfl rfl ⟨show 0 + 1 ≤ 8 * n + 21 from om_a43f662a07, show 8 + (1 + 11) + 0 ≤ 28 * (8 * n + 21) from om_9f2e4fbaf3⟩ (List.range (cW ad pr N cI cR L1 L2 u2).length) (rg_map _) (nd_range _) 0 rfl rfl rfl rfl hl.1 rfl (Nat.le_of_ble_eq_true rfl) dX2_argument_21 ⟨Nat.le_of_ble_eq_true rfl, Nat.le_of_ble_eq_true rfl⟩) hP hD hS hA (fun u81 H locs hw80 hP hD hS => ?_)
      have fr80 := hw80
      refine W.widen (k := 0) (n := 0) (Nat.le_refl _) (Nat.le_refl _) ?_
      refine lv_aload_n hx hb dX2_argument_24 rfl (lv_at hl 0 rfl) ?_
      refine va_get (D := (dC, dI)) (ci := 6) (fs := oF_X2 ad pr u81) (v := .ref (ad 901)) (C := RX2) (T := TX2) (N := 5) hx hb ht itX2 hown hK hP 2 rfl rfl 1 (by decide) (ht _ tw_498) (fun _ h9 => h9) rfl dX2_argument_25 ?_
      refine lv_iload_n hx hb dX2_argument_28 rfl (lv_at hl 1 rfl) ?_
      refine cu_v (rn_Vk (n := 1) (As := [.int pa]) (rest := []) hx hb hml hown ht hKK hFx hP hD hS hA (c_x_X1_addArgument l dC dI cI cB cZ cJ cR tb H.size ad pr N L1 L2 u81 pa ) tw_518 tw_519 (by decide +kernel) rfl rfl ⟨show 0 + 1 ≤ 8 * n + 21 from om_a43f662a07, show 8 + (2 + 11) + 0 ≤ 28 * (8 * n + 21) from om_b45810c062⟩ (List.range (cW ad pr N cI cR L1 L2 u81).length) (rg_map _) (nd_range _) 1 rfl rfl rfl rfl hl.1 rfl (Nat.le_of_ble_eq_true rfl) dX2_argument_29 ⟨Nat.le_of_ble_eq_true rfl, Nat.le_of_ble_eq_true rfl⟩) hP hD hS hA (fun u84 H locs hw83 hP hD hS => ?_)
      have fr83 := hw83
      refine W.widen (k := 0) (n := 0) (Nat.le_refl _) (Nat.le_refl _) ?_
      refine lv_aload_n hx hb dX2_argument_32 rfl (lv_at hl 0 rfl) ?_
      refine lv_iconst (v := 1) hx hb dX2_argument_33 (by decide) ?_
      have q86 : (u2.1 0 304).toInt = (v.1 0 304).toInt := congrArg Int32.toInt ((fr1.2.1 304 (by decide)).trans (show v.1 0 304 = (v.1 0 304) by rfl))
      have q87 : (u81.1 0 304).toInt = (u2.1 0 304).toInt := congrArg Int32.toInt ((fr80.2.1 304 (by decide)).trans (show u2.1 0 304 = (u2.1 0 304) by rfl))
      have q88 : (u84.1 0 304).toInt = (u81.1 0 304).toInt := congrArg Int32.toInt ((fr83.2.1 304 (by decide)).trans (show u81.1 0 304 = (u81.1 0 304) by rfl))
      have q89 : (u2.1 0 306).toInt = (v.1 0 306).toInt := congrArg Int32.toInt ((fr1.2.1 306 (by decide)).trans (show v.1 0 306 = (v.1 0 306) by rfl))
      have q90 : (u81.1 0 306).toInt = (u2.1 0 306).toInt := congrArg Int32.toInt ((fr80.2.1 306 (by decide)).trans (show u2.1 0 306 = (u2.1 0 306) by rfl))
      have q91 : (u84.1 0 306).toInt = (u81.1 0 306).toInt := congrArg Int32.toInt ((fr83.2.1 306 (by decide)).trans (show u81.1 0 306 = (u81.1 0 306) by rfl))
      have q92 : (u2.1 0 312).toInt = (v.1 0 312).toInt := congrArg Int32.toInt ((fr1.2.1 312 (by decide)).trans (show v.1 0 312 = (v.1 0 312) by rfl))
      have q93 : (u81.1 0 312).toInt = (u2.1 0 312).toInt := congrArg Int32.toInt ((fr80.2.1 312 (by decide)).trans (show u2.1 0 312 = (u2.1 0 312) by rfl))
      have q94 : (u84.1 0 312).toInt = (u81.1 0 312).toInt := congrArg Int32.toInt ((fr83.2.1 312 (by decide)).trans (show u81.1 0 312 = (u81.1 0 312) by rfl))
      have q95 : (u2.1 0 321).toInt = (v.1 0 321).toInt := congrArg Int32.toInt ((fr1.2.1 321 (by decide)).trans (show v.1 0 321 = (v.1 0 321) by rfl))
      have q96 : (u81.1 0 321).toInt = (u2.1 0 321).toInt := congrArg Int32.toInt ((fr80.2.1 321 (by decide)).trans (show u2.1 0 321 = (u2.1 0 321) by rfl))
      have q97 : (u84.1 0 321).toInt = (u81.1 0 321).toInt := congrArg Int32.toInt ((fr83.2.1 321 (by decide)).trans (show u81.1 0 321 = (u81.1 0 321) by rfl))
      have q98 : (u2.1 0 326).toInt = (v.1 0 326).toInt := congrArg Int32.toInt ((fr1.2.1 326 (by decide)).trans (show v.1 0 326 = (v.1 0 326) by rfl))
      have q99 : (u81.1 0 326).toInt = (u2.1 0 326).toInt := congrArg Int32.toInt ((fr80.2.1 326 (by decide)).trans (show u2.1 0 326 = (u2.1 0 326) by rfl))
      have q100 : (u84.1 0 326).toInt = (u81.1 0 326).toInt := congrArg Int32.toInt ((fr83.2.1 326 (by decide)).trans (show u81.1 0 326 = (u81.1 0 326) by rfl))
      have q101 : (u2.1 0 373).toInt = (v.1 0 373).toInt := congrArg Int32.toInt ((fr1.2.1 373 (by decide)).trans (show v.1 0 373 = (v.1 0 373) by rfl))
      have q102 : (u81.1 0 373).toInt = (u2.1 0 373).toInt := congrArg Int32.toInt ((fr80.2.1 373 (by decide)).trans (show u2.1 0 373 = (u2.1 0 373) by rfl))
      have q103 : (u84.1 0 373).toInt = (u81.1 0 373).toInt := congrArg Int32.toInt ((fr83.2.1 373 (by decide)).trans (show u81.1 0 373 = (u81.1 0 373) by rfl))
      have q104 : (u2.1 0 381).toInt = (v.1 0 381).toInt := congrArg Int32.toInt ((fr1.2.1 381 (by decide)).trans (show v.1 0 381 = (v.1 0 381) by rfl))
      have q105 : (u81.1 0 381).toInt = (u2.1 0 381).toInt := congrArg Int32.toInt ((fr80.2.1 381 (by decide)).trans (show u2.1 0 381 = (u2.1 0 381) by rfl))
      have q106 : (u84.1 0 381).toInt = (u81.1 0 381).toInt := congrArg Int32.toInt ((fr83.2.1 381 (by decide)).trans (show u81.1 0 381 = (u81.1 0 381) by rfl))
      refine W.sz (fun hz9 => ?_)
      refine czx_v (rx_Vk (n := 1) (As := [.int 1]) (rest := []) hx hb hml hown ht hKK hFx hP hD hS hA (E dC dI cI cB cZ cJ cR tb H.size ad pr N L1 L2 u84 (1 : Int32) ps (show 0 ≤ (u84.1 0 304).toInt ∧ (u84.1 0 304).toInt ≤ 1503 from (om_57e3d9ffbd z304 q86 q87 q88)) (show 0 ≤ (u84.1 0 306).toInt ∧ (u84.1 0 306).toInt ≤ 40 from (om_91b0537b40 z306 q89 q90 q91)) (show 0 ≤ (u84.1 0 312).toInt ∧ (u84.1 0 312).toInt ≤ 500 from (om_a369f3fea6 z312 q92 q93 q94)) (show 0 ≤ (u84.1 0 321).toInt ∧ (u84.1 0 321).toInt ≤ 501 from (om_ca65317fd6 z321 q95 q96 q97)) (show 0 ≤ (u84.1 0 326).toInt ∧ (u84.1 0 326).toInt ≤ 420 from (om_ba86cd30dc z326 q98 q99 q100)) (show 0 ≤ (u84.1 0 373).toInt ∧ (u84.1 0 373).toInt ≤ 4000 from (om_282c7f458f z373 q101 q102 q103)) (show 0 ≤ (u84.1 0 381).toInt ∧ (u84.1 0 381).toInt ≤ 3008 from (om_f27686c115 z381 q104 q105 q106)) (show L1.length = 40 from hL1) (show L2.length = 60 from hL2) (show RP u84 from ((show FC [305, 306, 307, 314, 315, 317, 321, 326, 381] [0, 316, 318, 319, 320, 324, 325, 378, 379, 380] v u84 from (FC.tr (FC.tr (FC.tr (FC.rf _) (FC.up fr1 (by decide) (by decide))) (FC.up fr80 (by decide) (by decide))) (FC.up fr83 (by decide) (by decide)))).1 rp)) (show pr ps = ad 908 from hps) (show (u84.1 0 300) = ps from (Eq.trans (fr83.2.1 300 (by decide)) (Eq.trans (fr80.2.1 300 (by decide)) (Eq.trans (fr1.2.1 300 (by decide)) es300)))) (show (u84.1 0 310) = ps from (Eq.trans (fr83.2.1 310 (by decide)) (Eq.trans (fr80.2.1 310 (by decide)) (Eq.trans (fr1.2.1 310 (by decide)) es310)))) (show l.stackTraces = false from hst) (show 40 ≤ (u84.1 0 306).toInt + (n : Int) from (om_00c4deb960 zn q89 q90 q91))) tw_520 tw_521 (by decide +kernel) rfl rfl ⟨show (8 * n + 20) + 1 ≤ 8 * n + 21 from om_12a3a4432e, show 8 + (5 + 11) + 28 * (8 * n + 20) ≤ 28 * (8 * n + 21) from om_daa41a5b32⟩ (List.range (cW ad pr N cI cR L1 L2 u84).length) (rg_map _) (nd_range _) 2 rfl rfl rfl rfl hl.1 rfl (Nat.le_of_ble_eq_true rfl) dX2_argument_34 ⟨Nat.le_of_ble_eq_true rfl, Nat.le_of_ble_eq_true rfl⟩) hP hD hS hA (fun u9 ce9 q9 H locs hx9 hP hD hS hc9 hv9 hf9 => ?_) (fun u108 H locs hw107 hP hD hS hz8 => ?_)
      · exact vx_out (fun x h9 => (hnt x h9).elim) hlocks hc9 hv9 hf9 (fun t9 ht9 hv8 => ⟨u9, ⟨FC.tr (FC.tr (FC.tr (FC.tr (FC.rf _) (FC.up fr1 (by decide) (by decide))) (FC.up fr80 (by decide) (by decide))) (FC.up fr83 (by decide) (by decide))) hx9.1, hx9.2⟩, ⟨rfl, by rw [ht9]; exact hP, hD⟩, hS.F ht9⟩) hS.2.2 (Nat.le_refl _) (Nat.le_refl _)
      refine W.shrink (hz8.trans hz9) ?_
      obtain ⟨fr107, i306107, i321107, i326107, i381107, po107⟩ := hw107
      have i306107 : 0 ≤ (u108.1 0 306).toInt ∧ (u108.1 0 306).toInt ≤ 40 := i306107
      have i321107 : 0 ≤ (u108.1 0 321).toInt ∧ (u108.1 0 321).toInt ≤ 501 := i321107
      have i326107 : 0 ≤ (u108.1 0 326).toInt ∧ (u108.1 0 326).toInt ≤ 420 := i326107
      have i381107 : 0 ≤ (u108.1 0 381).toInt ∧ (u108.1 0 381).toInt ≤ 3008 := i381107
      have po107 : (u108.1 0 306).toInt = (u84.1 0 306).toInt := po107
      refine lv_aload_n hx hb dX2_argument_37 rfl (lv_at hl 0 rfl) ?_
      refine va_get (D := (dC, dI)) (ci := 6) (fs := oF_X2 ad pr u108) (v := .ref (ad 901)) (C := RX2) (T := TX2) (N := 5) hx hb ht itX2 hown hK hP 2 rfl rfl 1 (by decide) (ht _ tw_498) (fun _ h9 => h9) rfl dX2_argument_38 ?_
      refine lv_iconst (v := 4) hx hb dX2_argument_41 (by decide) ?_
      refine lv_aload_n hx hb dX2_argument_42 rfl (lv_at hl 0 rfl) ?_
      refine va_get (D := (dC, dI)) (ci := 6) (fs := oF_X2 ad pr u108) (v := .ref (ad 901)) (C := RX2) (T := TX2) (N := 5) hx hb ht itX2 hown hK hP 2 rfl rfl 1 (by decide) (ht _ tw_498) (fun _ h9 => h9) rfl dX2_argument_43 ?_
      have q110 : (u108.1 0 312).toInt = (u84.1 0 312).toInt := congrArg Int32.toInt ((fr107.2.1 312 (by decide)).trans (show u84.1 0 312 = (u84.1 0 312) by rfl))
      refine cu_i (rn_Vk (n := 0) (As := []) (rest := [.int 4, .ref (ad 901)]) hx hb hml hown ht hKK hFx hP hD hS hA (c_x_X1_nextSlot l dC dI cI cB cZ cJ cR tb H.size ad pr N L1 L2 u108  (show 0 ≤ (u108.1 0 312).toInt ∧ (u108.1 0 312).toInt ≤ 500 from (om_31e0c91fb9 z312 q92 q93 q94 q110))) tw_505 tw_506 (by decide +kernel) rfl rfl ⟨show 0 + 1 ≤ 8 * n + 21 from om_a43f662a07, show 8 + (1 + 11) + 0 ≤ 28 * (8 * n + 21) from om_9f2e4fbaf3⟩ (List.range (cW ad pr N cI cR L1 L2 u108).length) (rg_map _) (nd_range _) 1 rfl rfl rfl rfl hl.1 rfl (Nat.le_of_ble_eq_true rfl) dX2_argument_46 ⟨Nat.le_of_ble_eq_true rfl, Nat.le_of_ble_eq_true rfl⟩) hP hD hS hA (fun r113 u112 H locs hw111 hP hD hS => ?_)
      obtain rfl := hw111
      refine W.widen (k := 0) (n := 0) (Nat.le_refl _) (Nat.le_refl _) ?_
      refine lv_iconst (v := 0) hx hb dX2_argument_49 (by decide) ?_
      refine cu_v (rn_Vk (n := 3) (As := [.int 4, .int r113, .int 0]) (rest := []) hx hb hml hown ht hKK hFx hP hD hS hA (c_x_X1_add l dC dI cI cB cZ cJ cR tb H.size ad pr N L1 L2 u108 (4 : Int32) r113 (0 : Int32) ps (show 0 ≤ (u108.1 0 381).toInt ∧ (u108.1 0 381).toInt ≤ 3008 from (om_e78eec72e1 i381107)) (show pr ps = ad 908 from hps) (show (u108.1 0 310) = ps from (Eq.trans (fr107.2.1 310 (by decide)) (Eq.trans (fr83.2.1 310 (by decide)) (Eq.trans (fr80.2.1 310 (by decide)) (Eq.trans (fr1.2.1 310 (by decide)) es310)))))) tw_499 tw_500 (by decide +kernel) rfl rfl ⟨show 0 + 1 ≤ 8 * n + 21 from om_a43f662a07, show 8 + (5 + 11) + 0 ≤ 28 * (8 * n + 21) from om_78af4e5b79⟩ (List.range (cW ad pr N cI cR L1 L2 u108).length) (rg_map _) (nd_range _) 1 rfl rfl rfl rfl hl.1 rfl (Nat.le_of_ble_eq_true rfl) dX2_argument_50 ⟨Nat.le_of_ble_eq_true rfl, Nat.le_of_ble_eq_true rfl⟩) hP hD hS hA (fun u115 H locs hw114 hP hD hS => ?_)
      obtain ⟨fr114, i381114⟩ := hw114
      have i381114 : 0 ≤ (u115.1 0 381).toInt ∧ (u115.1 0 381).toInt ≤ 3008 := i381114
      refine W.widen (k := 0) (n := 0) (Nat.le_refl _) (Nat.le_refl _) ?_
      refine lv_aload_n hx hb dX2_argument_53 rfl (lv_at hl 0 rfl) ?_
      refine va_get (D := (dC, dI)) (ci := 6) (fs := oF_X2 ad pr u115) (v := .ref (ad 901)) (C := RX2) (T := TX2) (N := 5) hx hb ht itX2 hown hK hP 2 rfl rfl 1 (by decide) (ht _ tw_498) (fun _ h9 => h9) rfl dX2_argument_54 ?_
      refine lv_dup hx hb dX2_argument_57 rfl ?_
      refine va_getN (D := (dC, dI)) (ci := 5) (fs := oF_X1 ad pr u115) (v := .int (u115.1 0 314)) (C := RX1) (T := TX1) (N := 12) hx hb ht itX1 hown hK hP 1 rfl rfl 4 (by decide) (hKK.fl2 6 rfl) (fun _ h9 => h9) rfl dX2_argument_58 ?_
      refine lv_iconst (v := 1) hx hb dX2_argument_61 (by decide) ?_
      refine lv_iadd hx hb dX2_argument_62 ?_
      refine va_putN (D := (dC, dI)) (ci := 5) (fs := oF_X1 ad pr u115) (v := .int ((u115.1 0 314) + (1 : Int32))) (ty := .int) (C := RX1) (T := TX1) (N := 12) hx hb ht itX1 tyX1 tyX1_ok nmX1 hown hK hP hD hS 1 rfl rfl 4 (by decide) (hKK.fl2 6 rfl) (fun _ h9 => h9) rfl (by decide +kernel) rfl rfl (Nat.le_of_ble_eq_true rfl) dX2_argument_63 (fun H locs hP hD hS => ?_)
      have hP := cP_ (cw_314 ad pr N cI cR L1 L2 u115 ((u115.1 0 314) + (1 : Int32))) hP
      have hD := cD_ (cw_314 ad pr N cI cR L1 L2 u115 ((u115.1 0 314) + (1 : Int32))) hD
      have q117 : (u115.1 0 306).toInt = (u108.1 0 306).toInt := congrArg Int32.toInt ((fr114.2.1 306 (by decide)).trans (show u108.1 0 306 = (u108.1 0 306) by rfl))
      have q118 : (u115.1 0 321).toInt = (u108.1 0 321).toInt := congrArg Int32.toInt ((fr114.2.1 321 (by decide)).trans (show u108.1 0 321 = (u108.1 0 321) by rfl))
      have q119 : (u115.1 0 326).toInt = (u108.1 0 326).toInt := congrArg Int32.toInt ((fr114.2.1 326 (by decide)).trans (show u108.1 0 326 = (u108.1 0 326) by rfl))
      refine W.sz (fun hz => ?_)
      refine vx_ret ?_
      refine W.widen (k := 1) (n := 6) (Nat.le_of_ble_eq_true rfl) (Nat.le_of_ble_eq_true rfl) ?_
      exact W.vret hx hb hr (fun t ht9 hW => ⟨⟨(wA u115 0 314 ((u115.1 0 314) + (1 : Int32))), rfl, ⟨(FC.f (FC.tr (FC.tr (FC.tr (FC.tr (FC.tr (FC.rf _) (FC.up fr1 (by decide) (by decide))) (FC.up fr80 (by decide) (by decide))) (FC.up fr83 (by decide) (by decide))) (FC.up fr107 (by decide) (by decide))) (FC.up fr114 (by decide) (by decide))) ((u115.1 0 314) + (1 : Int32)) (by decide)), (show 0 ≤ (u115.1 0 306).toInt ∧ (u115.1 0 306).toInt ≤ 40 from (om_99e115f631 i306107 q117)), (show 0 ≤ (u115.1 0 321).toInt ∧ (u115.1 0 321).toInt ≤ 501 from (om_ff27494c0e i321107 q118)), (show 0 ≤ (u115.1 0 326).toInt ∧ (u115.1 0 326).toInt ≤ 420 from (om_8ed0dedb19 i326107 q119)), (show 0 ≤ (u115.1 0 381).toInt ∧ (u115.1 0 381).toInt ≤ 3008 from (om_e78eec72e1 i381114)), (show (u115.1 0 306).toInt = (v.1 0 306).toInt from (om_8cd1b813ff q89 q90 q91 po107 q117))⟩, ⟨by rw [ht9]; exact hP, hD⟩, by rw [ht9]; exact hz⟩, hS.F ht9⟩) hS.2.2 dX2_argument_66
theorem om_0ba3df771c {n0 : Nat} : 8 + (3 + 11) + 24 ≤ 28 * (8 * n0 + 21) := by omega
set_option maxHeartbeats 16000000 in
set_option maxRecDepth 100000 in
theorem c_x_X2_changeBy (l : Launch) (n : Nat) (E : Cq_expression l n) (dC : Nat → ClassId) (dI : Nat → Nat → Nat) (cI cB cZ cJ cR : ClassId) (tb : Nat → Nat) (sz : Nat) (ad : Nat → Nat) (pr : Int32 → Nat) (N : Nat) (L1 L2 : List Nat) (v : MS) (pa : Int32) (pb : Int32) (pc1 : Int32) (pd : Int32) (ps : Int32) (z304 : 0 ≤ (v.1 0 304).toInt ∧ (v.1 0 304).toInt ≤ 1503) (z306 : 0 ≤ (v.1 0 306).toInt ∧ (v.1 0 306).toInt ≤ 40) (z312 : 0 ≤ (v.1 0 312).toInt ∧ (v.1 0 312).toInt ≤ 500) (z321 : 0 ≤ (v.1 0 321).toInt ∧ (v.1 0 321).toInt ≤ 501) (z326 : 0 ≤ (v.1 0 326).toInt ∧ (v.1 0 326).toInt ≤ 420) (z373 : 0 ≤ (v.1 0 373).toInt ∧ (v.1 0 373).toInt ≤ 4000) (z381 : 0 ≤ (v.1 0 381).toInt ∧ (v.1 0 381).toInt ≤ 3008) (hL1 : L1.length = 40) (hL2 : L2.length = 60) (rp : RP v) (hps : pr ps = ad 908) (es300 : (v.1 0 300) = ps) (es310 : (v.1 0 310) = ps) (hst : l.stackTraces = false) (zn : 40 ≤ (v.1 0 306).toInt + (n : Int)) : vx_Met l yX2_changeBy (Cond.code yX2_changeBy cX2_changeBy 6 none :: tw_W) ({ frames := 8 * n + 21, cells := 1, slots := 6, locals := 28 * (8 * n + 21) }) (pc_ (dC, dI) (tyS cI cB cZ cJ cR) tb (cW ad pr N cI cR L1 L2 v) sz [.ref (ad 902), .int pa, .int pb, .int pc1, .int pd]) (qvz_ (dC, dI) (cW ad pr N cI cR L1 L2 v) sz (fun (u : MS) => FC [305, 306, 307, 314, 315, 317, 321, 326, 381] [0, 316, 318, 319, 320, 324, 325, 378, 379, 380] v u ∧ (0 ≤ (u.1 0 306).toInt ∧ (u.1 0 306).toInt ≤ 40) ∧ (0 ≤ (u.1 0 321).toInt ∧ (u.1 0 321).toInt ≤ 501) ∧ (0 ≤ (u.1 0 326).toInt ∧ (u.1 0 326).toInt ≤ 420) ∧ (0 ≤ (u.1 0 381).toInt ∧ (u.1 0 381).toInt ≤ 3008) ∧ ((u.1 0 306).toInt = (v.1 0 306).toInt)) (fun (u : MS) => (cW ad pr N cI cR L1 L2 u))) (qxc (dC, dI) (cW ad pr N cI cR L1 L2 v) sz (fun (u : MS) => (cW ad pr N cI cR L1 L2 u)) (fun (u : MS) => FC xfl xal v u ∧ (u.1 0 308).toInt ≠ 0)) 1 6 (va_A (cW ad pr N cI cR L1 L2 v) sz) := by
  refine vx_ofW (cc := cX2_changeBy) (maxL := 6) (ret := none) (by decide) rfl ?_
  intro p e s m args below meth c s₁ B hml hnt hv
  obtain ⟨rfl, hsz, hP, hKK, hD0, hFx⟩ := hv
  have hK := hKK.1
  have hx := B.exec
  have hb := B.bytes
  have hr := B.returns
  have ht : ∀ w ∈ tw_W, w.before _ s = true := fun w h => atoms_spec (ws := Cond.code yX2_changeBy cX2_changeBy 6 none :: tw_W) B.pre w (List.mem_cons_of_mem _ h)
  have hown : s.vm.findClass RX2 = some m.cls := findClass_of_methodNamed B.named
  have hlocks := B.notSynchronized
  subst hsz
  unfold qvz_ qxc
  have hD := hD0.self (sz := s.heap.size)
  generalize hAe : va_A (cW ad pr N cI cR L1 L2 v) s.heap.size = A at hD hFx ⊢
  have hA : ∀ q : Nat, s.heap.size ≤ q → A q := fun q h => by rw [← hAe]; exact Or.inr h
  have hS : va_S A s.heap s.heap [] := va_S.rf
  have hl := lv_entry ([.ref (ad 902), .int pa, .int pb, .int pc1, .int pd]) (n := 6) (Nat.le_of_ble_eq_true rfl)
  rw [lg_entry_eq]
  generalize (lg_sl ([.ref (ad 902), .int pa, .int pb, .int pc1, .int pd]) ++ List.replicate (6 - (lg_sl ([.ref (ad 902), .int pa, .int pb, .int pc1, .int pd])).length) Slot.unset).toArray = ls at hl ⊢
  have hl : lv_has ls 6 [(0, .ref (ad 902)), (1, .int pa), (2, .int pb), (3, .int pc1), (4, .int pd)] := hl
  refine lv_iload hx hb dX2_changeBy_0 (lv_at hl 4 rfl) ?_
  refine lv_if_eq (tgt := 19) hx hb dX2_changeBy_2 (by decide) (fun h1 => ?_) (fun h1 => ?_)
  · have z2 : pd.toInt = (0 : Int) := eq_z rfl (show (0 : Int32).toInt = (0 : Int) by decide) h1
    refine lv_aload_n hx hb dX2_changeBy_19 rfl (lv_at hl 0 rfl) ?_
    refine lv_iload_n hx hb dX2_changeBy_20 rfl (lv_at hl 2 rfl) ?_
    refine lv_iload_n hx hb dX2_changeBy_21 rfl (lv_at hl 3 rfl) ?_
    refine cu_v (rn_Vk (n := 2) (As := [.int pb, .int pc1]) (rest := []) hx hb hml hown ht hKK hFx hP hD hS hA (c_x_X2_read l dC dI cI cB cZ cJ cR tb s.heap.size ad pr N L1 L2 v pb pc1 ps (show 0 ≤ (v.1 0 381).toInt ∧ (v.1 0 381).toInt ≤ 3008 from (om_e78eec72e1 z381)) (show pr ps = ad 908 from hps) (show (v.1 0 310) = ps from es310)) tw_522 tw_523 (by decide +kernel) rfl rfl ⟨show 1 + 1 ≤ 8 * n + 21 from om_0c36fa896d, show 8 + (3 + 11) + 24 ≤ 28 * (8 * n + 21) from om_0ba3df771c⟩ (List.range (cW ad pr N cI cR L1 L2 v).length) (rg_map _) (nd_range _) 2 rfl rfl rfl rfl hl.1 rfl (Nat.le_of_ble_eq_true rfl) dX2_changeBy_22 ⟨Nat.le_of_ble_eq_true rfl, Nat.le_of_ble_eq_true rfl⟩) hP hD hS hA (fun u4 H locs hw3 hP hD hS => ?_)
    obtain ⟨fr3, i3813⟩ := hw3
    refine W.widen (k := 0) (n := 0) (Nat.le_refl _) (Nat.le_refl _) ?_
    refine lv_aload_n hx hb dX2_changeBy_25 rfl (lv_at hl 0 rfl) ?_
    refine va_get (D := (dC, dI)) (ci := 6) (fs := oF_X2 ad pr u4) (v := .ref (ad 901)) (C := RX2) (T := TX2) (N := 5) hx hb ht itX2 hown hK hP 2 rfl rfl 1 (by decide) (ht _ tw_498) (fun _ h9 => h9) rfl dX2_changeBy_26 ?_
    have q6 : (u4.1 0 312).toInt = (v.1 0 312).toInt := congrArg Int32.toInt ((fr3.2.1 312 (by decide)).trans (show v.1 0 312 = (v.1 0 312) by rfl))
    refine cu_i (rn_Vk (n := 0) (As := []) (rest := []) hx hb hml hown ht hKK hFx hP hD hS hA (c_x_X1_nextSlot l dC dI cI cB cZ cJ cR tb H.size ad pr N L1 L2 u4  (show 0 ≤ (u4.1 0 312).toInt ∧ (u4.1 0 312).toInt ≤ 500 from (om_f8376ff89c z312 q6))) tw_505 tw_506 (by decide +kernel) rfl rfl ⟨show 0 + 1 ≤ 8 * n + 21 from om_a43f662a07, show 8 + (1 + 11) + 0 ≤ 28 * (8 * n + 21) from om_9f2e4fbaf3⟩ (List.range (cW ad pr N cI cR L1 L2 u4).length) (rg_map _) (nd_range _) 1 rfl rfl rfl rfl hl.1 rfl (Nat.le_of_ble_eq_true rfl) dX2_changeBy_29 ⟨Nat.le_of_ble_eq_true rfl, Nat.le_of_ble_eq_true rfl⟩) hP hD hS hA (fun r9 u8 H locs hw7 hP hD hS => ?_)
    obtain rfl := hw7
    refine W.widen (k := 0) (n := 0) (Nat.le_refl _) (Nat.le_refl _) ?_
    refine lv_istore (lv' := [(5, .int r9), (0, .ref (ad 902)), (1, .int pa), (2, .int pb), (3, .int pc1), (4, .int pd)]) hx hb dX2_changeBy_32 hl (by decide) rfl (fun ls hl => ?_)
    refine lv_aload_n hx hb dX2_changeBy_34 rfl (lv_at hl 1 rfl) ?_
    refine va_get (D := (dC, dI)) (ci := 6) (fs := oF_X2 ad pr u4) (v := .ref (ad 901)) (C := RX2) (T := TX2) (N := 5) hx hb ht itX2 hown hK hP 2 rfl rfl 1 (by decide) (ht _ tw_498) (fun _ h9 => h9) rfl dX2_changeBy_35 ?_
    refine lv_iconst (v := 4) hx hb dX2_changeBy_38 (by decide) ?_
    refine lv_iload hx hb dX2_changeBy_39 (lv_at hl 0 rfl) ?_
    refine lv_iconst (v := 0) hx hb dX2_changeBy_41 (by decide) ?_
    refine cu_v (rn_Vk (n := 3) (As := [.int 4, .int r9, .int 0]) (rest := []) hx hb hml hown ht hKK hFx hP hD hS hA (c_x_X1_add l dC dI cI cB cZ cJ cR tb H.size ad pr N L1 L2 u4 (4 : Int32) r9 (0 : Int32) ps (show 0 ≤ (u4.1 0 381).toInt ∧ (u4.1 0 381).toInt ≤ 3008 from (om_e78eec72e1 i3813)) (show pr ps = ad 908 from hps) (show (u4.1 0 310) = ps from (Eq.trans (fr3.2.1 310 (by decide)) es310))) tw_499 tw_500 (by decide +kernel) rfl rfl ⟨show 0 + 1 ≤ 8 * n + 21 from om_a43f662a07, show 8 + (5 + 11) + 0 ≤ 28 * (8 * n + 21) from om_78af4e5b79⟩ (List.range (cW ad pr N cI cR L1 L2 u4).length) (rg_map _) (nd_range _) 1 rfl rfl rfl rfl hl.1 rfl (Nat.le_of_ble_eq_true rfl) dX2_changeBy_42 ⟨Nat.le_of_ble_eq_true rfl, Nat.le_of_ble_eq_true rfl⟩) hP hD hS hA (fun u11 H locs hw10 hP hD hS => ?_)
    obtain ⟨fr10, i38110⟩ := hw10
    have i38110 : 0 ≤ (u11.1 0 381).toInt ∧ (u11.1 0 381).toInt ≤ 3008 := i38110
    refine W.widen (k := 0) (n := 0) (Nat.le_refl _) (Nat.le_refl _) ?_
    refine lv_aload_n hx hb dX2_changeBy_45 rfl (lv_at hl 1 rfl) ?_
    refine va_get (D := (dC, dI)) (ci := 6) (fs := oF_X2 ad pr u11) (v := .ref (ad 901)) (C := RX2) (T := TX2) (N := 5) hx hb ht itX2 hown hK hP 2 rfl rfl 1 (by decide) (ht _ tw_498) (fun _ h9 => h9) rfl dX2_changeBy_46 ?_
    refine lv_dup hx hb dX2_changeBy_49 rfl ?_
    refine va_getN (D := (dC, dI)) (ci := 5) (fs := oF_X1 ad pr u11) (v := .int (u11.1 0 314)) (C := RX1) (T := TX1) (N := 12) hx hb ht itX1 hown hK hP 1 rfl rfl 4 (by decide) (hKK.fl2 6 rfl) (fun _ h9 => h9) rfl dX2_changeBy_50 ?_
    refine lv_iconst (v := 1) hx hb dX2_changeBy_53 (by decide) ?_
    refine lv_iadd hx hb dX2_changeBy_54 ?_
    refine va_putN (D := (dC, dI)) (ci := 5) (fs := oF_X1 ad pr u11) (v := .int ((u11.1 0 314) + (1 : Int32))) (ty := .int) (C := RX1) (T := TX1) (N := 12) hx hb ht itX1 tyX1 tyX1_ok nmX1 hown hK hP hD hS 1 rfl rfl 4 (by decide) (hKK.fl2 6 rfl) (fun _ h9 => h9) rfl (by decide +kernel) rfl rfl (Nat.le_of_ble_eq_true rfl) dX2_changeBy_55 (fun H locs hP hD hS => ?_)
    have hP := cP_ (cw_314 ad pr N cI cR L1 L2 u11 ((u11.1 0 314) + (1 : Int32))) hP
    have hD := cD_ (cw_314 ad pr N cI cR L1 L2 u11 ((u11.1 0 314) + (1 : Int32))) hD
    refine lv_aload_n hx hb dX2_changeBy_58 rfl (lv_at hl 1 rfl) ?_
    refine lv_iconst (v := 1) hx hb dX2_changeBy_59 (by decide) ?_
    have q13 : (u4.1 0 304).toInt = (v.1 0 304).toInt := congrArg Int32.toInt ((fr3.2.1 304 (by decide)).trans (show v.1 0 304 = (v.1 0 304) by rfl))
    have q14 : (u11.1 0 304).toInt = (u4.1 0 304).toInt := congrArg Int32.toInt ((fr10.2.1 304 (by decide)).trans (show u4.1 0 304 = (u4.1 0 304) by rfl))
    have q15 : (u4.1 0 306).toInt = (v.1 0 306).toInt := congrArg Int32.toInt ((fr3.2.1 306 (by decide)).trans (show v.1 0 306 = (v.1 0 306) by rfl))
    have q16 : (u11.1 0 306).toInt = (u4.1 0 306).toInt := congrArg Int32.toInt ((fr10.2.1 306 (by decide)).trans (show u4.1 0 306 = (u4.1 0 306) by rfl))
    have q17 : (u11.1 0 312).toInt = (u4.1 0 312).toInt := congrArg Int32.toInt ((fr10.2.1 312 (by decide)).trans (show u4.1 0 312 = (u4.1 0 312) by rfl))
    have q18 : (u4.1 0 321).toInt = (v.1 0 321).toInt := congrArg Int32.toInt ((fr3.2.1 321 (by decide)).trans (show v.1 0 321 = (v.1 0 321) by rfl))
    have q19 : (u11.1 0 321).toInt = (u4.1 0 321).toInt := congrArg Int32.toInt ((fr10.2.1 321 (by decide)).trans (show u4.1 0 321 = (u4.1 0 321) by rfl))
    have q20 : (u4.1 0 326).toInt = (v.1 0 326).toInt := congrArg Int32.toInt ((fr3.2.1 326 (by decide)).trans (show v.1 0 326 = (v.1 0 326) by rfl))
    have q21 : (u11.1 0 326).toInt = (u4.1 0 326).toInt := congrArg Int32.toInt ((fr10.2.1 326 (by decide)).trans (show u4.1 0 326 = (u4.1 0 326) by rfl))
    have q22 : (u4.1 0 373).toInt = (v.1 0 373).toInt := congrArg Int32.toInt ((fr3.2.1 373 (by decide)).trans (show v.1 0 373 = (v.1 0 373) by rfl))
    have q23 : (u11.1 0 373).toInt = (u4.1 0 373).toInt := congrArg Int32.toInt ((fr10.2.1 373 (by decide)).trans (show u4.1 0 373 = (u4.1 0 373) by rfl))
    refine W.sz (fun hz9 => ?_)
    refine czx_v (rx_Vk (n := 1) (As := [.int 1]) (rest := []) hx hb hml hown ht hKK hFx hP hD hS hA (E dC dI cI cB cZ cJ cR tb H.size ad pr N L1 L2 (wA u11 0 314 ((u11.1 0 314) + (1 : Int32))) (1 : Int32) ps (show 0 ≤ (u11.1 0 304).toInt ∧ (u11.1 0 304).toInt ≤ 1503 from (om_dd87ee851a z304 q13 q14)) (show 0 ≤ (u11.1 0 306).toInt ∧ (u11.1 0 306).toInt ≤ 40 from (om_68f540929a z306 q15 q16)) (show 0 ≤ (u11.1 0 312).toInt ∧ (u11.1 0 312).toInt ≤ 500 from (om_8a5975ec21 z312 q6 q17)) (show 0 ≤ (u11.1 0 321).toInt ∧ (u11.1 0 321).toInt ≤ 501 from (om_4dfa815534 z321 q18 q19)) (show 0 ≤ (u11.1 0 326).toInt ∧ (u11.1 0 326).toInt ≤ 420 from (om_9591dea625 z326 q20 q21)) (show 0 ≤ (u11.1 0 373).toInt ∧ (u11.1 0 373).toInt ≤ 4000 from (om_03cd8767ac z373 q22 q23)) (show 0 ≤ (u11.1 0 381).toInt ∧ (u11.1 0 381).toInt ≤ 3008 from (om_e78eec72e1 i38110)) (show L1.length = 40 from hL1) (show L2.length = 60 from hL2) (show RP (wA u11 0 314 ((u11.1 0 314) + (1 : Int32))) from ((show FC [305, 306, 307, 314, 315, 317, 321, 326, 381] [0, 316, 318, 319, 320, 324, 325, 378, 379, 380] v (wA u11 0 314 ((u11.1 0 314) + (1 : Int32))) from (FC.f (FC.tr (FC.tr (FC.rf _) (FC.up fr3 (by decide) (by decide))) (FC.up fr10 (by decide) (by decide))) ((u11.1 0 314) + (1 : Int32)) (by decide))).1 rp)) (show pr ps = ad 908 from hps) (show (u11.1 0 300) = ps from (Eq.trans (fr10.2.1 300 (by decide)) (Eq.trans (fr3.2.1 300 (by decide)) es300))) (show (u11.1 0 310) = ps from (Eq.trans (fr10.2.1 310 (by decide)) (Eq.trans (fr3.2.1 310 (by decide)) es310))) (show l.stackTraces = false from hst) (show 40 ≤ (u11.1 0 306).toInt + (n : Int) from (om_ec198adb23 zn q15 q16))) tw_520 tw_521 (by decide +kernel) rfl rfl ⟨show (8 * n + 20) + 1 ≤ 8 * n + 21 from om_12a3a4432e, show 8 + (5 + 11) + 28 * (8 * n + 20) ≤ 28 * (8 * n + 21) from om_daa41a5b32⟩ (List.range (cW ad pr N cI cR L1 L2 (wA u11 0 314 ((u11.1 0 314) + (1 : Int32)))).length) (rg_map _) (nd_range _) 2 rfl rfl rfl rfl hl.1 rfl (Nat.le_of_ble_eq_true rfl) dX2_changeBy_60 ⟨Nat.le_of_ble_eq_true rfl, Nat.le_of_ble_eq_true rfl⟩) hP hD hS hA (fun u9 ce9 q9 H locs hx9 hP hD hS hc9 hv9 hf9 => ?_) (fun u25 H locs hw24 hP hD hS hz8 => ?_)
    · exact vx_out (fun x h9 => (hnt x h9).elim) hlocks hc9 hv9 hf9 (fun t9 ht9 hv8 => ⟨u9, ⟨FC.tr (FC.f (FC.tr (FC.tr (FC.rf _) (FC.up fr3 (by decide) (by decide))) (FC.up fr10 (by decide) (by decide))) ((u11.1 0 314) + (1 : Int32)) (by decide)) hx9.1, hx9.2⟩, ⟨rfl, by rw [ht9]; exact hP, hD⟩, hS.F ht9⟩) hS.2.2 (Nat.le_refl _) (Nat.le_refl _)
    refine W.shrink (hz8.trans hz9) ?_
    obtain ⟨fr24, i30624, i32124, i32624, i38124, po24⟩ := hw24
    have i30624 : 0 ≤ (u25.1 0 306).toInt ∧ (u25.1 0 306).toInt ≤ 40 := i30624
    have i32124 : 0 ≤ (u25.1 0 321).toInt ∧ (u25.1 0 321).toInt ≤ 501 := i32124
    have i32624 : 0 ≤ (u25.1 0 326).toInt ∧ (u25.1 0 326).toInt ≤ 420 := i32624
    have i38124 : 0 ≤ (u25.1 0 381).toInt ∧ (u25.1 0 381).toInt ≤ 3008 := i38124
    have po24 : (u25.1 0 306).toInt = (u11.1 0 306).toInt := po24
    refine lv_aload_n hx hb dX2_changeBy_63 rfl (lv_at hl 1 rfl) ?_
    refine va_get (D := (dC, dI)) (ci := 6) (fs := oF_X2 ad pr u25) (v := .ref (ad 901)) (C := RX2) (T := TX2) (N := 5) hx hb ht itX2 hown hK hP 2 rfl rfl 1 (by decide) (ht _ tw_498) (fun _ h9 => h9) rfl dX2_changeBy_64 ?_
    refine lv_dup hx hb dX2_changeBy_67 rfl ?_
    refine va_getN (D := (dC, dI)) (ci := 5) (fs := oF_X1 ad pr u25) (v := .int (u25.1 0 314)) (C := RX1) (T := TX1) (N := 12) hx hb ht itX1 hown hK hP 1 rfl rfl 4 (by decide) (hKK.fl2 6 rfl) (fun _ h9 => h9) rfl dX2_changeBy_68 ?_
    refine lv_iconst (v := 1) hx hb dX2_changeBy_71 (by decide) ?_
    refine lv_isub hx hb dX2_changeBy_72 ?_
    refine va_putN (D := (dC, dI)) (ci := 5) (fs := oF_X1 ad pr u25) (v := .int ((u25.1 0 314) - (1 : Int32))) (ty := .int) (C := RX1) (T := TX1) (N := 12) hx hb ht itX1 tyX1 tyX1_ok nmX1 hown hK hP hD hS 1 rfl rfl 4 (by decide) (hKK.fl2 6 rfl) (fun _ h9 => h9) rfl (by decide +kernel) rfl rfl (Nat.le_of_ble_eq_true rfl) dX2_changeBy_73 (fun H locs hP hD hS => ?_)
    have hP := cP_ (cw_314 ad pr N cI cR L1 L2 u25 ((u25.1 0 314) - (1 : Int32))) hP
    have hD := cD_ (cw_314 ad pr N cI cR L1 L2 u25 ((u25.1 0 314) - (1 : Int32))) hD
    refine lv_aload_n hx hb dX2_changeBy_76 rfl (lv_at hl 1 rfl) ?_
    refine va_get (D := (dC, dI)) (ci := 6) (fs := oF_X2 ad pr (wA u25 0 314 ((u25.1 0 314) - (1 : Int32)))) (v := .ref (ad 901)) (C := RX2) (T := TX2) (N := 5) hx hb ht itX2 hown hK hP 2 rfl rfl 1 (by decide) (ht _ tw_498) (fun _ h9 => h9) rfl dX2_changeBy_77 ?_
    refine lv_bipush (v := 20) hx hb dX2_changeBy_80 (by decide) ?_
    refine lv_iload_n hx hb dX2_changeBy_82 rfl (lv_at hl 2 rfl) ?_
    refine lv_iload hx hb dX2_changeBy_83 (lv_at hl 0 rfl) ?_
    refine cu_v (rn_Vk (n := 3) (As := [.int 20, .int pa, .int r9]) (rest := []) hx hb hml hown ht hKK hFx hP hD hS hA (c_x_X1_add l dC dI cI cB cZ cJ cR tb H.size ad pr N L1 L2 (wA u25 0 314 ((u25.1 0 314) - (1 : Int32))) (20 : Int32) pa r9 ps (show 0 ≤ (u25.1 0 381).toInt ∧ (u25.1 0 381).toInt ≤ 3008 from (om_e78eec72e1 i38124)) (show pr ps = ad 908 from hps) (show (u25.1 0 310) = ps from (Eq.trans (fr24.2.1 310 (by decide)) (Eq.trans (fr10.2.1 310 (by decide)) (Eq.trans (fr3.2.1 310 (by decide)) es310))))) tw_499 tw_500 (by decide +kernel) rfl rfl ⟨show 0 + 1 ≤ 8 * n + 21 from om_a43f662a07, show 8 + (5 + 11) + 0 ≤ 28 * (8 * n + 21) from om_78af4e5b79⟩ (List.range (cW ad pr N cI cR L1 L2 (wA u25 0 314 ((u25.1 0 314) - (1 : Int32)))).length) (rg_map _) (nd_range _) 1 rfl rfl rfl rfl hl.1 rfl (Nat.le_of_ble_eq_true rfl) dX2_changeBy_85 ⟨Nat.le_of_ble_eq_true rfl, Nat.le_of_ble_eq_true rfl⟩) hP hD hS hA (fun u28 H locs hw27 hP hD hS => ?_)
    obtain ⟨fr27, i38127⟩ := hw27
    have i38127 : 0 ≤ (u28.1 0 381).toInt ∧ (u28.1 0 381).toInt ≤ 3008 := i38127
    refine W.widen (k := 0) (n := 0) (Nat.le_refl _) (Nat.le_refl _) ?_
    have q30 : (u28.1 0 306).toInt = (u25.1 0 306).toInt := congrArg Int32.toInt ((fr27.2.1 306 (by decide)).trans (show (wA u25 0 314 ((u25.1 0 314) - (1 : Int32))).1 0 306 = (u25.1 0 306) by rfl))
    have q31 : (u28.1 0 321).toInt = (u25.1 0 321).toInt := congrArg Int32.toInt ((fr27.2.1 321 (by decide)).trans (show (wA u25 0 314 ((u25.1 0 314) - (1 : Int32))).1 0 321 = (u25.1 0 321) by rfl))
    have q32 : (u28.1 0 326).toInt = (u25.1 0 326).toInt := congrArg Int32.toInt ((fr27.2.1 326 (by decide)).trans (show (wA u25 0 314 ((u25.1 0 314) - (1 : Int32))).1 0 326 = (u25.1 0 326) by rfl))
    refine W.sz (fun hz => ?_)
    refine vx_ret ?_
    refine W.widen (k := 1) (n := 6) (Nat.le_of_ble_eq_true rfl) (Nat.le_of_ble_eq_true rfl) ?_
    exact W.vret hx hb hr (fun t ht9 hW => ⟨⟨u28, rfl, ⟨(FC.tr (FC.f (FC.tr (FC.f (FC.tr (FC.tr (FC.rf _) (FC.up fr3 (by decide) (by decide))) (FC.up fr10 (by decide) (by decide))) ((u11.1 0 314) + (1 : Int32)) (by decide)) (FC.up fr24 (by decide) (by decide))) ((u25.1 0 314) - (1 : Int32)) (by decide)) (FC.up fr27 (by decide) (by decide))), (show 0 ≤ (u28.1 0 306).toInt ∧ (u28.1 0 306).toInt ≤ 40 from (om_99e115f631 i30624 q30)), (show 0 ≤ (u28.1 0 321).toInt ∧ (u28.1 0 321).toInt ≤ 501 from (om_ff27494c0e i32124 q31)), (show 0 ≤ (u28.1 0 326).toInt ∧ (u28.1 0 326).toInt ≤ 420 from (om_8ed0dedb19 i32624 q32)), (show 0 ≤ (u28.1 0 381).toInt ∧ (u28.1 0 381).toInt ≤ 3008 from (om_e78eec72e1 i38127)), (show (u28.1 0 306).toInt = (v.1 0 306).toInt from (om_42b828193d q15 q16 po24 q30))⟩, ⟨by rw [ht9]; exact hP, hD⟩, by rw [ht9]; exact hz⟩, hS.F ht9⟩) hS.2.2 dX2_changeBy_88
  · have z33 : pd.toInt ≠ (0 : Int) := ne_z rfl (show (0 : Int32).toInt = (0 : Int) by decide) h1
    refine lv_aload_n hx hb dX2_changeBy_5 rfl (lv_at hl 0 rfl) ?_
    refine va_get (D := (dC, dI)) (ci := 6) (fs := oF_X2 ad pr v) (v := .ref (ad 901)) (C := RX2) (T := TX2) (N := 5) hx hb ht itX2 hown hK hP 2 rfl rfl 1 (by decide) (ht _ tw_498) (fun _ h9 => h9) rfl dX2_changeBy_6 ?_
    refine lv_bipush (v := 10) hx hb dX2_changeBy_9 (by decide) ?_
    refine lv_iconst (v := 0) hx hb dX2_changeBy_11 (by decide) ?_
    refine lv_iconst (v := 0) hx hb dX2_changeBy_12 (by decide) ?_
    refine cu_v (rn_Vk (n := 3) (As := [.int 10, .int 0, .int 0]) (rest := []) hx hb hml hown ht hKK hFx hP hD hS hA (c_x_X1_add l dC dI cI cB cZ cJ cR tb s.heap.size ad pr N L1 L2 v (10 : Int32) (0 : Int32) (0 : Int32) ps (show 0 ≤ (v.1 0 381).toInt ∧ (v.1 0 381).toInt ≤ 3008 from (om_e78eec72e1 z381)) (show pr ps = ad 908 from hps) (show (v.1 0 310) = ps from es310)) tw_499 tw_500 (by decide +kernel) rfl rfl ⟨show 0 + 1 ≤ 8 * n + 21 from om_a43f662a07, show 8 + (5 + 11) + 0 ≤ 28 * (8 * n + 21) from om_78af4e5b79⟩ (List.range (cW ad pr N cI cR L1 L2 v).length) (rg_map _) (nd_range _) 1 rfl rfl rfl rfl hl.1 rfl (Nat.le_of_ble_eq_true rfl) dX2_changeBy_13 ⟨Nat.le_of_ble_eq_true rfl, Nat.le_of_ble_eq_true rfl⟩) hP hD hS hA (fun u35 H locs hw34 hP hD hS => ?_)
    obtain ⟨fr34, i38134⟩ := hw34
    refine W.widen (k := 0) (n := 0) (Nat.le_refl _) (Nat.le_refl _) ?_
    refine lv_goto (tgt := 25) hx hb dX2_changeBy_16 (by decide) ?_
    refine lv_aload_n hx hb dX2_changeBy_25 rfl (lv_at hl 0 rfl) ?_
    refine va_get (D := (dC, dI)) (ci := 6) (fs := oF_X2 ad pr u35) (v := .ref (ad 901)) (C := RX2) (T := TX2) (N := 5) hx hb ht itX2 hown hK hP 2 rfl rfl 1 (by decide) (ht _ tw_498) (fun _ h9 => h9) rfl dX2_changeBy_26 ?_
    have q37 : (u35.1 0 312).toInt = (v.1 0 312).toInt := congrArg Int32.toInt ((fr34.2.1 312 (by decide)).trans (show v.1 0 312 = (v.1 0 312) by rfl))
    refine cu_i (rn_Vk (n := 0) (As := []) (rest := []) hx hb hml hown ht hKK hFx hP hD hS hA (c_x_X1_nextSlot l dC dI cI cB cZ cJ cR tb H.size ad pr N L1 L2 u35  (show 0 ≤ (u35.1 0 312).toInt ∧ (u35.1 0 312).toInt ≤ 500 from (om_f8376ff89c z312 q37))) tw_505 tw_506 (by decide +kernel) rfl rfl ⟨show 0 + 1 ≤ 8 * n + 21 from om_a43f662a07, show 8 + (1 + 11) + 0 ≤ 28 * (8 * n + 21) from om_9f2e4fbaf3⟩ (List.range (cW ad pr N cI cR L1 L2 u35).length) (rg_map _) (nd_range _) 1 rfl rfl rfl rfl hl.1 rfl (Nat.le_of_ble_eq_true rfl) dX2_changeBy_29 ⟨Nat.le_of_ble_eq_true rfl, Nat.le_of_ble_eq_true rfl⟩) hP hD hS hA (fun r40 u39 H locs hw38 hP hD hS => ?_)
    obtain rfl := hw38
    refine W.widen (k := 0) (n := 0) (Nat.le_refl _) (Nat.le_refl _) ?_
    refine lv_istore (lv' := [(5, .int r40), (0, .ref (ad 902)), (1, .int pa), (2, .int pb), (3, .int pc1), (4, .int pd)]) hx hb dX2_changeBy_32 hl (by decide) rfl (fun ls hl => ?_)
    refine lv_aload_n hx hb dX2_changeBy_34 rfl (lv_at hl 1 rfl) ?_
    refine va_get (D := (dC, dI)) (ci := 6) (fs := oF_X2 ad pr u35) (v := .ref (ad 901)) (C := RX2) (T := TX2) (N := 5) hx hb ht itX2 hown hK hP 2 rfl rfl 1 (by decide) (ht _ tw_498) (fun _ h9 => h9) rfl dX2_changeBy_35 ?_
    refine lv_iconst (v := 4) hx hb dX2_changeBy_38 (by decide) ?_
    refine lv_iload hx hb dX2_changeBy_39 (lv_at hl 0 rfl) ?_
    refine lv_iconst (v := 0) hx hb dX2_changeBy_41 (by decide) ?_
    refine cu_v (rn_Vk (n := 3) (As := [.int 4, .int r40, .int 0]) (rest := []) hx hb hml hown ht hKK hFx hP hD hS hA (c_x_X1_add l dC dI cI cB cZ cJ cR tb H.size ad pr N L1 L2 u35 (4 : Int32) r40 (0 : Int32) ps (show 0 ≤ (u35.1 0 381).toInt ∧ (u35.1 0 381).toInt ≤ 3008 from (om_e78eec72e1 i38134)) (show pr ps = ad 908 from hps) (show (u35.1 0 310) = ps from (Eq.trans (fr34.2.1 310 (by decide)) es310))) tw_499 tw_500 (by decide +kernel) rfl rfl ⟨show 0 + 1 ≤ 8 * n + 21 from om_a43f662a07, show 8 + (5 + 11) + 0 ≤ 28 * (8 * n + 21) from om_78af4e5b79⟩ (List.range (cW ad pr N cI cR L1 L2 u35).length) (rg_map _) (nd_range _) 1 rfl rfl rfl rfl hl.1 rfl (Nat.le_of_ble_eq_true rfl) dX2_changeBy_42 ⟨Nat.le_of_ble_eq_true rfl, Nat.le_of_ble_eq_true rfl⟩) hP hD hS hA (fun u42 H locs hw41 hP hD hS => ?_)
    obtain ⟨fr41, i38141⟩ := hw41
    have i38141 : 0 ≤ (u42.1 0 381).toInt ∧ (u42.1 0 381).toInt ≤ 3008 := i38141
    refine W.widen (k := 0) (n := 0) (Nat.le_refl _) (Nat.le_refl _) ?_
    refine lv_aload_n hx hb dX2_changeBy_45 rfl (lv_at hl 1 rfl) ?_
    refine va_get (D := (dC, dI)) (ci := 6) (fs := oF_X2 ad pr u42) (v := .ref (ad 901)) (C := RX2) (T := TX2) (N := 5) hx hb ht itX2 hown hK hP 2 rfl rfl 1 (by decide) (ht _ tw_498) (fun _ h9 => h9) rfl dX2_changeBy_46 ?_
    refine lv_dup hx hb dX2_changeBy_49 rfl ?_
    refine va_getN (D := (dC, dI)) (ci := 5) (fs := oF_X1 ad pr u42) (v := .int (u42.1 0 314)) (C := RX1) (T := TX1) (N := 12) hx hb ht itX1 hown hK hP 1 rfl rfl 4 (by decide) (hKK.fl2 6 rfl) (fun _ h9 => h9) rfl dX2_changeBy_50 ?_
    refine lv_iconst (v := 1) hx hb dX2_changeBy_53 (by decide) ?_
    refine lv_iadd hx hb dX2_changeBy_54 ?_
    refine va_putN (D := (dC, dI)) (ci := 5) (fs := oF_X1 ad pr u42) (v := .int ((u42.1 0 314) + (1 : Int32))) (ty := .int) (C := RX1) (T := TX1) (N := 12) hx hb ht itX1 tyX1 tyX1_ok nmX1 hown hK hP hD hS 1 rfl rfl 4 (by decide) (hKK.fl2 6 rfl) (fun _ h9 => h9) rfl (by decide +kernel) rfl rfl (Nat.le_of_ble_eq_true rfl) dX2_changeBy_55 (fun H locs hP hD hS => ?_)
    have hP := cP_ (cw_314 ad pr N cI cR L1 L2 u42 ((u42.1 0 314) + (1 : Int32))) hP
    have hD := cD_ (cw_314 ad pr N cI cR L1 L2 u42 ((u42.1 0 314) + (1 : Int32))) hD
    refine lv_aload_n hx hb dX2_changeBy_58 rfl (lv_at hl 1 rfl) ?_
    refine lv_iconst (v := 1) hx hb dX2_changeBy_59 (by decide) ?_
    have q44 : (u35.1 0 304).toInt = (v.1 0 304).toInt := congrArg Int32.toInt ((fr34.2.1 304 (by decide)).trans (show v.1 0 304 = (v.1 0 304) by rfl))
    have q45 : (u42.1 0 304).toInt = (u35.1 0 304).toInt := congrArg Int32.toInt ((fr41.2.1 304 (by decide)).trans (show u35.1 0 304 = (u35.1 0 304) by rfl))
    have q46 : (u35.1 0 306).toInt = (v.1 0 306).toInt := congrArg Int32.toInt ((fr34.2.1 306 (by decide)).trans (show v.1 0 306 = (v.1 0 306) by rfl))
    have q47 : (u42.1 0 306).toInt = (u35.1 0 306).toInt := congrArg Int32.toInt ((fr41.2.1 306 (by decide)).trans (show u35.1 0 306 = (u35.1 0 306) by rfl))
    have q48 : (u42.1 0 312).toInt = (u35.1 0 312).toInt := congrArg Int32.toInt ((fr41.2.1 312 (by decide)).trans (show u35.1 0 312 = (u35.1 0 312) by rfl))
    have q49 : (u35.1 0 321).toInt = (v.1 0 321).toInt := congrArg Int32.toInt ((fr34.2.1 321 (by decide)).trans (show v.1 0 321 = (v.1 0 321) by rfl))
    have q50 : (u42.1 0 321).toInt = (u35.1 0 321).toInt := congrArg Int32.toInt ((fr41.2.1 321 (by decide)).trans (show u35.1 0 321 = (u35.1 0 321) by rfl))
    have q51 : (u35.1 0 326).toInt = (v.1 0 326).toInt := congrArg Int32.toInt ((fr34.2.1 326 (by decide)).trans (show v.1 0 326 = (v.1 0 326) by rfl))
    have q52 : (u42.1 0 326).toInt = (u35.1 0 326).toInt := congrArg Int32.toInt ((fr41.2.1 326 (by decide)).trans (show u35.1 0 326 = (u35.1 0 326) by rfl))
    have q53 : (u35.1 0 373).toInt = (v.1 0 373).toInt := congrArg Int32.toInt ((fr34.2.1 373 (by decide)).trans (show v.1 0 373 = (v.1 0 373) by rfl))
    have q54 : (u42.1 0 373).toInt = (u35.1 0 373).toInt := congrArg Int32.toInt ((fr41.2.1 373 (by decide)).trans (show u35.1 0 373 = (u35.1 0 373) by rfl))
    refine W.sz (fun hz9 => ?_)
    refine czx_v (rx_Vk (n := 1) (As := [.int 1]) (rest := []) hx hb hml hown ht hKK hFx hP hD hS hA (E dC dI cI cB cZ cJ cR tb H.size ad pr N L1 L2 (wA u42 0 314 ((u42.1 0 314) + (1 : Int32))) (1 : Int32) ps (show 0 ≤ (u42.1 0 304).toInt ∧ (u42.1 0 304).toInt ≤ 1503 from (om_dd87ee851a z304 q44 q45)) (show 0 ≤ (u42.1 0 306).toInt ∧ (u42.1 0 306).toInt ≤ 40 from (om_68f540929a z306 q46 q47)) (show 0 ≤ (u42.1 0 312).toInt ∧ (u42.1 0 312).toInt ≤ 500 from (om_8a5975ec21 z312 q37 q48)) (show 0 ≤ (u42.1 0 321).toInt ∧ (u42.1 0 321).toInt ≤ 501 from (om_4dfa815534 z321 q49 q50)) (show 0 ≤ (u42.1 0 326).toInt ∧ (u42.1 0 326).toInt ≤ 420 from (om_9591dea625 z326 q51 q52)) (show 0 ≤ (u42.1 0 373).toInt ∧ (u42.1 0 373).toInt ≤ 4000 from (om_03cd8767ac z373 q53 q54)) (show 0 ≤ (u42.1 0 381).toInt ∧ (u42.1 0 381).toInt ≤ 3008 from (om_e78eec72e1 i38141)) (show L1.length = 40 from hL1) (show L2.length = 60 from hL2) (show RP (wA u42 0 314 ((u42.1 0 314) + (1 : Int32))) from ((show FC [305, 306, 307, 314, 315, 317, 321, 326, 381] [0, 316, 318, 319, 320, 324, 325, 378, 379, 380] v (wA u42 0 314 ((u42.1 0 314) + (1 : Int32))) from (FC.f (FC.tr (FC.tr (FC.rf _) (FC.up fr34 (by decide) (by decide))) (FC.up fr41 (by decide) (by decide))) ((u42.1 0 314) + (1 : Int32)) (by decide))).1 rp)) (show pr ps = ad 908 from hps) (show (u42.1 0 300) = ps from (Eq.trans (fr41.2.1 300 (by decide)) (Eq.trans (fr34.2.1 300 (by decide)) es300))) (show (u42.1 0 310) = ps from (Eq.trans (fr41.2.1 310 (by decide)) (Eq.trans (fr34.2.1 310 (by decide)) es310))) (show l.stackTraces = false from hst) (show 40 ≤ (u42.1 0 306).toInt + (n : Int) from (om_ec198adb23 zn q46 q47))) tw_520 tw_521 (by decide +kernel) rfl rfl ⟨show (8 * n + 20) + 1 ≤ 8 * n + 21 from om_12a3a4432e, show 8 + (5 + 11) + 28 * (8 * n + 20) ≤ 28 * (8 * n + 21) from om_daa41a5b32⟩ (List.range (cW ad pr N cI cR L1 L2 (wA u42 0 314 ((u42.1 0 314) + (1 : Int32)))).length) (rg_map _) (nd_range _) 2 rfl rfl rfl rfl hl.1 rfl (Nat.le_of_ble_eq_true rfl) dX2_changeBy_60 ⟨Nat.le_of_ble_eq_true rfl, Nat.le_of_ble_eq_true rfl⟩) hP hD hS hA (fun u9 ce9 q9 H locs hx9 hP hD hS hc9 hv9 hf9 => ?_) (fun u56 H locs hw55 hP hD hS hz8 => ?_)
    · exact vx_out (fun x h9 => (hnt x h9).elim) hlocks hc9 hv9 hf9 (fun t9 ht9 hv8 => ⟨u9, ⟨FC.tr (FC.f (FC.tr (FC.tr (FC.rf _) (FC.up fr34 (by decide) (by decide))) (FC.up fr41 (by decide) (by decide))) ((u42.1 0 314) + (1 : Int32)) (by decide)) hx9.1, hx9.2⟩, ⟨rfl, by rw [ht9]; exact hP, hD⟩, hS.F ht9⟩) hS.2.2 (Nat.le_refl _) (Nat.le_refl _)
    refine W.shrink (hz8.trans hz9) ?_
    obtain ⟨fr55, i30655, i32155, i32655, i38155, po55⟩ := hw55
    have i30655 : 0 ≤ (u56.1 0 306).toInt ∧ (u56.1 0 306).toInt ≤ 40 := i30655
    have i32155 : 0 ≤ (u56.1 0 321).toInt ∧ (u56.1 0 321).toInt ≤ 501 := i32155
    have i32655 : 0 ≤ (u56.1 0 326).toInt ∧ (u56.1 0 326).toInt ≤ 420 := i32655
    have i38155 : 0 ≤ (u56.1 0 381).toInt ∧ (u56.1 0 381).toInt ≤ 3008 := i38155
    have po55 : (u56.1 0 306).toInt = (u42.1 0 306).toInt := po55
    refine lv_aload_n hx hb dX2_changeBy_63 rfl (lv_at hl 1 rfl) ?_
    refine va_get (D := (dC, dI)) (ci := 6) (fs := oF_X2 ad pr u56) (v := .ref (ad 901)) (C := RX2) (T := TX2) (N := 5) hx hb ht itX2 hown hK hP 2 rfl rfl 1 (by decide) (ht _ tw_498) (fun _ h9 => h9) rfl dX2_changeBy_64 ?_
    refine lv_dup hx hb dX2_changeBy_67 rfl ?_
    refine va_getN (D := (dC, dI)) (ci := 5) (fs := oF_X1 ad pr u56) (v := .int (u56.1 0 314)) (C := RX1) (T := TX1) (N := 12) hx hb ht itX1 hown hK hP 1 rfl rfl 4 (by decide) (hKK.fl2 6 rfl) (fun _ h9 => h9) rfl dX2_changeBy_68 ?_
    refine lv_iconst (v := 1) hx hb dX2_changeBy_71 (by decide) ?_
    refine lv_isub hx hb dX2_changeBy_72 ?_
    refine va_putN (D := (dC, dI)) (ci := 5) (fs := oF_X1 ad pr u56) (v := .int ((u56.1 0 314) - (1 : Int32))) (ty := .int) (C := RX1) (T := TX1) (N := 12) hx hb ht itX1 tyX1 tyX1_ok nmX1 hown hK hP hD hS 1 rfl rfl 4 (by decide) (hKK.fl2 6 rfl) (fun _ h9 => h9) rfl (by decide +kernel) rfl rfl (Nat.le_of_ble_eq_true rfl) dX2_changeBy_73 (fun H locs hP hD hS => ?_)
    have hP := cP_ (cw_314 ad pr N cI cR L1 L2 u56 ((u56.1 0 314) - (1 : Int32))) hP
    have hD := cD_ (cw_314 ad pr N cI cR L1 L2 u56 ((u56.1 0 314) - (1 : Int32))) hD
    refine lv_aload_n hx hb dX2_changeBy_76 rfl (lv_at hl 1 rfl) ?_
    refine va_get (D := (dC, dI)) (ci := 6) (fs := oF_X2 ad pr (wA u56 0 314 ((u56.1 0 314) - (1 : Int32)))) (v := .ref (ad 901)) (C := RX2) (T := TX2) (N := 5) hx hb ht itX2 hown hK hP 2 rfl rfl 1 (by decide) (ht _ tw_498) (fun _ h9 => h9) rfl dX2_changeBy_77 ?_
    refine lv_bipush (v := 20) hx hb dX2_changeBy_80 (by decide) ?_
    refine lv_iload_n hx hb dX2_changeBy_82 rfl (lv_at hl 2 rfl) ?_
    refine lv_iload hx hb dX2_changeBy_83 (lv_at hl 0 rfl) ?_
    refine cu_v (rn_Vk (n := 3) (As := [.int 20, .int pa, .int r40]) (rest := []) hx hb hml hown ht hKK hFx hP hD hS hA (c_x_X1_add l dC dI cI cB cZ cJ cR tb H.size ad pr N L1 L2 (wA u56 0 314 ((u56.1 0 314) - (1 : Int32))) (20 : Int32) pa r40 ps (show 0 ≤ (u56.1 0 381).toInt ∧ (u56.1 0 381).toInt ≤ 3008 from (om_e78eec72e1 i38155)) (show pr ps = ad 908 from hps) (show (u56.1 0 310) = ps from (Eq.trans (fr55.2.1 310 (by decide)) (Eq.trans (fr41.2.1 310 (by decide)) (Eq.trans (fr34.2.1 310 (by decide)) es310))))) tw_499 tw_500 (by decide +kernel) rfl rfl ⟨show 0 + 1 ≤ 8 * n + 21 from om_a43f662a07, show 8 + (5 + 11) + 0 ≤ 28 * (8 * n + 21) from om_78af4e5b79⟩ (List.range (cW ad pr N cI cR L1 L2 (wA u56 0 314 ((u56.1 0 314) - (1 : Int32)))).length) (rg_map _) (nd_range _) 1 rfl rfl rfl rfl hl.1 rfl (Nat.le_of_ble_eq_true rfl) dX2_changeBy_85 ⟨Nat.le_of_ble_eq_true rfl, Nat.le_of_ble_eq_true rfl⟩) hP hD hS hA (fun u59 H locs hw58 hP hD hS => ?_)
    obtain ⟨fr58, i38158⟩ := hw58
    have i38158 : 0 ≤ (u59.1 0 381).toInt ∧ (u59.1 0 381).toInt ≤ 3008 := i38158
    refine W.widen (k := 0) (n := 0) (Nat.le_refl _) (Nat.le_refl _) ?_
    have q61 : (u59.1 0 306).toInt = (u56.1 0 306).toInt := congrArg Int32.toInt ((fr58.2.1 306 (by decide)).trans (show (wA u56 0 314 ((u56.1 0 314) - (1 : Int32))).1 0 306 = (u56.1 0 306) by rfl))
    have q62 : (u59.1 0 321).toInt = (u56.1 0 321).toInt := congrArg Int32.toInt ((fr58.2.1 321 (by decide)).trans (show (wA u56 0 314 ((u56.1 0 314) - (1 : Int32))).1 0 321 = (u56.1 0 321) by rfl))
    have q63 : (u59.1 0 326).toInt = (u56.1 0 326).toInt := congrArg Int32.toInt ((fr58.2.1 326 (by decide)).trans (show (wA u56 0 314 ((u56.1 0 314) - (1 : Int32))).1 0 326 = (u56.1 0 326) by rfl))
    refine W.sz (fun hz => ?_)
    refine vx_ret ?_
    refine W.widen (k := 1) (n := 6) (Nat.le_of_ble_eq_true rfl) (Nat.le_of_ble_eq_true rfl) ?_
    exact W.vret hx hb hr (fun t ht9 hW => ⟨⟨u59, rfl, ⟨(FC.tr (FC.f (FC.tr (FC.f (FC.tr (FC.tr (FC.rf _) (FC.up fr34 (by decide) (by decide))) (FC.up fr41 (by decide) (by decide))) ((u42.1 0 314) + (1 : Int32)) (by decide)) (FC.up fr55 (by decide) (by decide))) ((u56.1 0 314) - (1 : Int32)) (by decide)) (FC.up fr58 (by decide) (by decide))), (show 0 ≤ (u59.1 0 306).toInt ∧ (u59.1 0 306).toInt ≤ 40 from (om_99e115f631 i30655 q61)), (show 0 ≤ (u59.1 0 321).toInt ∧ (u59.1 0 321).toInt ≤ 501 from (om_ff27494c0e i32155 q62)), (show 0 ≤ (u59.1 0 326).toInt ∧ (u59.1 0 326).toInt ≤ 420 from (om_8ed0dedb19 i32655 q63)), (show 0 ≤ (u59.1 0 381).toInt ∧ (u59.1 0 381).toInt ≤ 3008 from (om_e78eec72e1 i38158)), (show (u59.1 0 306).toInt = (v.1 0 306).toInt from (om_42b828193d q46 q47 po55 q61))⟩, ⟨by rw [ht9]; exact hP, hD⟩, by rw [ht9]; exact hz⟩, hS.F ht9⟩) hS.2.2 dX2_changeBy_88
theorem om_2d92e09058 {n0 : Nat} : 0 + 1 ≤ 8 * n0 + 14 := by omega
theorem om_289622e6d2 {n0 : Nat} : 8 + (1 + 11) + 0 ≤ 28 * (8 * n0 + 14) := by omega
theorem om_46126d3ba0 {n0 : Nat} : 7 + 1 ≤ 8 * n0 + 14 := by omega
theorem om_6017b980b8 {n0 : Nat} : 8 + (1 + 11) + 104 ≤ 28 * (8 * n0 + 14) := by omega
theorem om_f68798533e {n0 : Nat} : 8 + (5 + 11) + 0 ≤ 28 * (8 * n0 + 14) := by omega
theorem om_73f0efed2d {x0 x2 x3 x4 : Int} {n1 : Nat} (h0 : 40 ≤ x0 + (n1 : Int)) (h1 : x2 = x0) (h2 : x3 = x2) (h3 : 0 ≤ x4 ∧ x4 ≤ 40) (h4 : x4 = x3 + 1) : 1 ≤ (n1 : Int) := by omega
theorem om_8044691ca6 {x0 x1 x2 x3 x4 : Int} (h0 : 0 ≤ x0 ∧ x0 ≤ 1503) (h1 : x1 = x0) (h2 : x2 = x1) (h3 : x3 = x2) (h4 : x4 = x3) : 0 ≤ x4 ∧ x4 ≤ 1503 := by omega
theorem om_404ac90bf6 {x0 x1 x2 x3 x4 : Int} (h0 : 0 ≤ x0 ∧ x0 ≤ 501) (h1 : x1 = x0) (h2 : x2 = x1) (h3 : x3 = x2) (h4 : x4 = x3) : 0 ≤ x4 ∧ x4 ≤ 501 := by omega
theorem om_73f5be2f84 {x0 x1 x2 x3 x4 : Int} (h0 : 0 ≤ x0 ∧ x0 ≤ 420) (h1 : x1 = x0) (h2 : x2 = x1) (h3 : x3 = x2) (h4 : x4 = x3) : 0 ≤ x4 ∧ x4 ≤ 420 := by omega
theorem om_fdcbb58227 {x0 x1 x2 x3 x4 : Int} (h0 : 0 ≤ x0 ∧ x0 ≤ 4000) (h1 : x1 = x0) (h2 : x2 = x1) (h3 : x3 = x2) (h4 : x4 = x3) : 0 ≤ x4 ∧ x4 ≤ 4000 := by omega
theorem om_99b762d8f4 {x0 x2 x3 x4 x5 : Int} {n1 n6 : Nat} (h0 : 40 ≤ x0 + (n1 : Int)) (h1 : x2 = x0) (h2 : x3 = x2) (h3 : x4 = x3 + 1) (h4 : x5 = x4) (h5 : n1 = n6 + 1) : 40 ≤ x5 + (n6 : Int) := by omega
theorem om_74f46d92b7 {n0 n1 : Nat} (h0 : n0 = n1 + 1) : (8 * n1 + 20) + 1 ≤ 8 * n0 + 14 := by omega
theorem om_a843c7c5cc {n0 n1 : Nat} (h0 : n0 = n1 + 1) : 8 + (5 + 11) + 28 * (8 * n1 + 20) ≤ 28 * (8 * n0 + 14) := by omega
theorem om_303b0e9f26 {x0 x1 x2 x3 x4 x5 : Int} (h0 : 0 ≤ x0 ∧ x0 ≤ 1503) (h1 : x1 = x0) (h2 : x2 = x1) (h3 : x3 = x2) (h4 : x4 = x3) (h5 : x5 = x4) : 0 ≤ x5 ∧ x5 ≤ 1503 := by omega
theorem om_d59e6e0f1e {x0 x1 x2 x3 x4 x5 : Int} (h0 : 0 ≤ x0 ∧ x0 ≤ 4000) (h1 : x1 = x0) (h2 : x2 = x1) (h3 : x3 = x2) (h4 : x4 = x3) (h5 : x5 = x4) : 0 ≤ x5 ∧ x5 ≤ 4000 := by omega
theorem om_2d7c913608 {n0 : Nat} : 8 + (2 + 11) + 104 ≤ 28 * (8 * n0 + 14) := by omega
theorem om_e2ebc40cf4 {n0 : Nat} : 8 + (2 + 11) + 0 ≤ 28 * (8 * n0 + 14) := by omega
theorem om_003b4c170d {x0 x1 x2 x3 x4 x5 x6 x7 x8 : Int} (h0 : 0 ≤ x0 ∧ x0 ≤ 1503) (h1 : x1 = x0) (h2 : x2 = x1) (h3 : x3 = x2) (h4 : x4 = x3) (h5 : x5 = x4) (h6 : x6 = x5) (h7 : x7 = x6) (h8 : x8 = x7) : 0 ≤ x8 ∧ x8 ≤ 1503 := by omega
theorem om_d466fad2f2 {x0 x1 x2 x3 x4 x5 x6 x7 x8 : Int} (h0 : 0 ≤ x0 ∧ x0 ≤ 500) (h1 : x1 = x0) (h2 : x2 = x1) (h3 : x3 = x2) (h4 : x4 = x3) (h5 : x5 = x4) (h6 : x6 = x5) (h7 : x7 = x6) (h8 : x8 = x7) : 0 ≤ x8 ∧ x8 ≤ 500 := by omega
theorem om_40c7802ef9 {x0 x1 x2 x3 x4 x5 x6 x7 x8 : Int} (h0 : 0 ≤ x0 ∧ x0 ≤ 4000) (h1 : x1 = x0) (h2 : x2 = x1) (h3 : x3 = x2) (h4 : x4 = x3) (h5 : x5 = x4) (h6 : x6 = x5) (h7 : x7 = x6) (h8 : x8 = x7) : 0 ≤ x8 ∧ x8 ≤ 4000 := by omega
theorem om_939fe17646 {x0 x2 x3 x4 x5 x6 x7 x8 x9 : Int} {n1 n10 : Nat} (h0 : 40 ≤ x0 + (n1 : Int)) (h1 : x2 = x0) (h2 : x3 = x2) (h3 : x4 = x3 + 1) (h4 : x5 = x4) (h5 : x6 = x5) (h6 : x7 = x6) (h7 : x8 = x7) (h8 : x9 = x8) (h9 : n1 = n10 + 1) : 40 ≤ x9 + (n10 : Int) := by omega
theorem om_5eb67ef455 {x0 x1 x2 x3 x4 x5 x6 x7 x8 x9 x10 : Int} (h0 : 0 ≤ x0 ∧ x0 ≤ 40) (h1 : x1 = x0) (h2 : x2 = x1) (h3 : x3 = x2 + 1) (h4 : x4 = x3) (h5 : x5 = x4) (h6 : x6 = x5) (h7 : x7 = x6) (h8 : x8 = x7) (h9 : x9 = x8) (h10 : x10 = x9) : 1 ≤ x10 := by omega
theorem om_33d142c5bd {x0 x1 x2 x3 x4 x5 x6 x7 x8 x9 x10 x11 : Int} (h0 : x0 = x1) (h1 : x2 = x0) (h2 : x3 = x2 + 1) (h3 : x4 = x3) (h4 : x5 = x4) (h5 : x6 = x5) (h6 : x7 = x6) (h7 : x8 = x7) (h8 : x9 = x8) (h9 : x10 = x9) (h10 : x11 = x10 - 1) : x11 = x1 := by omega
set_option maxHeartbeats 16000000 in
set_option maxRecDepth 100000 in
theorem c_x_X2_choice (l : Launch) (n : Nat) (ihE : ∀ m, n = m + 1 → Cq_expression l m) (dC : Nat → ClassId) (dI : Nat → Nat → Nat) (cI cB cZ cJ cR : ClassId) (tb : Nat → Nat) (sz : Nat) (ad : Nat → Nat) (pr : Int32 → Nat) (N : Nat) (L1 L2 : List Nat) (v : MS) (ps : Int32) (z304 : 0 ≤ (v.1 0 304).toInt ∧ (v.1 0 304).toInt ≤ 1503) (z306 : 0 ≤ (v.1 0 306).toInt ∧ (v.1 0 306).toInt ≤ 40) (z312 : 0 ≤ (v.1 0 312).toInt ∧ (v.1 0 312).toInt ≤ 500) (z321 : 0 ≤ (v.1 0 321).toInt ∧ (v.1 0 321).toInt ≤ 501) (z326 : 0 ≤ (v.1 0 326).toInt ∧ (v.1 0 326).toInt ≤ 420) (z373 : 0 ≤ (v.1 0 373).toInt ∧ (v.1 0 373).toInt ≤ 4000) (z381 : 0 ≤ (v.1 0 381).toInt ∧ (v.1 0 381).toInt ≤ 3008) (hL1 : L1.length = 40) (hL2 : L2.length = 60) (rp : RP v) (hps : pr ps = ad 908) (es300 : (v.1 0 300) = ps) (es310 : (v.1 0 310) = ps) (hst : l.stackTraces = false) (zn : 40 ≤ (v.1 0 306).toInt + (n : Int)) : vx_Met l yX2_choice (Cond.code yX2_choice cX2_choice 3 none :: tw_W) ({ frames := 8 * n + 14, cells := 1, slots := 6, locals := 28 * (8 * n + 14) }) (pc_ (dC, dI) (tyS cI cB cZ cJ cR) tb (cW ad pr N cI cR L1 L2 v) sz [.ref (ad 902)]) (qvz_ (dC, dI) (cW ad pr N cI cR L1 L2 v) sz (fun (u : MS) => FC [305, 306, 307, 314, 315, 317, 321, 326, 381] [0, 316, 318, 319, 320, 324, 325, 378, 379, 380] v u ∧ (0 ≤ (u.1 0 306).toInt ∧ (u.1 0 306).toInt ≤ 40) ∧ (0 ≤ (u.1 0 321).toInt ∧ (u.1 0 321).toInt ≤ 501) ∧ (0 ≤ (u.1 0 326).toInt ∧ (u.1 0 326).toInt ≤ 420) ∧ (0 ≤ (u.1 0 381).toInt ∧ (u.1 0 381).toInt ≤ 3008) ∧ ((u.1 0 306).toInt = (v.1 0 306).toInt)) (fun (u : MS) => (cW ad pr N cI cR L1 L2 u))) (qxc (dC, dI) (cW ad pr N cI cR L1 L2 v) sz (fun (u : MS) => (cW ad pr N cI cR L1 L2 u)) (fun (u : MS) => FC xfl xal v u ∧ (u.1 0 308).toInt ≠ 0)) 1 6 (va_A (cW ad pr N cI cR L1 L2 v) sz) := by
  refine vx_ofW (cc := cX2_choice) (maxL := 3) (ret := none) (by decide) rfl ?_
  intro p e s m args below meth c s₁ B hml hnt hv
  obtain ⟨rfl, hsz, hP, hKK, hD0, hFx⟩ := hv
  have hK := hKK.1
  have hx := B.exec
  have hb := B.bytes
  have hr := B.returns
  have ht : ∀ w ∈ tw_W, w.before _ s = true := fun w h => atoms_spec (ws := Cond.code yX2_choice cX2_choice 3 none :: tw_W) B.pre w (List.mem_cons_of_mem _ h)
  have hown : s.vm.findClass RX2 = some m.cls := findClass_of_methodNamed B.named
  have hlocks := B.notSynchronized
  subst hsz
  unfold qvz_ qxc
  have hD := hD0.self (sz := s.heap.size)
  generalize hAe : va_A (cW ad pr N cI cR L1 L2 v) s.heap.size = A at hD hFx ⊢
  have hA : ∀ q : Nat, s.heap.size ≤ q → A q := fun q h => by rw [← hAe]; exact Or.inr h
  have hS : va_S A s.heap s.heap [] := va_S.rf
  have hl := lv_entry ([.ref (ad 902)]) (n := 3) (Nat.le_of_ble_eq_true rfl)
  rw [lg_entry_eq]
  generalize (lg_sl ([.ref (ad 902)]) ++ List.replicate (3 - (lg_sl ([.ref (ad 902)])).length) Slot.unset).toArray = ls at hl ⊢
  have hl : lv_has ls 3 [(0, .ref (ad 902))] := hl
  refine lv_aload_n hx hb dX2_choice_0 rfl (lv_at hl 0 rfl) ?_
  refine va_get (D := (dC, dI)) (ci := 6) (fs := oF_X2 ad pr v) (v := .ref (ad 901)) (C := RX2) (T := TX2) (N := 5) hx hb ht itX2 hown hK hP 2 rfl rfl 1 (by decide) (ht _ tw_498) (fun _ h9 => h9) rfl dX2_choice_1 ?_
  refine cu_i (rn_Vk (n := 0) (As := []) (rest := []) hx hb hml hown ht hKK hFx hP hD hS hA (c_x_X1_newLabel l dC dI cI cB cZ cJ cR tb s.heap.size ad pr N L1 L2 v  ) tw_501 tw_502 (by decide +kernel) rfl rfl ⟨show 0 + 1 ≤ 8 * n + 14 from om_2d92e09058, show 8 + (1 + 11) + 0 ≤ 28 * (8 * n + 14) from om_289622e6d2⟩ (List.range (cW ad pr N cI cR L1 L2 v).length) (rg_map _) (nd_range _) 1 rfl rfl rfl rfl hl.1 rfl (Nat.le_of_ble_eq_true rfl) dX2_choice_4 ⟨Nat.le_of_ble_eq_true rfl, Nat.le_of_ble_eq_true rfl⟩) hP hD hS hA (fun r3 u2 H locs hw1 hP hD hS => ?_)
  have fr1 := hw1
  refine W.widen (k := 0) (n := 0) (Nat.le_refl _) (Nat.le_refl _) ?_
  refine lv_istore_n (lv' := [(1, .int r3), (0, .ref (ad 902))]) hx hb dX2_choice_7 rfl hl (by decide) rfl (fun ls hl => ?_)
  refine lv_aload_n hx hb dX2_choice_8 rfl (lv_at hl 1 rfl) ?_
  refine va_get (D := (dC, dI)) (ci := 6) (fs := oF_X2 ad pr u2) (v := .ref (ad 901)) (C := RX2) (T := TX2) (N := 5) hx hb ht itX2 hown hK hP 2 rfl rfl 1 (by decide) (ht _ tw_498) (fun _ h9 => h9) rfl dX2_choice_9 ?_
  refine cu_i (rn_Vk (n := 0) (As := []) (rest := []) hx hb hml hown ht hKK hFx hP hD hS hA (c_x_X1_newLabel l dC dI cI cB cZ cJ cR tb H.size ad pr N L1 L2 u2  ) tw_501 tw_502 (by decide +kernel) rfl rfl ⟨show 0 + 1 ≤ 8 * n + 14 from om_2d92e09058, show 8 + (1 + 11) + 0 ≤ 28 * (8 * n + 14) from om_289622e6d2⟩ (List.range (cW ad pr N cI cR L1 L2 u2).length) (rg_map _) (nd_range _) 1 rfl rfl rfl rfl hl.1 rfl (Nat.le_of_ble_eq_true rfl) dX2_choice_12 ⟨Nat.le_of_ble_eq_true rfl, Nat.le_of_ble_eq_true rfl⟩) hP hD hS hA (fun r6 u5 H locs hw4 hP hD hS => ?_)
  have fr4 := hw4
  refine W.widen (k := 0) (n := 0) (Nat.le_refl _) (Nat.le_refl _) ?_
  refine lv_istore_n (lv' := [(2, .int r6), (1, .int r3), (0, .ref (ad 902))]) hx hb dX2_choice_15 rfl hl (by decide) rfl (fun ls hl => ?_)
  refine lv_aload_n hx hb dX2_choice_16 rfl (lv_at hl 2 rfl) ?_
  refine va_get (D := (dC, dI)) (ci := 6) (fs := oF_X2 ad pr u5) (v := .ref (ad 900)) (C := RX2) (T := TX2) (N := 5) hx hb ht itX2 hown hK hP 2 rfl rfl 0 (by decide) (ht _ tw_509) (fun _ h9 => h9) rfl dX2_choice_17 ?_
  have q7 : (u2.1 0 304).toInt = (v.1 0 304).toInt := congrArg Int32.toInt ((fr1.2.1 304 (by decide)).trans (show v.1 0 304 = (v.1 0 304) by rfl))
  have q8 : (u5.1 0 304).toInt = (u2.1 0 304).toInt := congrArg Int32.toInt ((fr4.2.1 304 (by decide)).trans (show u2.1 0 304 = (u2.1 0 304) by rfl))
  have q9 : (u2.1 0 306).toInt = (v.1 0 306).toInt := congrArg Int32.toInt ((fr1.2.1 306 (by decide)).trans (show v.1 0 306 = (v.1 0 306) by rfl))
  have q10 : (u5.1 0 306).toInt = (u2.1 0 306).toInt := congrArg Int32.toInt ((fr4.2.1 306 (by decide)).trans (show u2.1 0 306 = (u2.1 0 306) by rfl))
  have q11 : (u2.1 0 373).toInt = (v.1 0 373).toInt := congrArg Int32.toInt ((fr1.2.1 373 (by decide)).trans (show v.1 0 373 = (v.1 0 373) by rfl))
  have q12 : (u5.1 0 373).toInt = (u2.1 0 373).toInt := congrArg Int32.toInt ((fr4.2.1 373 (by decide)).trans (show u2.1 0 373 = (u2.1 0 373) by rfl))
  refine W.sz (fun hz9 => ?_)
  refine czx_v (rx_Vk (n := 0) (As := []) (rest := []) hx hb hml hown ht hKK hFx hP hD hS hA (c_x_X9_open l dC dI cI cB cZ cJ cR tb H.size ad pr N L1 L2 u5 ps (show 0 ≤ (u5.1 0 304).toInt ∧ (u5.1 0 304).toInt ≤ 1503 from (om_dd87ee851a z304 q7 q8)) (show 0 ≤ (u5.1 0 306).toInt ∧ (u5.1 0 306).toInt ≤ 40 from (om_68f540929a z306 q9 q10)) (show 0 ≤ (u5.1 0 373).toInt ∧ (u5.1 0 373).toInt ≤ 4000 from (om_03cd8767ac z373 q11 q12)) (show pr ps = ad 908 from hps) (show (u5.1 0 300) = ps from (Eq.trans (fr4.2.1 300 (by decide)) (Eq.trans (fr1.2.1 300 (by decide)) es300))) (show l.stackTraces = false from hst)) tw_524 tw_525 (by decide +kernel) rfl rfl ⟨show 7 + 1 ≤ 8 * n + 14 from om_46126d3ba0, show 8 + (1 + 11) + 104 ≤ 28 * (8 * n + 14) from om_6017b980b8⟩ (List.range (cW ad pr N cI cR L1 L2 u5).length) (rg_map _) (nd_range _) 0 rfl rfl rfl rfl hl.1 rfl (Nat.le_of_ble_eq_true rfl) dX2_choice_20 ⟨Nat.le_of_ble_eq_true rfl, Nat.le_of_ble_eq_true rfl⟩) hP hD hS hA (fun u9 ce9 q9 H locs hx9 hP hD hS hc9 hv9 hf9 => ?_) (fun u14 H locs hw13 hP hD hS hz8 => ?_)
  · exact vx_out (fun x h9 => (hnt x h9).elim) hlocks hc9 hv9 hf9 (fun t9 ht9 hv8 => ⟨u9, ⟨FC.tr (FC.tr (FC.tr (FC.rf _) (FC.up fr1 (by decide) (by decide))) (FC.up fr4 (by decide) (by decide))) hx9.1, hx9.2⟩, ⟨rfl, by rw [ht9]; exact hP, hD⟩, hS.F ht9⟩) hS.2.2 (Nat.le_refl _) (Nat.le_refl _)
  refine W.shrink (hz8.trans hz9) ?_
  obtain ⟨fr13, i30613, pj13⟩ := hw13
  have i30613 : 0 ≤ (u14.1 0 306).toInt ∧ (u14.1 0 306).toInt ≤ 40 := i30613
  have pj13 : (u14.1 0 306).toInt = (u5.1 0 306).toInt + 1 := pj13
  refine lv_aload_n hx hb dX2_choice_23 rfl (lv_at hl 2 rfl) ?_
  refine va_get (D := (dC, dI)) (ci := 6) (fs := oF_X2 ad pr u14) (v := .ref (ad 901)) (C := RX2) (T := TX2) (N := 5) hx hb ht itX2 hown hK hP 2 rfl rfl 1 (by decide) (ht _ tw_498) (fun _ h9 => h9) rfl dX2_choice_24 ?_
  refine lv_bipush (v := 16) hx hb dX2_choice_27 (by decide) ?_
  refine lv_iload_n hx hb dX2_choice_29 rfl (lv_at hl 1 rfl) ?_
  refine lv_iconst (v := 0) hx hb dX2_choice_30 (by decide) ?_
  have q16 : (u2.1 0 381).toInt = (v.1 0 381).toInt := congrArg Int32.toInt ((fr1.2.1 381 (by decide)).trans (show v.1 0 381 = (v.1 0 381) by rfl))
  have q17 : (u5.1 0 381).toInt = (u2.1 0 381).toInt := congrArg Int32.toInt ((fr4.2.1 381 (by decide)).trans (show u2.1 0 381 = (u2.1 0 381) by rfl))
  have q18 : (u14.1 0 381).toInt = (u5.1 0 381).toInt := congrArg Int32.toInt ((fr13.2.1 381 (by decide)).trans (show u5.1 0 381 = (u5.1 0 381) by rfl))
  refine cu_v (rn_Vk (n := 3) (As := [.int 16, .int r3, .int 0]) (rest := []) hx hb hml hown ht hKK hFx hP hD hS hA (c_x_X1_add l dC dI cI cB cZ cJ cR tb H.size ad pr N L1 L2 u14 (16 : Int32) r3 (0 : Int32) ps (show 0 ≤ (u14.1 0 381).toInt ∧ (u14.1 0 381).toInt ≤ 3008 from (om_f27686c115 z381 q16 q17 q18)) (show pr ps = ad 908 from hps) (show (u14.1 0 310) = ps from (Eq.trans (fr13.2.1 310 (by decide)) (Eq.trans (fr4.2.1 310 (by decide)) (Eq.trans (fr1.2.1 310 (by decide)) es310))))) tw_499 tw_500 (by decide +kernel) rfl rfl ⟨show 0 + 1 ≤ 8 * n + 14 from om_2d92e09058, show 8 + (5 + 11) + 0 ≤ 28 * (8 * n + 14) from om_f68798533e⟩ (List.range (cW ad pr N cI cR L1 L2 u14).length) (rg_map _) (nd_range _) 1 rfl rfl rfl rfl hl.1 rfl (Nat.le_of_ble_eq_true rfl) dX2_choice_31 ⟨Nat.le_of_ble_eq_true rfl, Nat.le_of_ble_eq_true rfl⟩) hP hD hS hA (fun u20 H locs hw19 hP hD hS => ?_)
  obtain ⟨fr19, i38119⟩ := hw19
  have i38119 : 0 ≤ (u20.1 0 381).toInt ∧ (u20.1 0 381).toInt ≤ 3008 := i38119
  refine W.widen (k := 0) (n := 0) (Nat.le_refl _) (Nat.le_refl _) ?_
  refine lv_aload_n hx hb dX2_choice_34 rfl (lv_at hl 2 rfl) ?_
  refine lv_iconst (v := 1) hx hb dX2_choice_35 (by decide) ?_
  obtain ⟨n22, hn23⟩ : ∃ m, n = m + 1 := ex_z (om_73f0efed2d zn q9 q10 i30613 pj13)
  have q24 : (u14.1 0 304).toInt = (u5.1 0 304).toInt := congrArg Int32.toInt ((fr13.2.1 304 (by decide)).trans (show u5.1 0 304 = (u5.1 0 304) by rfl))
  have q25 : (u20.1 0 304).toInt = (u14.1 0 304).toInt := congrArg Int32.toInt ((fr19.2.1 304 (by decide)).trans (show u14.1 0 304 = (u14.1 0 304) by rfl))
  have q26 : (u20.1 0 306).toInt = (u14.1 0 306).toInt := congrArg Int32.toInt ((fr19.2.1 306 (by decide)).trans (show u14.1 0 306 = (u14.1 0 306) by rfl))
  have q27 : (u2.1 0 312).toInt = (v.1 0 312).toInt := congrArg Int32.toInt ((fr1.2.1 312 (by decide)).trans (show v.1 0 312 = (v.1 0 312) by rfl))
  have q28 : (u5.1 0 312).toInt = (u2.1 0 312).toInt := congrArg Int32.toInt ((fr4.2.1 312 (by decide)).trans (show u2.1 0 312 = (u2.1 0 312) by rfl))
  have q29 : (u14.1 0 312).toInt = (u5.1 0 312).toInt := congrArg Int32.toInt ((fr13.2.1 312 (by decide)).trans (show u5.1 0 312 = (u5.1 0 312) by rfl))
  have q30 : (u20.1 0 312).toInt = (u14.1 0 312).toInt := congrArg Int32.toInt ((fr19.2.1 312 (by decide)).trans (show u14.1 0 312 = (u14.1 0 312) by rfl))
  have q31 : (u2.1 0 321).toInt = (v.1 0 321).toInt := congrArg Int32.toInt ((fr1.2.1 321 (by decide)).trans (show v.1 0 321 = (v.1 0 321) by rfl))
  have q32 : (u5.1 0 321).toInt = (u2.1 0 321).toInt := congrArg Int32.toInt ((fr4.2.1 321 (by decide)).trans (show u2.1 0 321 = (u2.1 0 321) by rfl))
  have q33 : (u14.1 0 321).toInt = (u5.1 0 321).toInt := congrArg Int32.toInt ((fr13.2.1 321 (by decide)).trans (show u5.1 0 321 = (u5.1 0 321) by rfl))
  have q34 : (u20.1 0 321).toInt = (u14.1 0 321).toInt := congrArg Int32.toInt ((fr19.2.1 321 (by decide)).trans (show u14.1 0 321 = (u14.1 0 321) by rfl))
  have q35 : (u2.1 0 326).toInt = (v.1 0 326).toInt := congrArg Int32.toInt ((fr1.2.1 326 (by decide)).trans (show v.1 0 326 = (v.1 0 326) by rfl))
  have q36 : (u5.1 0 326).toInt = (u2.1 0 326).toInt := congrArg Int32.toInt ((fr4.2.1 326 (by decide)).trans (show u2.1 0 326 = (u2.1 0 326) by rfl))
  have q37 : (u14.1 0 326).toInt = (u5.1 0 326).toInt := congrArg Int32.toInt ((fr13.2.1 326 (by decide)).trans (show u5.1 0 326 = (u5.1 0 326) by rfl))
  have q38 : (u20.1 0 326).toInt = (u14.1 0 326).toInt := congrArg Int32.toInt ((fr19.2.1 326 (by decide)).trans (show u14.1 0 326 = (u14.1 0 326) by rfl))
  have q39 : (u14.1 0 373).toInt = (u5.1 0 373).toInt := congrArg Int32.toInt ((fr13.2.1 373 (by decide)).trans (show u5.1 0 373 = (u5.1 0 373) by rfl))
  have q40 : (u20.1 0 373).toInt = (u14.1 0 373).toInt := congrArg Int32.toInt ((fr19.2.1 373 (by decide)).trans (show u14.1 0 373 = (u14.1 0 373) by rfl))
  refine W.sz (fun hz9 => ?_)
  refine czx_v (rx_Vk (n := 1) (As := [.int 1]) (rest := []) hx hb hml hown ht hKK hFx hP hD hS hA (ihE n22 hn23 dC dI cI cB cZ cJ cR tb H.size ad pr N L1 L2 u20 (1 : Int32) ps (show 0 ≤ (u20.1 0 304).toInt ∧ (u20.1 0 304).toInt ≤ 1503 from (om_8044691ca6 z304 q7 q8 q24 q25)) (show 0 ≤ (u20.1 0 306).toInt ∧ (u20.1 0 306).toInt ≤ 40 from (om_99e115f631 i30613 q26)) (show 0 ≤ (u20.1 0 312).toInt ∧ (u20.1 0 312).toInt ≤ 500 from (om_31e0c91fb9 z312 q27 q28 q29 q30)) (show 0 ≤ (u20.1 0 321).toInt ∧ (u20.1 0 321).toInt ≤ 501 from (om_404ac90bf6 z321 q31 q32 q33 q34)) (show 0 ≤ (u20.1 0 326).toInt ∧ (u20.1 0 326).toInt ≤ 420 from (om_73f5be2f84 z326 q35 q36 q37 q38)) (show 0 ≤ (u20.1 0 373).toInt ∧ (u20.1 0 373).toInt ≤ 4000 from (om_fdcbb58227 z373 q11 q12 q39 q40)) (show 0 ≤ (u20.1 0 381).toInt ∧ (u20.1 0 381).toInt ≤ 3008 from (om_e78eec72e1 i38119)) (show L1.length = 40 from hL1) (show L2.length = 60 from hL2) (show RP u20 from ((show FC [305, 306, 307, 314, 315, 317, 321, 326, 381] [0, 316, 318, 319, 320, 324, 325, 378, 379, 380] v u20 from (FC.tr (FC.tr (FC.tr (FC.tr (FC.rf _) (FC.up fr1 (by decide) (by decide))) (FC.up fr4 (by decide) (by decide))) (FC.up fr13 (by decide) (by decide))) (FC.up fr19 (by decide) (by decide)))).1 rp)) (show pr ps = ad 908 from hps) (show (u20.1 0 300) = ps from (Eq.trans (fr19.2.1 300 (by decide)) (Eq.trans (fr13.2.1 300 (by decide)) (Eq.trans (fr4.2.1 300 (by decide)) (Eq.trans (fr1.2.1 300 (by decide)) es300))))) (show (u20.1 0 310) = ps from (Eq.trans (fr19.2.1 310 (by decide)) (Eq.trans (fr13.2.1 310 (by decide)) (Eq.trans (fr4.2.1 310 (by decide)) (Eq.trans (fr1.2.1 310 (by decide)) es310))))) (show l.stackTraces = false from hst) (show 40 ≤ (u20.1 0 306).toInt + (n22 : Int) from (om_99b762d8f4 zn q9 q10 pj13 q26 hn23))) tw_520 tw_521 (by decide +kernel) rfl rfl ⟨show (8 * n22 + 20) + 1 ≤ 8 * n + 14 from (om_74f46d92b7 hn23), show 8 + (5 + 11) + 28 * (8 * n22 + 20) ≤ 28 * (8 * n + 14) from (om_a843c7c5cc hn23)⟩ (List.range (cW ad pr N cI cR L1 L2 u20).length) (rg_map _) (nd_range _) 2 rfl rfl rfl rfl hl.1 rfl (Nat.le_of_ble_eq_true rfl) dX2_choice_36 ⟨Nat.le_of_ble_eq_true rfl, Nat.le_of_ble_eq_true rfl⟩) hP hD hS hA (fun u9 ce9 q9 H locs hx9 hP hD hS hc9 hv9 hf9 => ?_) (fun u42 H locs hw41 hP hD hS hz8 => ?_)
  · exact vx_out (fun x h9 => (hnt x h9).elim) hlocks hc9 hv9 hf9 (fun t9 ht9 hv8 => ⟨u9, ⟨FC.tr (FC.tr (FC.tr (FC.tr (FC.tr (FC.rf _) (FC.up fr1 (by decide) (by decide))) (FC.up fr4 (by decide) (by decide))) (FC.up fr13 (by decide) (by decide))) (FC.up fr19 (by decide) (by decide))) hx9.1, hx9.2⟩, ⟨rfl, by rw [ht9]; exact hP, hD⟩, hS.F ht9⟩) hS.2.2 (Nat.le_refl _) (Nat.le_refl _)
  refine W.shrink (hz8.trans hz9) ?_
  obtain ⟨fr41, i30641, i32141, i32641, i38141, po41⟩ := hw41
  have i30641 : 0 ≤ (u42.1 0 306).toInt ∧ (u42.1 0 306).toInt ≤ 40 := i30641
  have i32141 : 0 ≤ (u42.1 0 321).toInt ∧ (u42.1 0 321).toInt ≤ 501 := i32141
  have i32641 : 0 ≤ (u42.1 0 326).toInt ∧ (u42.1 0 326).toInt ≤ 420 := i32641
  have i38141 : 0 ≤ (u42.1 0 381).toInt ∧ (u42.1 0 381).toInt ≤ 3008 := i38141
  have po41 : (u42.1 0 306).toInt = (u20.1 0 306).toInt := po41
  refine lv_aload_n hx hb dX2_choice_39 rfl (lv_at hl 2 rfl) ?_
  refine va_get (D := (dC, dI)) (ci := 6) (fs := oF_X2 ad pr u42) (v := .ref (ad 900)) (C := RX2) (T := TX2) (N := 5) hx hb ht itX2 hown hK hP 2 rfl rfl 0 (by decide) (ht _ tw_509) (fun _ h9 => h9) rfl dX2_choice_40 ?_
  refine lv_bipush (v := 39) hx hb dX2_choice_43 (by decide) ?_
  have q44 : (u42.1 0 304).toInt = (u20.1 0 304).toInt := congrArg Int32.toInt ((fr41.2.1 304 (by decide)).trans (show u20.1 0 304 = (u20.1 0 304) by rfl))
  have q45 : (u42.1 0 373).toInt = (u20.1 0 373).toInt := congrArg Int32.toInt ((fr41.2.1 373 (by decide)).trans (show u20.1 0 373 = (u20.1 0 373) by rfl))
  refine W.sz (fun hz9 => ?_)
  refine czx_v (rx_Vk (n := 1) (As := [.int 39]) (rest := []) hx hb hml hown ht hKK hFx hP hD hS hA (c_x_X9_expect l dC dI cI cB cZ cJ cR tb H.size ad pr N L1 L2 u42 (39 : Int32) ps (show 0 ≤ (u42.1 0 304).toInt ∧ (u42.1 0 304).toInt ≤ 1503 from (om_303b0e9f26 z304 q7 q8 q24 q25 q44)) (show 0 ≤ (u42.1 0 373).toInt ∧ (u42.1 0 373).toInt ≤ 4000 from (om_d59e6e0f1e z373 q11 q12 q39 q40 q45)) (show pr ps = ad 908 from hps) (show (u42.1 0 300) = ps from (Eq.trans (fr41.2.1 300 (by decide)) (Eq.trans (fr19.2.1 300 (by decide)) (Eq.trans (fr13.2.1 300 (by decide)) (Eq.trans (fr4.2.1 300 (by decide)) (Eq.trans (fr1.2.1 300 (by decide)) es300)))))) (show l.stackTraces = false from hst)) tw_526 tw_527 (by decide +kernel) rfl rfl ⟨show 7 + 1 ≤ 8 * n + 14 from om_46126d3ba0, show 8 + (2 + 11) + 104 ≤ 28 * (8 * n + 14) from om_2d7c913608⟩ (List.range (cW ad pr N cI cR L1 L2 u42).length) (rg_map _) (nd_range _) 0 rfl rfl rfl rfl hl.1 rfl (Nat.le_of_ble_eq_true rfl) dX2_choice_45 ⟨Nat.le_of_ble_eq_true rfl, Nat.le_of_ble_eq_true rfl⟩) hP hD hS hA (fun u9 ce9 q9 H locs hx9 hP hD hS hc9 hv9 hf9 => ?_) (fun u47 H locs hw46 hP hD hS hz8 => ?_)
  · exact vx_out (fun x h9 => (hnt x h9).elim) hlocks hc9 hv9 hf9 (fun t9 ht9 hv8 => ⟨u9, ⟨FC.tr (FC.tr (FC.tr (FC.tr (FC.tr (FC.tr (FC.rf _) (FC.up fr1 (by decide) (by decide))) (FC.up fr4 (by decide) (by decide))) (FC.up fr13 (by decide) (by decide))) (FC.up fr19 (by decide) (by decide))) (FC.up fr41 (by decide) (by decide))) hx9.1, hx9.2⟩, ⟨rfl, by rw [ht9]; exact hP, hD⟩, hS.F ht9⟩) hS.2.2 (Nat.le_refl _) (Nat.le_refl _)
  refine W.shrink (hz8.trans hz9) ?_
  have fr46 := hw46
  refine lv_aload_n hx hb dX2_choice_48 rfl (lv_at hl 2 rfl) ?_
  refine va_get (D := (dC, dI)) (ci := 6) (fs := oF_X2 ad pr u47) (v := .ref (ad 901)) (C := RX2) (T := TX2) (N := 5) hx hb ht itX2 hown hK hP 2 rfl rfl 1 (by decide) (ht _ tw_498) (fun _ h9 => h9) rfl dX2_choice_49 ?_
  refine lv_bipush (v := 19) hx hb dX2_choice_52 (by decide) ?_
  refine lv_iload_n hx hb dX2_choice_54 rfl (lv_at hl 0 rfl) ?_
  refine lv_iconst (v := 0) hx hb dX2_choice_55 (by decide) ?_
  have q49 : (u47.1 0 381).toInt = (u42.1 0 381).toInt := congrArg Int32.toInt ((fr46.2.1 381 (by decide)).trans (show u42.1 0 381 = (u42.1 0 381) by rfl))
  refine cu_v (rn_Vk (n := 3) (As := [.int 19, .int r6, .int 0]) (rest := []) hx hb hml hown ht hKK hFx hP hD hS hA (c_x_X1_add l dC dI cI cB cZ cJ cR tb H.size ad pr N L1 L2 u47 (19 : Int32) r6 (0 : Int32) ps (show 0 ≤ (u47.1 0 381).toInt ∧ (u47.1 0 381).toInt ≤ 3008 from (om_6e4eb11ad3 i38141 q49)) (show pr ps = ad 908 from hps) (show (u47.1 0 310) = ps from (Eq.trans (fr46.2.1 310 (by decide)) (Eq.trans (fr41.2.1 310 (by decide)) (Eq.trans (fr19.2.1 310 (by decide)) (Eq.trans (fr13.2.1 310 (by decide)) (Eq.trans (fr4.2.1 310 (by decide)) (Eq.trans (fr1.2.1 310 (by decide)) es310)))))))) tw_499 tw_500 (by decide +kernel) rfl rfl ⟨show 0 + 1 ≤ 8 * n + 14 from om_2d92e09058, show 8 + (5 + 11) + 0 ≤ 28 * (8 * n + 14) from om_f68798533e⟩ (List.range (cW ad pr N cI cR L1 L2 u47).length) (rg_map _) (nd_range _) 1 rfl rfl rfl rfl hl.1 rfl (Nat.le_of_ble_eq_true rfl) dX2_choice_56 ⟨Nat.le_of_ble_eq_true rfl, Nat.le_of_ble_eq_true rfl⟩) hP hD hS hA (fun u51 H locs hw50 hP hD hS => ?_)
  obtain ⟨fr50, i38150⟩ := hw50
  have i38150 : 0 ≤ (u51.1 0 381).toInt ∧ (u51.1 0 381).toInt ≤ 3008 := i38150
  refine W.widen (k := 0) (n := 0) (Nat.le_refl _) (Nat.le_refl _) ?_
  refine lv_aload_n hx hb dX2_choice_59 rfl (lv_at hl 2 rfl) ?_
  refine va_get (D := (dC, dI)) (ci := 6) (fs := oF_X2 ad pr u51) (v := .ref (ad 901)) (C := RX2) (T := TX2) (N := 5) hx hb ht itX2 hown hK hP 2 rfl rfl 1 (by decide) (ht _ tw_498) (fun _ h9 => h9) rfl dX2_choice_60 ?_
  refine lv_iload_n hx hb dX2_choice_63 rfl (lv_at hl 1 rfl) ?_
  refine cu_v (rn_Vk (n := 1) (As := [.int r3]) (rest := []) hx hb hml hown ht hKK hFx hP hD hS hA (c_x_X1_setLabel l dC dI cI cB cZ cJ cR tb H.size ad pr N L1 L2 u51 r3 ps (show 0 ≤ (u51.1 0 381).toInt ∧ (u51.1 0 381).toInt ≤ 3008 from (om_e78eec72e1 i38150)) (show pr ps = ad 908 from hps) (show (u51.1 0 310) = ps from (Eq.trans (fr50.2.1 310 (by decide)) (Eq.trans (fr46.2.1 310 (by decide)) (Eq.trans (fr41.2.1 310 (by decide)) (Eq.trans (fr19.2.1 310 (by decide)) (Eq.trans (fr13.2.1 310 (by decide)) (Eq.trans (fr4.2.1 310 (by decide)) (Eq.trans (fr1.2.1 310 (by decide)) es310))))))))) tw_514 tw_515 (by decide +kernel) rfl rfl ⟨show 0 + 1 ≤ 8 * n + 14 from om_2d92e09058, show 8 + (2 + 11) + 0 ≤ 28 * (8 * n + 14) from om_e2ebc40cf4⟩ (List.range (cW ad pr N cI cR L1 L2 u51).length) (rg_map _) (nd_range _) 1 rfl rfl rfl rfl hl.1 rfl (Nat.le_of_ble_eq_true rfl) dX2_choice_64 ⟨Nat.le_of_ble_eq_true rfl, Nat.le_of_ble_eq_true rfl⟩) hP hD hS hA (fun u54 H locs hw53 hP hD hS => ?_)
  have fr53 := hw53
  refine W.widen (k := 0) (n := 0) (Nat.le_refl _) (Nat.le_refl _) ?_
  refine lv_aload_n hx hb dX2_choice_67 rfl (lv_at hl 2 rfl) ?_
  refine lv_iconst (v := 0) hx hb dX2_choice_68 (by decide) ?_
  obtain ⟨n56, hn57⟩ : ∃ m, n = m + 1 := ex_z (om_bce5f2fb63 hn23)
  have q58 : (u47.1 0 304).toInt = (u42.1 0 304).toInt := congrArg Int32.toInt ((fr46.2.1 304 (by decide)).trans (show u42.1 0 304 = (u42.1 0 304) by rfl))
  have q59 : (u51.1 0 304).toInt = (u47.1 0 304).toInt := congrArg Int32.toInt ((fr50.2.1 304 (by decide)).trans (show u47.1 0 304 = (u47.1 0 304) by rfl))
  have q60 : (u54.1 0 304).toInt = (u51.1 0 304).toInt := congrArg Int32.toInt ((fr53.2.1 304 (by decide)).trans (show u51.1 0 304 = (u51.1 0 304) by rfl))
  have q61 : (u47.1 0 306).toInt = (u42.1 0 306).toInt := congrArg Int32.toInt ((fr46.2.1 306 (by decide)).trans (show u42.1 0 306 = (u42.1 0 306) by rfl))
  have q62 : (u51.1 0 306).toInt = (u47.1 0 306).toInt := congrArg Int32.toInt ((fr50.2.1 306 (by decide)).trans (show u47.1 0 306 = (u47.1 0 306) by rfl))
  have q63 : (u54.1 0 306).toInt = (u51.1 0 306).toInt := congrArg Int32.toInt ((fr53.2.1 306 (by decide)).trans (show u51.1 0 306 = (u51.1 0 306) by rfl))
  have q64 : (u42.1 0 312).toInt = (u20.1 0 312).toInt := congrArg Int32.toInt ((fr41.2.1 312 (by decide)).trans (show u20.1 0 312 = (u20.1 0 312) by rfl))
  have q65 : (u47.1 0 312).toInt = (u42.1 0 312).toInt := congrArg Int32.toInt ((fr46.2.1 312 (by decide)).trans (show u42.1 0 312 = (u42.1 0 312) by rfl))
  have q66 : (u51.1 0 312).toInt = (u47.1 0 312).toInt := congrArg Int32.toInt ((fr50.2.1 312 (by decide)).trans (show u47.1 0 312 = (u47.1 0 312) by rfl))
  have q67 : (u54.1 0 312).toInt = (u51.1 0 312).toInt := congrArg Int32.toInt ((fr53.2.1 312 (by decide)).trans (show u51.1 0 312 = (u51.1 0 312) by rfl))
  have q68 : (u47.1 0 321).toInt = (u42.1 0 321).toInt := congrArg Int32.toInt ((fr46.2.1 321 (by decide)).trans (show u42.1 0 321 = (u42.1 0 321) by rfl))
  have q69 : (u51.1 0 321).toInt = (u47.1 0 321).toInt := congrArg Int32.toInt ((fr50.2.1 321 (by decide)).trans (show u47.1 0 321 = (u47.1 0 321) by rfl))
  have q70 : (u54.1 0 321).toInt = (u51.1 0 321).toInt := congrArg Int32.toInt ((fr53.2.1 321 (by decide)).trans (show u51.1 0 321 = (u51.1 0 321) by rfl))
  have q71 : (u47.1 0 326).toInt = (u42.1 0 326).toInt := congrArg Int32.toInt ((fr46.2.1 326 (by decide)).trans (show u42.1 0 326 = (u42.1 0 326) by rfl))
  have q72 : (u51.1 0 326).toInt = (u47.1 0 326).toInt := congrArg Int32.toInt ((fr50.2.1 326 (by decide)).trans (show u47.1 0 326 = (u47.1 0 326) by rfl))
  have q73 : (u54.1 0 326).toInt = (u51.1 0 326).toInt := congrArg Int32.toInt ((fr53.2.1 326 (by decide)).trans (show u51.1 0 326 = (u51.1 0 326) by rfl))
  have q74 : (u47.1 0 373).toInt = (u42.1 0 373).toInt := congrArg Int32.toInt ((fr46.2.1 373 (by decide)).trans (show u42.1 0 373 = (u42.1 0 373) by rfl))
  have q75 : (u51.1 0 373).toInt = (u47.1 0 373).toInt := congrArg Int32.toInt ((fr50.2.1 373 (by decide)).trans (show u47.1 0 373 = (u47.1 0 373) by rfl))
  have q76 : (u54.1 0 373).toInt = (u51.1 0 373).toInt := congrArg Int32.toInt ((fr53.2.1 373 (by decide)).trans (show u51.1 0 373 = (u51.1 0 373) by rfl))
  have q77 : (u54.1 0 381).toInt = (u51.1 0 381).toInt := congrArg Int32.toInt ((fr53.2.1 381 (by decide)).trans (show u51.1 0 381 = (u51.1 0 381) by rfl))
  refine W.sz (fun hz9 => ?_)
  refine czx_v (rx_Vk (n := 1) (As := [.int 0]) (rest := []) hx hb hml hown ht hKK hFx hP hD hS hA (ihE n56 hn57 dC dI cI cB cZ cJ cR tb H.size ad pr N L1 L2 u54 (0 : Int32) ps (show 0 ≤ (u54.1 0 304).toInt ∧ (u54.1 0 304).toInt ≤ 1503 from (om_003b4c170d z304 q7 q8 q24 q25 q44 q58 q59 q60)) (show 0 ≤ (u54.1 0 306).toInt ∧ (u54.1 0 306).toInt ≤ 40 from (om_91b0537b40 i30641 q61 q62 q63)) (show 0 ≤ (u54.1 0 312).toInt ∧ (u54.1 0 312).toInt ≤ 500 from (om_d466fad2f2 z312 q27 q28 q29 q30 q64 q65 q66 q67)) (show 0 ≤ (u54.1 0 321).toInt ∧ (u54.1 0 321).toInt ≤ 501 from (om_ca65317fd6 i32141 q68 q69 q70)) (show 0 ≤ (u54.1 0 326).toInt ∧ (u54.1 0 326).toInt ≤ 420 from (om_ba86cd30dc i32641 q71 q72 q73)) (show 0 ≤ (u54.1 0 373).toInt ∧ (u54.1 0 373).toInt ≤ 4000 from (om_40c7802ef9 z373 q11 q12 q39 q40 q45 q74 q75 q76)) (show 0 ≤ (u54.1 0 381).toInt ∧ (u54.1 0 381).toInt ≤ 3008 from (om_6e4eb11ad3 i38150 q77)) (show L1.length = 40 from hL1) (show L2.length = 60 from hL2) (show RP u54 from ((show FC [305, 306, 307, 314, 315, 317, 321, 326, 381] [0, 316, 318, 319, 320, 324, 325, 378, 379, 380] v u54 from (FC.tr (FC.tr (FC.tr (FC.tr (FC.tr (FC.tr (FC.tr (FC.tr (FC.rf _) (FC.up fr1 (by decide) (by decide))) (FC.up fr4 (by decide) (by decide))) (FC.up fr13 (by decide) (by decide))) (FC.up fr19 (by decide) (by decide))) (FC.up fr41 (by decide) (by decide))) (FC.up fr46 (by decide) (by decide))) (FC.up fr50 (by decide) (by decide))) (FC.up fr53 (by decide) (by decide)))).1 rp)) (show pr ps = ad 908 from hps) (show (u54.1 0 300) = ps from (Eq.trans (fr53.2.1 300 (by decide)) (Eq.trans (fr50.2.1 300 (by decide)) (Eq.trans (fr46.2.1 300 (by decide)) (Eq.trans (fr41.2.1 300 (by decide)) (Eq.trans (fr19.2.1 300 (by decide)) (Eq.trans (fr13.2.1 300 (by decide)) (Eq.trans (fr4.2.1 300 (by decide)) (Eq.trans (fr1.2.1 300 (by decide)) es300))))))))) (show (u54.1 0 310) = ps from (Eq.trans (fr53.2.1 310 (by decide)) (Eq.trans (fr50.2.1 310 (by decide)) (Eq.trans (fr46.2.1 310 (by decide)) (Eq.trans (fr41.2.1 310 (by decide)) (Eq.trans (fr19.2.1 310 (by decide)) (Eq.trans (fr13.2.1 310 (by decide)) (Eq.trans (fr4.2.1 310 (by decide)) (Eq.trans (fr1.2.1 310 (by decide)) es310))))))))) (show l.stackTraces = false from hst) (show 40 ≤ (u54.1 0 306).toInt + (n56 : Int) from (om_939fe17646 zn q9 q10 pj13 q26 po41 q61 q62 q63 hn57))) tw_520 tw_521 (by decide +kernel) rfl rfl ⟨show (8 * n56 + 20) + 1 ≤ 8 * n + 14 from (om_74f46d92b7 hn57), show 8 + (5 + 11) + 28 * (8 * n56 + 20) ≤ 28 * (8 * n + 14) from (om_a843c7c5cc hn57)⟩ (List.range (cW ad pr N cI cR L1 L2 u54).length) (rg_map _) (nd_range _) 2 rfl rfl rfl rfl hl.1 rfl (Nat.le_of_ble_eq_true rfl) dX2_choice_69 ⟨Nat.le_of_ble_eq_true rfl, Nat.le_of_ble_eq_true rfl⟩) hP hD hS hA (fun u9 ce9 q9 H locs hx9 hP hD hS hc9 hv9 hf9 => ?_) (fun u79 H locs hw78 hP hD hS hz8 => ?_)
  · exact vx_out (fun x h9 => (hnt x h9).elim) hlocks hc9 hv9 hf9 (fun t9 ht9 hv8 => ⟨u9, ⟨FC.tr (FC.tr (FC.tr (FC.tr (FC.tr (FC.tr (FC.tr (FC.tr (FC.tr (FC.rf _) (FC.up fr1 (by decide) (by decide))) (FC.up fr4 (by decide) (by decide))) (FC.up fr13 (by decide) (by decide))) (FC.up fr19 (by decide) (by decide))) (FC.up fr41 (by decide) (by decide))) (FC.up fr46 (by decide) (by decide))) (FC.up fr50 (by decide) (by decide))) (FC.up fr53 (by decide) (by decide))) hx9.1, hx9.2⟩, ⟨rfl, by rw [ht9]; exact hP, hD⟩, hS.F ht9⟩) hS.2.2 (Nat.le_refl _) (Nat.le_refl _)
  refine W.shrink (hz8.trans hz9) ?_
  obtain ⟨fr78, i30678, i32178, i32678, i38178, po78⟩ := hw78
  have i30678 : 0 ≤ (u79.1 0 306).toInt ∧ (u79.1 0 306).toInt ≤ 40 := i30678
  have i32178 : 0 ≤ (u79.1 0 321).toInt ∧ (u79.1 0 321).toInt ≤ 501 := i32178
  have i32678 : 0 ≤ (u79.1 0 326).toInt ∧ (u79.1 0 326).toInt ≤ 420 := i32678
  have i38178 : 0 ≤ (u79.1 0 381).toInt ∧ (u79.1 0 381).toInt ≤ 3008 := i38178
  have po78 : (u79.1 0 306).toInt = (u54.1 0 306).toInt := po78
  refine lv_aload_n hx hb dX2_choice_72 rfl (lv_at hl 2 rfl) ?_
  refine va_get (D := (dC, dI)) (ci := 6) (fs := oF_X2 ad pr u79) (v := .ref (ad 901)) (C := RX2) (T := TX2) (N := 5) hx hb ht itX2 hown hK hP 2 rfl rfl 1 (by decide) (ht _ tw_498) (fun _ h9 => h9) rfl dX2_choice_73 ?_
  refine lv_iload_n hx hb dX2_choice_76 rfl (lv_at hl 0 rfl) ?_
  refine cu_v (rn_Vk (n := 1) (As := [.int r6]) (rest := []) hx hb hml hown ht hKK hFx hP hD hS hA (c_x_X1_setLabel l dC dI cI cB cZ cJ cR tb H.size ad pr N L1 L2 u79 r6 ps (show 0 ≤ (u79.1 0 381).toInt ∧ (u79.1 0 381).toInt ≤ 3008 from (om_e78eec72e1 i38178)) (show pr ps = ad 908 from hps) (show (u79.1 0 310) = ps from (Eq.trans (fr78.2.1 310 (by decide)) (Eq.trans (fr53.2.1 310 (by decide)) (Eq.trans (fr50.2.1 310 (by decide)) (Eq.trans (fr46.2.1 310 (by decide)) (Eq.trans (fr41.2.1 310 (by decide)) (Eq.trans (fr19.2.1 310 (by decide)) (Eq.trans (fr13.2.1 310 (by decide)) (Eq.trans (fr4.2.1 310 (by decide)) (Eq.trans (fr1.2.1 310 (by decide)) es310))))))))))) tw_514 tw_515 (by decide +kernel) rfl rfl ⟨show 0 + 1 ≤ 8 * n + 14 from om_2d92e09058, show 8 + (2 + 11) + 0 ≤ 28 * (8 * n + 14) from om_e2ebc40cf4⟩ (List.range (cW ad pr N cI cR L1 L2 u79).length) (rg_map _) (nd_range _) 1 rfl rfl rfl rfl hl.1 rfl (Nat.le_of_ble_eq_true rfl) dX2_choice_77 ⟨Nat.le_of_ble_eq_true rfl, Nat.le_of_ble_eq_true rfl⟩) hP hD hS hA (fun u82 H locs hw81 hP hD hS => ?_)
  have fr81 := hw81
  refine W.widen (k := 0) (n := 0) (Nat.le_refl _) (Nat.le_refl _) ?_
  refine lv_aload_n hx hb dX2_choice_80 rfl (lv_at hl 2 rfl) ?_
  refine va_get (D := (dC, dI)) (ci := 6) (fs := oF_X2 ad pr u82) (v := .ref (ad 900)) (C := RX2) (T := TX2) (N := 5) hx hb ht itX2 hown hK hP 2 rfl rfl 0 (by decide) (ht _ tw_509) (fun _ h9 => h9) rfl dX2_choice_81 ?_
  have q84 : (u82.1 0 306).toInt = (u79.1 0 306).toInt := congrArg Int32.toInt ((fr81.2.1 306 (by decide)).trans (show u79.1 0 306 = (u79.1 0 306) by rfl))
  refine cu_v (rn_Vk (n := 0) (As := []) (rest := []) hx hb hml hown ht hKK hFx hP hD hS hA (c_x_X9_close l dC dI cI cB cZ cJ cR tb H.size ad pr N L1 L2 u82  (show 0 ≤ (u82.1 0 306).toInt ∧ (u82.1 0 306).toInt ≤ 40 from (om_99e115f631 i30678 q84)) (show 1 ≤ (u82.1 0 306).toInt from (om_5eb67ef455 z306 q9 q10 pj13 q26 po41 q61 q62 q63 po78 q84))) tw_528 tw_529 (by decide +kernel) rfl rfl ⟨show 0 + 1 ≤ 8 * n + 14 from om_2d92e09058, show 8 + (1 + 11) + 0 ≤ 28 * (8 * n + 14) from om_289622e6d2⟩ (List.range (cW ad pr N cI cR L1 L2 u82).length) (rg_map _) (nd_range _) 0 rfl rfl rfl rfl hl.1 rfl (Nat.le_of_ble_eq_true rfl) dX2_choice_84 ⟨Nat.le_of_ble_eq_true rfl, Nat.le_of_ble_eq_true rfl⟩) hP hD hS hA (fun u86 H locs hw85 hP hD hS => ?_)
  obtain ⟨fr85, i30685, pj85⟩ := hw85
  have i30685 : 0 ≤ (u86.1 0 306).toInt ∧ (u86.1 0 306).toInt ≤ 40 := i30685
  have pj85 : (u86.1 0 306).toInt = (u82.1 0 306).toInt - 1 := pj85
  refine W.widen (k := 0) (n := 0) (Nat.le_refl _) (Nat.le_refl _) ?_
  have q88 : (u82.1 0 321).toInt = (u79.1 0 321).toInt := congrArg Int32.toInt ((fr81.2.1 321 (by decide)).trans (show u79.1 0 321 = (u79.1 0 321) by rfl))
  have q89 : (u86.1 0 321).toInt = (u82.1 0 321).toInt := congrArg Int32.toInt ((fr85.2.1 321 (by decide)).trans (show u82.1 0 321 = (u82.1 0 321) by rfl))
  have q90 : (u82.1 0 326).toInt = (u79.1 0 326).toInt := congrArg Int32.toInt ((fr81.2.1 326 (by decide)).trans (show u79.1 0 326 = (u79.1 0 326) by rfl))
  have q91 : (u86.1 0 326).toInt = (u82.1 0 326).toInt := congrArg Int32.toInt ((fr85.2.1 326 (by decide)).trans (show u82.1 0 326 = (u82.1 0 326) by rfl))
  have q92 : (u82.1 0 381).toInt = (u79.1 0 381).toInt := congrArg Int32.toInt ((fr81.2.1 381 (by decide)).trans (show u79.1 0 381 = (u79.1 0 381) by rfl))
  have q93 : (u86.1 0 381).toInt = (u82.1 0 381).toInt := congrArg Int32.toInt ((fr85.2.1 381 (by decide)).trans (show u82.1 0 381 = (u82.1 0 381) by rfl))
  refine W.sz (fun hz => ?_)
  refine vx_ret ?_
  refine W.widen (k := 1) (n := 6) (Nat.le_of_ble_eq_true rfl) (Nat.le_of_ble_eq_true rfl) ?_
  exact W.vret hx hb hr (fun t ht9 hW => ⟨⟨u86, rfl, ⟨(FC.tr (FC.tr (FC.tr (FC.tr (FC.tr (FC.tr (FC.tr (FC.tr (FC.tr (FC.tr (FC.tr (FC.rf _) (FC.up fr1 (by decide) (by decide))) (FC.up fr4 (by decide) (by decide))) (FC.up fr13 (by decide) (by decide))) (FC.up fr19 (by decide) (by decide))) (FC.up fr41 (by decide) (by decide))) (FC.up fr46 (by decide) (by decide))) (FC.up fr50 (by decide) (by decide))) (FC.up fr53 (by decide) (by decide))) (FC.up fr78 (by decide) (by decide))) (FC.up fr81 (by decide) (by decide))) (FC.up fr85 (by decide) (by decide))), (show 0 ≤ (u86.1 0 306).toInt ∧ (u86.1 0 306).toInt ≤ 40 from (om_7eaf33e007 i30685)), (show 0 ≤ (u86.1 0 321).toInt ∧ (u86.1 0 321).toInt ≤ 501 from (om_4dfa815534 i32178 q88 q89)), (show 0 ≤ (u86.1 0 326).toInt ∧ (u86.1 0 326).toInt ≤ 420 from (om_9591dea625 i32678 q90 q91)), (show 0 ≤ (u86.1 0 381).toInt ∧ (u86.1 0 381).toInt ≤ 3008 from (om_769192f2a4 i38178 q92 q93)), (show (u86.1 0 306).toInt = (v.1 0 306).toInt from (om_33d142c5bd q9 q10 pj13 q26 po41 q61 q62 q63 po78 q84 pj85))⟩, ⟨by rw [ht9]; exact hP, hD⟩, by rw [ht9]; exact hz⟩, hS.F ht9⟩) hS.2.2 dX2_choice_87
theorem om_ca6f0c0f01 {x0 x2 : Int} {n1 : Nat} (h0 : 40 ≤ x0 + (n1 : Int)) (h1 : 0 ≤ x2 ∧ x2 ≤ 40) (h2 : x2 = x0 + 1) : 1 ≤ (n1 : Int) := by omega
theorem om_31a8ca9d36 {x0 x1 : Int} (h0 : 0 ≤ x0 ∧ x0 ≤ 40) (h1 : 0 ≤ x1 ∧ x1 ≤ 40) (h2 : x1 = x0 + 1) : 0 ≤ x1 ∧ x1 ≤ 40 := by omega
theorem om_5c65d2983c {x0 x2 : Int} {n1 n3 : Nat} (h0 : 40 ≤ x0 + (n1 : Int)) (h1 : x2 = x0 + 1) (h2 : n1 = n3 + 1) : 40 ≤ x2 + (n3 : Int) := by omega
theorem om_d6433c88a8 {x0 x1 x2 x3 : Int} (h0 : 0 ≤ x0 ∧ x0 ≤ 40) (h1 : x1 = x0 + 1) (h2 : 0 ≤ x2 ∧ x2 ≤ 40) (h3 : x2 = x1) (h4 : x3 = x2) : 0 ≤ x3 ∧ x3 ≤ 40 := by omega
theorem om_22aff8ea1a {x0 x1 x2 x3 : Int} (h0 : 0 ≤ x0 ∧ x0 ≤ 40) (h1 : x1 = x0 + 1) (h2 : x2 = x1) (h3 : x3 = x2) : 1 ≤ x3 := by omega
theorem om_9c4f3a2e9c {x0 x1 x2 x3 : Int} (h0 : 0 ≤ x0 ∧ x0 ≤ 40) (h1 : x1 = x0) (h2 : 0 ≤ x2 ∧ x2 ≤ 40) (h3 : x2 = x1 - 1) (h4 : x3 = x2) : 0 ≤ x3 ∧ x3 ≤ 40 := by omega
theorem om_2e8782e245 {x0 x1 x2 x3 x4 x5 : Int} (h0 : x0 = x1 + 1) (h1 : x2 = x0) (h2 : x3 = x2) (h3 : x4 = x3 - 1) (h4 : x5 = x4) : x5 = x1 := by omega
set_option maxHeartbeats 16000000 in
set_option maxRecDepth 100000 in
theorem c_x_X2_index (l : Launch) (n : Nat) (ihE : ∀ m, n = m + 1 → Cq_expression l m) (dC : Nat → ClassId) (dI : Nat → Nat → Nat) (cI cB cZ cJ cR : ClassId) (tb : Nat → Nat) (sz : Nat) (ad : Nat → Nat) (pr : Int32 → Nat) (N : Nat) (L1 L2 : List Nat) (v : MS) (pa : Int32) (ps : Int32) (z304 : 0 ≤ (v.1 0 304).toInt ∧ (v.1 0 304).toInt ≤ 1503) (z306 : 0 ≤ (v.1 0 306).toInt ∧ (v.1 0 306).toInt ≤ 40) (z312 : 0 ≤ (v.1 0 312).toInt ∧ (v.1 0 312).toInt ≤ 500) (z321 : 0 ≤ (v.1 0 321).toInt ∧ (v.1 0 321).toInt ≤ 501) (z326 : 0 ≤ (v.1 0 326).toInt ∧ (v.1 0 326).toInt ≤ 420) (z373 : 0 ≤ (v.1 0 373).toInt ∧ (v.1 0 373).toInt ≤ 4000) (z381 : 0 ≤ (v.1 0 381).toInt ∧ (v.1 0 381).toInt ≤ 3008) (hL1 : L1.length = 40) (hL2 : L2.length = 60) (rp : RP v) (hps : pr ps = ad 908) (es300 : (v.1 0 300) = ps) (es310 : (v.1 0 310) = ps) (hst : l.stackTraces = false) (zn : 40 ≤ (v.1 0 306).toInt + (n : Int)) : vx_Met l yX2_index (Cond.code yX2_index cX2_index 2 none :: tw_W) ({ frames := 8 * n + 14, cells := 1, slots := 6, locals := 28 * (8 * n + 14) }) (pc_ (dC, dI) (tyS cI cB cZ cJ cR) tb (cW ad pr N cI cR L1 L2 v) sz [.ref (ad 902), .int pa]) (qvz_ (dC, dI) (cW ad pr N cI cR L1 L2 v) sz (fun (u : MS) => FC [305, 306, 307, 314, 315, 317, 321, 326, 381] [0, 316, 318, 319, 320, 324, 325, 378, 379, 380] v u ∧ (0 ≤ (u.1 0 306).toInt ∧ (u.1 0 306).toInt ≤ 40) ∧ (0 ≤ (u.1 0 321).toInt ∧ (u.1 0 321).toInt ≤ 501) ∧ (0 ≤ (u.1 0 326).toInt ∧ (u.1 0 326).toInt ≤ 420) ∧ (0 ≤ (u.1 0 381).toInt ∧ (u.1 0 381).toInt ≤ 3008) ∧ ((u.1 0 306).toInt = (v.1 0 306).toInt)) (fun (u : MS) => (cW ad pr N cI cR L1 L2 u))) (qxc (dC, dI) (cW ad pr N cI cR L1 L2 v) sz (fun (u : MS) => (cW ad pr N cI cR L1 L2 u)) (fun (u : MS) => FC xfl xal v u ∧ (u.1 0 308).toInt ≠ 0)) 1 6 (va_A (cW ad pr N cI cR L1 L2 v) sz) := by
  refine vx_ofW (cc := cX2_index) (maxL := 2) (ret := none) (by decide) rfl ?_
  intro p e s m args below meth c s₁ B hml hnt hv
  obtain ⟨rfl, hsz, hP, hKK, hD0, hFx⟩ := hv
  have hK := hKK.1
  have hx := B.exec
  have hb := B.bytes
  have hr := B.returns
  have ht : ∀ w ∈ tw_W, w.before _ s = true := fun w h => atoms_spec (ws := Cond.code yX2_index cX2_index 2 none :: tw_W) B.pre w (List.mem_cons_of_mem _ h)
  have hown : s.vm.findClass RX2 = some m.cls := findClass_of_methodNamed B.named
  have hlocks := B.notSynchronized
  subst hsz
  unfold qvz_ qxc
  have hD := hD0.self (sz := s.heap.size)
  generalize hAe : va_A (cW ad pr N cI cR L1 L2 v) s.heap.size = A at hD hFx ⊢
  have hA : ∀ q : Nat, s.heap.size ≤ q → A q := fun q h => by rw [← hAe]; exact Or.inr h
  have hS : va_S A s.heap s.heap [] := va_S.rf
  have hl := lv_entry ([.ref (ad 902), .int pa]) (n := 2) (Nat.le_of_ble_eq_true rfl)
  rw [lg_entry_eq]
  generalize (lg_sl ([.ref (ad 902), .int pa]) ++ List.replicate (2 - (lg_sl ([.ref (ad 902), .int pa])).length) Slot.unset).toArray = ls at hl ⊢
  have hl : lv_has ls 2 [(0, .ref (ad 902)), (1, .int pa)] := hl
  refine lv_aload_n hx hb dX2_index_0 rfl (lv_at hl 0 rfl) ?_
  refine va_get (D := (dC, dI)) (ci := 6) (fs := oF_X2 ad pr v) (v := .ref (ad 900)) (C := RX2) (T := TX2) (N := 5) hx hb ht itX2 hown hK hP 2 rfl rfl 0 (by decide) (ht _ tw_509) (fun _ h9 => h9) rfl dX2_index_1 ?_
  refine W.sz (fun hz9 => ?_)
  refine czx_v (rx_Vk (n := 0) (As := []) (rest := []) hx hb hml hown ht hKK hFx hP hD hS hA (c_x_X9_open l dC dI cI cB cZ cJ cR tb s.heap.size ad pr N L1 L2 v ps (show 0 ≤ (v.1 0 304).toInt ∧ (v.1 0 304).toInt ≤ 1503 from (om_c99648273b z304)) (show 0 ≤ (v.1 0 306).toInt ∧ (v.1 0 306).toInt ≤ 40 from (om_7eaf33e007 z306)) (show 0 ≤ (v.1 0 373).toInt ∧ (v.1 0 373).toInt ≤ 4000 from (om_c74a68af25 z373)) (show pr ps = ad 908 from hps) (show (v.1 0 300) = ps from es300) (show l.stackTraces = false from hst)) tw_524 tw_525 (by decide +kernel) rfl rfl ⟨show 7 + 1 ≤ 8 * n + 14 from om_46126d3ba0, show 8 + (1 + 11) + 104 ≤ 28 * (8 * n + 14) from om_6017b980b8⟩ (List.range (cW ad pr N cI cR L1 L2 v).length) (rg_map _) (nd_range _) 0 rfl rfl rfl rfl hl.1 rfl (Nat.le_of_ble_eq_true rfl) dX2_index_4 ⟨Nat.le_of_ble_eq_true rfl, Nat.le_of_ble_eq_true rfl⟩) hP hD hS hA (fun u9 ce9 q9 H locs hx9 hP hD hS hc9 hv9 hf9 => ?_) (fun u2 H locs hw1 hP hD hS hz8 => ?_)
  · exact vx_out (fun x h9 => (hnt x h9).elim) hlocks hc9 hv9 hf9 (fun t9 ht9 hv8 => ⟨u9, ⟨FC.tr (FC.rf _) hx9.1, hx9.2⟩, ⟨rfl, by rw [ht9]; exact hP, hD⟩, hS.F ht9⟩) hS.2.2 (Nat.le_refl _) (Nat.le_refl _)
  refine W.shrink (hz8.trans hz9) ?_
  obtain ⟨fr1, i3061, pj1⟩ := hw1
  refine lv_aload_n hx hb dX2_index_7 rfl (lv_at hl 0 rfl) ?_
  refine lv_iconst (v := 1) hx hb dX2_index_8 (by decide) ?_
  obtain ⟨n4, hn5⟩ : ∃ m, n = m + 1 := ex_z (om_ca6f0c0f01 zn i3061 pj1)
  have q6 : (u2.1 0 304).toInt = (v.1 0 304).toInt := congrArg Int32.toInt ((fr1.2.1 304 (by decide)).trans (show v.1 0 304 = (v.1 0 304) by rfl))
  have q7 : (u2.1 0 312).toInt = (v.1 0 312).toInt := congrArg Int32.toInt ((fr1.2.1 312 (by decide)).trans (show v.1 0 312 = (v.1 0 312) by rfl))
  have q8 : (u2.1 0 321).toInt = (v.1 0 321).toInt := congrArg Int32.toInt ((fr1.2.1 321 (by decide)).trans (show v.1 0 321 = (v.1 0 321) by rfl))
  have q9 : (u2.1 0 326).toInt = (v.1 0 326).toInt := congrArg Int32.toInt ((fr1.2.1 326 (by decide)).trans (show v.1 0 326 = (v.1 0 326) by rfl))
  have q10 : (u2.1 0 373).toInt = (v.1 0 373).toInt := congrArg Int32.toInt ((fr1.2.1 373 (by decide)).trans (show v.1 0 373 = (v.1 0 373) by rfl))
  have q11 : (u2.1 0 381).toInt = (v.1 0 381).toInt := congrArg Int32.toInt ((fr1.2.1 381 (by decide)).trans (show v.1 0 381 = (v.1 0 381) by rfl))
  refine W.sz (fun hz9 => ?_)
  refine czx_v (rx_Vk (n := 1) (As := [.int 1]) (rest := []) hx hb hml hown ht hKK hFx hP hD hS hA (ihE n4 hn5 dC dI cI cB cZ cJ cR tb H.size ad pr N L1 L2 u2 (1 : Int32) ps (show 0 ≤ (u2.1 0 304).toInt ∧ (u2.1 0 304).toInt ≤ 1503 from (om_73002589c1 z304 q6)) (show 0 ≤ (u2.1 0 306).toInt ∧ (u2.1 0 306).toInt ≤ 40 from (om_31a8ca9d36 z306 i3061 pj1)) (show 0 ≤ (u2.1 0 312).toInt ∧ (u2.1 0 312).toInt ≤ 500 from (om_f8376ff89c z312 q7)) (show 0 ≤ (u2.1 0 321).toInt ∧ (u2.1 0 321).toInt ≤ 501 from (om_ff27494c0e z321 q8)) (show 0 ≤ (u2.1 0 326).toInt ∧ (u2.1 0 326).toInt ≤ 420 from (om_8ed0dedb19 z326 q9)) (show 0 ≤ (u2.1 0 373).toInt ∧ (u2.1 0 373).toInt ≤ 4000 from (om_9084c127ed z373 q10)) (show 0 ≤ (u2.1 0 381).toInt ∧ (u2.1 0 381).toInt ≤ 3008 from (om_6e4eb11ad3 z381 q11)) (show L1.length = 40 from hL1) (show L2.length = 60 from hL2) (show RP u2 from ((show FC [305, 306, 307, 314, 315, 317, 321, 326, 381] [0, 316, 318, 319, 320, 324, 325, 378, 379, 380] v u2 from (FC.tr (FC.rf _) (FC.up fr1 (by decide) (by decide)))).1 rp)) (show pr ps = ad 908 from hps) (show (u2.1 0 300) = ps from (Eq.trans (fr1.2.1 300 (by decide)) es300)) (show (u2.1 0 310) = ps from (Eq.trans (fr1.2.1 310 (by decide)) es310)) (show l.stackTraces = false from hst) (show 40 ≤ (u2.1 0 306).toInt + (n4 : Int) from (om_5c65d2983c zn pj1 hn5))) tw_520 tw_521 (by decide +kernel) rfl rfl ⟨show (8 * n4 + 20) + 1 ≤ 8 * n + 14 from (om_74f46d92b7 hn5), show 8 + (5 + 11) + 28 * (8 * n4 + 20) ≤ 28 * (8 * n + 14) from (om_a843c7c5cc hn5)⟩ (List.range (cW ad pr N cI cR L1 L2 u2).length) (rg_map _) (nd_range _) 2 rfl rfl rfl rfl hl.1 rfl (Nat.le_of_ble_eq_true rfl) dX2_index_9 ⟨Nat.le_of_ble_eq_true rfl, Nat.le_of_ble_eq_true rfl⟩) hP hD hS hA (fun u9 ce9 q9 H locs hx9 hP hD hS hc9 hv9 hf9 => ?_) (fun u13 H locs hw12 hP hD hS hz8 => ?_)
  · exact vx_out (fun x h9 => (hnt x h9).elim) hlocks hc9 hv9 hf9 (fun t9 ht9 hv8 => ⟨u9, ⟨FC.tr (FC.tr (FC.rf _) (FC.up fr1 (by decide) (by decide))) hx9.1, hx9.2⟩, ⟨rfl, by rw [ht9]; exact hP, hD⟩, hS.F ht9⟩) hS.2.2 (Nat.le_refl _) (Nat.le_refl _)
  refine W.shrink (hz8.trans hz9) ?_
  obtain ⟨fr12, i30612, i32112, i32612, i38112, po12⟩ := hw12
  have i30612 : 0 ≤ (u13.1 0 306).toInt ∧ (u13.1 0 306).toInt ≤ 40 := i30612
  have i32112 : 0 ≤ (u13.1 0 321).toInt ∧ (u13.1 0 321).toInt ≤ 501 := i32112
  have i32612 : 0 ≤ (u13.1 0 326).toInt ∧ (u13.1 0 326).toInt ≤ 420 := i32612
  have i38112 : 0 ≤ (u13.1 0 381).toInt ∧ (u13.1 0 381).toInt ≤ 3008 := i38112
  have po12 : (u13.1 0 306).toInt = (u2.1 0 306).toInt := po12
  refine lv_aload_n hx hb dX2_index_12 rfl (lv_at hl 0 rfl) ?_
  refine va_get (D := (dC, dI)) (ci := 6) (fs := oF_X2 ad pr u13) (v := .ref (ad 900)) (C := RX2) (T := TX2) (N := 5) hx hb ht itX2 hown hK hP 2 rfl rfl 0 (by decide) (ht _ tw_509) (fun _ h9 => h9) rfl dX2_index_13 ?_
  refine lv_bipush (v := 35) hx hb dX2_index_16 (by decide) ?_
  have q15 : (u13.1 0 304).toInt = (u2.1 0 304).toInt := congrArg Int32.toInt ((fr12.2.1 304 (by decide)).trans (show u2.1 0 304 = (u2.1 0 304) by rfl))
  have q16 : (u13.1 0 373).toInt = (u2.1 0 373).toInt := congrArg Int32.toInt ((fr12.2.1 373 (by decide)).trans (show u2.1 0 373 = (u2.1 0 373) by rfl))
  refine W.sz (fun hz9 => ?_)
  refine czx_v (rx_Vk (n := 1) (As := [.int 35]) (rest := []) hx hb hml hown ht hKK hFx hP hD hS hA (c_x_X9_expect l dC dI cI cB cZ cJ cR tb H.size ad pr N L1 L2 u13 (35 : Int32) ps (show 0 ≤ (u13.1 0 304).toInt ∧ (u13.1 0 304).toInt ≤ 1503 from (om_dd87ee851a z304 q6 q15)) (show 0 ≤ (u13.1 0 373).toInt ∧ (u13.1 0 373).toInt ≤ 4000 from (om_03cd8767ac z373 q10 q16)) (show pr ps = ad 908 from hps) (show (u13.1 0 300) = ps from (Eq.trans (fr12.2.1 300 (by decide)) (Eq.trans (fr1.2.1 300 (by decide)) es300))) (show l.stackTraces = false from hst)) tw_526 tw_527 (by decide +kernel) rfl rfl ⟨show 7 + 1 ≤ 8 * n + 14 from om_46126d3ba0, show 8 + (2 + 11) + 104 ≤ 28 * (8 * n + 14) from om_2d7c913608⟩ (List.range (cW ad pr N cI cR L1 L2 u13).length) (rg_map _) (nd_range _) 0 rfl rfl rfl rfl hl.1 rfl (Nat.le_of_ble_eq_true rfl) dX2_index_18 ⟨Nat.le_of_ble_eq_true rfl, Nat.le_of_ble_eq_true rfl⟩) hP hD hS hA (fun u9 ce9 q9 H locs hx9 hP hD hS hc9 hv9 hf9 => ?_) (fun u18 H locs hw17 hP hD hS hz8 => ?_)
  · exact vx_out (fun x h9 => (hnt x h9).elim) hlocks hc9 hv9 hf9 (fun t9 ht9 hv8 => ⟨u9, ⟨FC.tr (FC.tr (FC.tr (FC.rf _) (FC.up fr1 (by decide) (by decide))) (FC.up fr12 (by decide) (by decide))) hx9.1, hx9.2⟩, ⟨rfl, by rw [ht9]; exact hP, hD⟩, hS.F ht9⟩) hS.2.2 (Nat.le_refl _) (Nat.le_refl _)
  refine W.shrink (hz8.trans hz9) ?_
  have fr17 := hw17
  refine lv_aload_n hx hb dX2_index_21 rfl (lv_at hl 0 rfl) ?_
  refine va_get (D := (dC, dI)) (ci := 6) (fs := oF_X2 ad pr u18) (v := .ref (ad 900)) (C := RX2) (T := TX2) (N := 5) hx hb ht itX2 hown hK hP 2 rfl rfl 0 (by decide) (ht _ tw_509) (fun _ h9 => h9) rfl dX2_index_22 ?_
  have q20 : (u18.1 0 306).toInt = (u13.1 0 306).toInt := congrArg Int32.toInt ((fr17.2.1 306 (by decide)).trans (show u13.1 0 306 = (u13.1 0 306) by rfl))
  refine cu_v (rn_Vk (n := 0) (As := []) (rest := []) hx hb hml hown ht hKK hFx hP hD hS hA (c_x_X9_close l dC dI cI cB cZ cJ cR tb H.size ad pr N L1 L2 u18  (show 0 ≤ (u18.1 0 306).toInt ∧ (u18.1 0 306).toInt ≤ 40 from (om_d6433c88a8 z306 pj1 i30612 po12 q20)) (show 1 ≤ (u18.1 0 306).toInt from (om_22aff8ea1a z306 pj1 po12 q20))) tw_528 tw_529 (by decide +kernel) rfl rfl ⟨show 0 + 1 ≤ 8 * n + 14 from om_2d92e09058, show 8 + (1 + 11) + 0 ≤ 28 * (8 * n + 14) from om_289622e6d2⟩ (List.range (cW ad pr N cI cR L1 L2 u18).length) (rg_map _) (nd_range _) 0 rfl rfl rfl rfl hl.1 rfl (Nat.le_of_ble_eq_true rfl) dX2_index_25 ⟨Nat.le_of_ble_eq_true rfl, Nat.le_of_ble_eq_true rfl⟩) hP hD hS hA (fun u22 H locs hw21 hP hD hS => ?_)
  obtain ⟨fr21, i30621, pj21⟩ := hw21
  have i30621 : 0 ≤ (u22.1 0 306).toInt ∧ (u22.1 0 306).toInt ≤ 40 := i30621
  have pj21 : (u22.1 0 306).toInt = (u18.1 0 306).toInt - 1 := pj21
  refine W.widen (k := 0) (n := 0) (Nat.le_refl _) (Nat.le_refl _) ?_
  refine lv_aload_n hx hb dX2_index_28 rfl (lv_at hl 0 rfl) ?_
  refine va_get (D := (dC, dI)) (ci := 6) (fs := oF_X2 ad pr u22) (v := .ref (ad 901)) (C := RX2) (T := TX2) (N := 5) hx hb ht itX2 hown hK hP 2 rfl rfl 1 (by decide) (ht _ tw_498) (fun _ h9 => h9) rfl dX2_index_29 ?_
  refine lv_bipush (v := 7) hx hb dX2_index_32 (by decide) ?_
  refine lv_iload_n hx hb dX2_index_34 rfl (lv_at hl 1 rfl) ?_
  refine lv_iconst (v := 0) hx hb dX2_index_35 (by decide) ?_
  have q24 : (u18.1 0 381).toInt = (u13.1 0 381).toInt := congrArg Int32.toInt ((fr17.2.1 381 (by decide)).trans (show u13.1 0 381 = (u13.1 0 381) by rfl))
  have q25 : (u22.1 0 381).toInt = (u18.1 0 381).toInt := congrArg Int32.toInt ((fr21.2.1 381 (by decide)).trans (show u18.1 0 381 = (u18.1 0 381) by rfl))
  refine cu_v (rn_Vk (n := 3) (As := [.int 7, .int pa, .int 0]) (rest := []) hx hb hml hown ht hKK hFx hP hD hS hA (c_x_X1_add l dC dI cI cB cZ cJ cR tb H.size ad pr N L1 L2 u22 (7 : Int32) pa (0 : Int32) ps (show 0 ≤ (u22.1 0 381).toInt ∧ (u22.1 0 381).toInt ≤ 3008 from (om_769192f2a4 i38112 q24 q25)) (show pr ps = ad 908 from hps) (show (u22.1 0 310) = ps from (Eq.trans (fr21.2.1 310 (by decide)) (Eq.trans (fr17.2.1 310 (by decide)) (Eq.trans (fr12.2.1 310 (by decide)) (Eq.trans (fr1.2.1 310 (by decide)) es310)))))) tw_499 tw_500 (by decide +kernel) rfl rfl ⟨show 0 + 1 ≤ 8 * n + 14 from om_2d92e09058, show 8 + (5 + 11) + 0 ≤ 28 * (8 * n + 14) from om_f68798533e⟩ (List.range (cW ad pr N cI cR L1 L2 u22).length) (rg_map _) (nd_range _) 1 rfl rfl rfl rfl hl.1 rfl (Nat.le_of_ble_eq_true rfl) dX2_index_36 ⟨Nat.le_of_ble_eq_true rfl, Nat.le_of_ble_eq_true rfl⟩) hP hD hS hA (fun u27 H locs hw26 hP hD hS => ?_)
  obtain ⟨fr26, i38126⟩ := hw26
  have i38126 : 0 ≤ (u27.1 0 381).toInt ∧ (u27.1 0 381).toInt ≤ 3008 := i38126
  refine W.widen (k := 0) (n := 0) (Nat.le_refl _) (Nat.le_refl _) ?_
  have q29 : (u27.1 0 306).toInt = (u22.1 0 306).toInt := congrArg Int32.toInt ((fr26.2.1 306 (by decide)).trans (show u22.1 0 306 = (u22.1 0 306) by rfl))
  have q30 : (u18.1 0 321).toInt = (u13.1 0 321).toInt := congrArg Int32.toInt ((fr17.2.1 321 (by decide)).trans (show u13.1 0 321 = (u13.1 0 321) by rfl))
  have q31 : (u22.1 0 321).toInt = (u18.1 0 321).toInt := congrArg Int32.toInt ((fr21.2.1 321 (by decide)).trans (show u18.1 0 321 = (u18.1 0 321) by rfl))
  have q32 : (u27.1 0 321).toInt = (u22.1 0 321).toInt := congrArg Int32.toInt ((fr26.2.1 321 (by decide)).trans (show u22.1 0 321 = (u22.1 0 321) by rfl))
  have q33 : (u18.1 0 326).toInt = (u13.1 0 326).toInt := congrArg Int32.toInt ((fr17.2.1 326 (by decide)).trans (show u13.1 0 326 = (u13.1 0 326) by rfl))
  have q34 : (u22.1 0 326).toInt = (u18.1 0 326).toInt := congrArg Int32.toInt ((fr21.2.1 326 (by decide)).trans (show u18.1 0 326 = (u18.1 0 326) by rfl))
  have q35 : (u27.1 0 326).toInt = (u22.1 0 326).toInt := congrArg Int32.toInt ((fr26.2.1 326 (by decide)).trans (show u22.1 0 326 = (u22.1 0 326) by rfl))
  refine W.sz (fun hz => ?_)
  refine vx_ret ?_
  refine W.widen (k := 1) (n := 6) (Nat.le_of_ble_eq_true rfl) (Nat.le_of_ble_eq_true rfl) ?_
  exact W.vret hx hb hr (fun t ht9 hW => ⟨⟨u27, rfl, ⟨(FC.tr (FC.tr (FC.tr (FC.tr (FC.tr (FC.rf _) (FC.up fr1 (by decide) (by decide))) (FC.up fr12 (by decide) (by decide))) (FC.up fr17 (by decide) (by decide))) (FC.up fr21 (by decide) (by decide))) (FC.up fr26 (by decide) (by decide))), (show 0 ≤ (u27.1 0 306).toInt ∧ (u27.1 0 306).toInt ≤ 40 from (om_9c4f3a2e9c i30612 q20 i30621 pj21 q29)), (show 0 ≤ (u27.1 0 321).toInt ∧ (u27.1 0 321).toInt ≤ 501 from (om_ca65317fd6 i32112 q30 q31 q32)), (show 0 ≤ (u27.1 0 326).toInt ∧ (u27.1 0 326).toInt ≤ 420 from (om_ba86cd30dc i32612 q33 q34 q35)), (show 0 ≤ (u27.1 0 381).toInt ∧ (u27.1 0 381).toInt ≤ 3008 from (om_e78eec72e1 i38126)), (show (u27.1 0 306).toInt = (v.1 0 306).toInt from (om_2e8782e245 pj1 po12 q20 pj21 q29))⟩, ⟨by rw [ht9]; exact hP, hD⟩, by rw [ht9]; exact hz⟩, hS.F ht9⟩) hS.2.2 dX2_index_39
theorem om_9b72727de8 {n0 n1 : Nat} (h0 : n0 = n1 + 1) : (8 * n1 + 16) + 1 ≤ 8 * n0 + 14 := by omega
theorem om_4ab10b36cd {n0 n1 : Nat} (h0 : n0 = n1 + 1) : 8 + (2 + 11) + 28 * (8 * n1 + 16) ≤ 28 * (8 * n0 + 14) := by omega
theorem om_bfd497b3b5 {x0 x1 x2 : Int} (h0 : 0 ≤ x0 ∧ x0 ≤ 40) (h1 : x1 = x0 + 1) (h2 : x2 = x1) : 1 ≤ x2 := by omega
theorem om_29de771f47 {x0 x1 x2 : Int} (h0 : 0 ≤ x0 ∧ x0 ≤ 40) (h1 : 0 ≤ x1 ∧ x1 ≤ 40) (h2 : x1 = x0 - 1) (h3 : x2 = x1) : 0 ≤ x2 ∧ x2 ≤ 40 := by omega
theorem om_00cb03f044 {x0 x1 x2 x3 x4 : Int} (h0 : x0 = x1 + 1) (h1 : x2 = x0) (h2 : x3 = x2 - 1) (h3 : x4 = x3) : x4 = x1 := by omega
set_option maxHeartbeats 16000000 in
set_option maxRecDepth 100000 in
theorem c_x_X2_unary (l : Launch) (n : Nat) (ihO : ∀ m, n = m + 1 → Cq_operand l m) (dC : Nat → ClassId) (dI : Nat → Nat → Nat) (cI cB cZ cJ cR : ClassId) (tb : Nat → Nat) (sz : Nat) (ad : Nat → Nat) (pr : Int32 → Nat) (N : Nat) (L1 L2 : List Nat) (v : MS) (pa : Int32) (ps : Int32) (z304 : 0 ≤ (v.1 0 304).toInt ∧ (v.1 0 304).toInt ≤ 1503) (z306 : 0 ≤ (v.1 0 306).toInt ∧ (v.1 0 306).toInt ≤ 40) (z312 : 0 ≤ (v.1 0 312).toInt ∧ (v.1 0 312).toInt ≤ 500) (z321 : 0 ≤ (v.1 0 321).toInt ∧ (v.1 0 321).toInt ≤ 501) (z326 : 0 ≤ (v.1 0 326).toInt ∧ (v.1 0 326).toInt ≤ 420) (z373 : 0 ≤ (v.1 0 373).toInt ∧ (v.1 0 373).toInt ≤ 4000) (z381 : 0 ≤ (v.1 0 381).toInt ∧ (v.1 0 381).toInt ≤ 3008) (hL1 : L1.length = 40) (hL2 : L2.length = 60) (rp : RP v) (hps : pr ps = ad 908) (es300 : (v.1 0 300) = ps) (es310 : (v.1 0 310) = ps) (hst : l.stackTraces = false) (zn : 40 ≤ (v.1 0 306).toInt + (n : Int)) : vx_Met l yX2_unary (Cond.code yX2_unary cX2_unary 2 none :: tw_W) ({ frames := 8 * n + 14, cells := 1, slots := 6, locals := 28 * (8 * n + 14) }) (pc_ (dC, dI) (tyS cI cB cZ cJ cR) tb (cW ad pr N cI cR L1 L2 v) sz [.ref (ad 902), .int pa]) (qvz_ (dC, dI) (cW ad pr N cI cR L1 L2 v) sz (fun (u : MS) => FC [305, 306, 307, 314, 315, 317, 321, 326, 381] [0, 316, 318, 319, 320, 324, 325, 378, 379, 380] v u ∧ (0 ≤ (u.1 0 306).toInt ∧ (u.1 0 306).toInt ≤ 40) ∧ (0 ≤ (u.1 0 321).toInt ∧ (u.1 0 321).toInt ≤ 501) ∧ (0 ≤ (u.1 0 326).toInt ∧ (u.1 0 326).toInt ≤ 420) ∧ (0 ≤ (u.1 0 381).toInt ∧ (u.1 0 381).toInt ≤ 3008) ∧ ((u.1 0 306).toInt = (v.1 0 306).toInt)) (fun (u : MS) => (cW ad pr N cI cR L1 L2 u))) (qxc (dC, dI) (cW ad pr N cI cR L1 L2 v) sz (fun (u : MS) => (cW ad pr N cI cR L1 L2 u)) (fun (u : MS) => FC xfl xal v u ∧ (u.1 0 308).toInt ≠ 0)) 1 6 (va_A (cW ad pr N cI cR L1 L2 v) sz) := by
  refine vx_ofW (cc := cX2_unary) (maxL := 2) (ret := none) (by decide) rfl ?_
  intro p e s m args below meth c s₁ B hml hnt hv
  obtain ⟨rfl, hsz, hP, hKK, hD0, hFx⟩ := hv
  have hK := hKK.1
  have hx := B.exec
  have hb := B.bytes
  have hr := B.returns
  have ht : ∀ w ∈ tw_W, w.before _ s = true := fun w h => atoms_spec (ws := Cond.code yX2_unary cX2_unary 2 none :: tw_W) B.pre w (List.mem_cons_of_mem _ h)
  have hown : s.vm.findClass RX2 = some m.cls := findClass_of_methodNamed B.named
  have hlocks := B.notSynchronized
  subst hsz
  unfold qvz_ qxc
  have hD := hD0.self (sz := s.heap.size)
  generalize hAe : va_A (cW ad pr N cI cR L1 L2 v) s.heap.size = A at hD hFx ⊢
  have hA : ∀ q : Nat, s.heap.size ≤ q → A q := fun q h => by rw [← hAe]; exact Or.inr h
  have hS : va_S A s.heap s.heap [] := va_S.rf
  have hl := lv_entry ([.ref (ad 902), .int pa]) (n := 2) (Nat.le_of_ble_eq_true rfl)
  rw [lg_entry_eq]
  generalize (lg_sl ([.ref (ad 902), .int pa]) ++ List.replicate (2 - (lg_sl ([.ref (ad 902), .int pa])).length) Slot.unset).toArray = ls at hl ⊢
  have hl : lv_has ls 2 [(0, .ref (ad 902)), (1, .int pa)] := hl
  refine lv_aload_n hx hb dX2_unary_0 rfl (lv_at hl 0 rfl) ?_
  refine va_get (D := (dC, dI)) (ci := 6) (fs := oF_X2 ad pr v) (v := .ref (ad 900)) (C := RX2) (T := TX2) (N := 5) hx hb ht itX2 hown hK hP 2 rfl rfl 0 (by decide) (ht _ tw_509) (fun _ h9 => h9) rfl dX2_unary_1 ?_
  refine W.sz (fun hz9 => ?_)
  refine czx_v (rx_Vk (n := 0) (As := []) (rest := []) hx hb hml hown ht hKK hFx hP hD hS hA (c_x_X9_open l dC dI cI cB cZ cJ cR tb s.heap.size ad pr N L1 L2 v ps (show 0 ≤ (v.1 0 304).toInt ∧ (v.1 0 304).toInt ≤ 1503 from (om_c99648273b z304)) (show 0 ≤ (v.1 0 306).toInt ∧ (v.1 0 306).toInt ≤ 40 from (om_7eaf33e007 z306)) (show 0 ≤ (v.1 0 373).toInt ∧ (v.1 0 373).toInt ≤ 4000 from (om_c74a68af25 z373)) (show pr ps = ad 908 from hps) (show (v.1 0 300) = ps from es300) (show l.stackTraces = false from hst)) tw_524 tw_525 (by decide +kernel) rfl rfl ⟨show 7 + 1 ≤ 8 * n + 14 from om_46126d3ba0, show 8 + (1 + 11) + 104 ≤ 28 * (8 * n + 14) from om_6017b980b8⟩ (List.range (cW ad pr N cI cR L1 L2 v).length) (rg_map _) (nd_range _) 0 rfl rfl rfl rfl hl.1 rfl (Nat.le_of_ble_eq_true rfl) dX2_unary_4 ⟨Nat.le_of_ble_eq_true rfl, Nat.le_of_ble_eq_true rfl⟩) hP hD hS hA (fun u9 ce9 q9 H locs hx9 hP hD hS hc9 hv9 hf9 => ?_) (fun u2 H locs hw1 hP hD hS hz8 => ?_)
  · exact vx_out (fun x h9 => (hnt x h9).elim) hlocks hc9 hv9 hf9 (fun t9 ht9 hv8 => ⟨u9, ⟨FC.tr (FC.rf _) hx9.1, hx9.2⟩, ⟨rfl, by rw [ht9]; exact hP, hD⟩, hS.F ht9⟩) hS.2.2 (Nat.le_refl _) (Nat.le_refl _)
  refine W.shrink (hz8.trans hz9) ?_
  obtain ⟨fr1, i3061, pj1⟩ := hw1
  refine lv_aload_n hx hb dX2_unary_7 rfl (lv_at hl 0 rfl) ?_
  refine lv_iconst (v := 0) hx hb dX2_unary_8 (by decide) ?_
  obtain ⟨n4, hn5⟩ : ∃ m, n = m + 1 := ex_z (om_ca6f0c0f01 zn i3061 pj1)
  have q6 : (u2.1 0 304).toInt = (v.1 0 304).toInt := congrArg Int32.toInt ((fr1.2.1 304 (by decide)).trans (show v.1 0 304 = (v.1 0 304) by rfl))
  have q7 : (u2.1 0 312).toInt = (v.1 0 312).toInt := congrArg Int32.toInt ((fr1.2.1 312 (by decide)).trans (show v.1 0 312 = (v.1 0 312) by rfl))
  have q8 : (u2.1 0 321).toInt = (v.1 0 321).toInt := congrArg Int32.toInt ((fr1.2.1 321 (by decide)).trans (show v.1 0 321 = (v.1 0 321) by rfl))
  have q9 : (u2.1 0 326).toInt = (v.1 0 326).toInt := congrArg Int32.toInt ((fr1.2.1 326 (by decide)).trans (show v.1 0 326 = (v.1 0 326) by rfl))
  have q10 : (u2.1 0 373).toInt = (v.1 0 373).toInt := congrArg Int32.toInt ((fr1.2.1 373 (by decide)).trans (show v.1 0 373 = (v.1 0 373) by rfl))
  have q11 : (u2.1 0 381).toInt = (v.1 0 381).toInt := congrArg Int32.toInt ((fr1.2.1 381 (by decide)).trans (show v.1 0 381 = (v.1 0 381) by rfl))
  refine W.sz (fun hz9 => ?_)
  refine czx_i (rx_Vk (n := 1) (As := [.int 0]) (rest := []) hx hb hml hown ht hKK hFx hP hD hS hA (ihO n4 hn5 dC dI cI cB cZ cJ cR tb H.size ad pr N L1 L2 u2 (0 : Int32) ps (show 0 ≤ (u2.1 0 304).toInt ∧ (u2.1 0 304).toInt ≤ 1503 from (om_73002589c1 z304 q6)) (show 0 ≤ (u2.1 0 306).toInt ∧ (u2.1 0 306).toInt ≤ 40 from (om_31a8ca9d36 z306 i3061 pj1)) (show 0 ≤ (u2.1 0 312).toInt ∧ (u2.1 0 312).toInt ≤ 500 from (om_f8376ff89c z312 q7)) (show 0 ≤ (u2.1 0 321).toInt ∧ (u2.1 0 321).toInt ≤ 501 from (om_ff27494c0e z321 q8)) (show 0 ≤ (u2.1 0 326).toInt ∧ (u2.1 0 326).toInt ≤ 420 from (om_8ed0dedb19 z326 q9)) (show 0 ≤ (u2.1 0 373).toInt ∧ (u2.1 0 373).toInt ≤ 4000 from (om_9084c127ed z373 q10)) (show 0 ≤ (u2.1 0 381).toInt ∧ (u2.1 0 381).toInt ≤ 3008 from (om_6e4eb11ad3 z381 q11)) (show L1.length = 40 from hL1) (show L2.length = 60 from hL2) (show RP u2 from ((show FC [305, 306, 307, 314, 315, 317, 321, 326, 381] [0, 316, 318, 319, 320, 324, 325, 378, 379, 380] v u2 from (FC.tr (FC.rf _) (FC.up fr1 (by decide) (by decide)))).1 rp)) (show pr ps = ad 908 from hps) (show (u2.1 0 300) = ps from (Eq.trans (fr1.2.1 300 (by decide)) es300)) (show (u2.1 0 310) = ps from (Eq.trans (fr1.2.1 310 (by decide)) es310)) (show l.stackTraces = false from hst) (show 40 ≤ (u2.1 0 306).toInt + (n4 : Int) from (om_5c65d2983c zn pj1 hn5))) tw_530 tw_531 (by decide +kernel) rfl rfl ⟨show (8 * n4 + 16) + 1 ≤ 8 * n + 14 from (om_9b72727de8 hn5), show 8 + (2 + 11) + 28 * (8 * n4 + 16) ≤ 28 * (8 * n + 14) from (om_4ab10b36cd hn5)⟩ (List.range (cW ad pr N cI cR L1 L2 u2).length) (rg_map _) (nd_range _) 2 rfl rfl rfl rfl hl.1 rfl (Nat.le_of_ble_eq_true rfl) dX2_unary_9 ⟨Nat.le_of_ble_eq_true rfl, Nat.le_of_ble_eq_true rfl⟩) hP hD hS hA (fun u9 ce9 q9 H locs hx9 hP hD hS hc9 hv9 hf9 => ?_) (fun r14 u13 H locs hw12 hP hD hS hz8 => ?_)
  · exact vx_out (fun x h9 => (hnt x h9).elim) hlocks hc9 hv9 hf9 (fun t9 ht9 hv8 => ⟨u9, ⟨FC.tr (FC.tr (FC.rf _) (FC.up fr1 (by decide) (by decide))) hx9.1, hx9.2⟩, ⟨rfl, by rw [ht9]; exact hP, hD⟩, hS.F ht9⟩) hS.2.2 (Nat.le_refl _) (Nat.le_refl _)
  refine W.shrink (hz8.trans hz9) ?_
  obtain ⟨fr12, i30612, i32112, i32612, i38112, po12, bz12⟩ := hw12
  have i30612 : 0 ≤ (u13.1 0 306).toInt ∧ (u13.1 0 306).toInt ≤ 40 := i30612
  have i32112 : 0 ≤ (u13.1 0 321).toInt ∧ (u13.1 0 321).toInt ≤ 501 := i32112
  have i32612 : 0 ≤ (u13.1 0 326).toInt ∧ (u13.1 0 326).toInt ≤ 420 := i32612
  have i38112 : 0 ≤ (u13.1 0 381).toInt ∧ (u13.1 0 381).toInt ≤ 3008 := i38112
  have po12 : (u13.1 0 306).toInt = (u2.1 0 306).toInt := po12
  have bz12 : r14 = 0 ∨ r14 = 1 := bz12
  refine lv_pop hx hb dX2_unary_12 rfl ?_
  refine lv_aload_n hx hb dX2_unary_13 rfl (lv_at hl 0 rfl) ?_
  refine va_get (D := (dC, dI)) (ci := 6) (fs := oF_X2 ad pr u13) (v := .ref (ad 900)) (C := RX2) (T := TX2) (N := 5) hx hb ht itX2 hown hK hP 2 rfl rfl 0 (by decide) (ht _ tw_509) (fun _ h9 => h9) rfl dX2_unary_14 ?_
  refine cu_v (rn_Vk (n := 0) (As := []) (rest := []) hx hb hml hown ht hKK hFx hP hD hS hA (c_x_X9_close l dC dI cI cB cZ cJ cR tb H.size ad pr N L1 L2 u13  (show 0 ≤ (u13.1 0 306).toInt ∧ (u13.1 0 306).toInt ≤ 40 from (om_7eaf33e007 i30612)) (show 1 ≤ (u13.1 0 306).toInt from (om_bfd497b3b5 z306 pj1 po12))) tw_528 tw_529 (by decide +kernel) rfl rfl ⟨show 0 + 1 ≤ 8 * n + 14 from om_2d92e09058, show 8 + (1 + 11) + 0 ≤ 28 * (8 * n + 14) from om_289622e6d2⟩ (List.range (cW ad pr N cI cR L1 L2 u13).length) (rg_map _) (nd_range _) 0 rfl rfl rfl rfl hl.1 rfl (Nat.le_of_ble_eq_true rfl) dX2_unary_17 ⟨Nat.le_of_ble_eq_true rfl, Nat.le_of_ble_eq_true rfl⟩) hP hD hS hA (fun u16 H locs hw15 hP hD hS => ?_)
  obtain ⟨fr15, i30615, pj15⟩ := hw15
  have i30615 : 0 ≤ (u16.1 0 306).toInt ∧ (u16.1 0 306).toInt ≤ 40 := i30615
  have pj15 : (u16.1 0 306).toInt = (u13.1 0 306).toInt - 1 := pj15
  refine W.widen (k := 0) (n := 0) (Nat.le_refl _) (Nat.le_refl _) ?_
  refine lv_aload_n hx hb dX2_unary_20 rfl (lv_at hl 0 rfl) ?_
  refine va_get (D := (dC, dI)) (ci := 6) (fs := oF_X2 ad pr u16) (v := .ref (ad 901)) (C := RX2) (T := TX2) (N := 5) hx hb ht itX2 hown hK hP 2 rfl rfl 1 (by decide) (ht _ tw_498) (fun _ h9 => h9) rfl dX2_unary_21 ?_
  refine lv_iload_n hx hb dX2_unary_24 rfl (lv_at hl 1 rfl) ?_
  refine lv_iconst (v := 0) hx hb dX2_unary_25 (by decide) ?_
  refine lv_iconst (v := 0) hx hb dX2_unary_26 (by decide) ?_
  have q18 : (u16.1 0 381).toInt = (u13.1 0 381).toInt := congrArg Int32.toInt ((fr15.2.1 381 (by decide)).trans (show u13.1 0 381 = (u13.1 0 381) by rfl))
  refine cu_v (rn_Vk (n := 3) (As := [.int pa, .int 0, .int 0]) (rest := []) hx hb hml hown ht hKK hFx hP hD hS hA (c_x_X1_add l dC dI cI cB cZ cJ cR tb H.size ad pr N L1 L2 u16 pa (0 : Int32) (0 : Int32) ps (show 0 ≤ (u16.1 0 381).toInt ∧ (u16.1 0 381).toInt ≤ 3008 from (om_6e4eb11ad3 i38112 q18)) (show pr ps = ad 908 from hps) (show (u16.1 0 310) = ps from (Eq.trans (fr15.2.1 310 (by decide)) (Eq.trans (fr12.2.1 310 (by decide)) (Eq.trans (fr1.2.1 310 (by decide)) es310))))) tw_499 tw_500 (by decide +kernel) rfl rfl ⟨show 0 + 1 ≤ 8 * n + 14 from om_2d92e09058, show 8 + (5 + 11) + 0 ≤ 28 * (8 * n + 14) from om_f68798533e⟩ (List.range (cW ad pr N cI cR L1 L2 u16).length) (rg_map _) (nd_range _) 1 rfl rfl rfl rfl hl.1 rfl (Nat.le_of_ble_eq_true rfl) dX2_unary_27 ⟨Nat.le_of_ble_eq_true rfl, Nat.le_of_ble_eq_true rfl⟩) hP hD hS hA (fun u20 H locs hw19 hP hD hS => ?_)
  obtain ⟨fr19, i38119⟩ := hw19
  have i38119 : 0 ≤ (u20.1 0 381).toInt ∧ (u20.1 0 381).toInt ≤ 3008 := i38119
  refine W.widen (k := 0) (n := 0) (Nat.le_refl _) (Nat.le_refl _) ?_
  have q22 : (u20.1 0 306).toInt = (u16.1 0 306).toInt := congrArg Int32.toInt ((fr19.2.1 306 (by decide)).trans (show u16.1 0 306 = (u16.1 0 306) by rfl))
  have q23 : (u16.1 0 321).toInt = (u13.1 0 321).toInt := congrArg Int32.toInt ((fr15.2.1 321 (by decide)).trans (show u13.1 0 321 = (u13.1 0 321) by rfl))
  have q24 : (u20.1 0 321).toInt = (u16.1 0 321).toInt := congrArg Int32.toInt ((fr19.2.1 321 (by decide)).trans (show u16.1 0 321 = (u16.1 0 321) by rfl))
  have q25 : (u16.1 0 326).toInt = (u13.1 0 326).toInt := congrArg Int32.toInt ((fr15.2.1 326 (by decide)).trans (show u13.1 0 326 = (u13.1 0 326) by rfl))
  have q26 : (u20.1 0 326).toInt = (u16.1 0 326).toInt := congrArg Int32.toInt ((fr19.2.1 326 (by decide)).trans (show u16.1 0 326 = (u16.1 0 326) by rfl))
  refine W.sz (fun hz => ?_)
  refine vx_ret ?_
  refine W.widen (k := 1) (n := 6) (Nat.le_of_ble_eq_true rfl) (Nat.le_of_ble_eq_true rfl) ?_
  exact W.vret hx hb hr (fun t ht9 hW => ⟨⟨u20, rfl, ⟨(FC.tr (FC.tr (FC.tr (FC.tr (FC.rf _) (FC.up fr1 (by decide) (by decide))) (FC.up fr12 (by decide) (by decide))) (FC.up fr15 (by decide) (by decide))) (FC.up fr19 (by decide) (by decide))), (show 0 ≤ (u20.1 0 306).toInt ∧ (u20.1 0 306).toInt ≤ 40 from (om_29de771f47 i30612 i30615 pj15 q22)), (show 0 ≤ (u20.1 0 321).toInt ∧ (u20.1 0 321).toInt ≤ 501 from (om_4dfa815534 i32112 q23 q24)), (show 0 ≤ (u20.1 0 326).toInt ∧ (u20.1 0 326).toInt ≤ 420 from (om_9591dea625 i32612 q25 q26)), (show 0 ≤ (u20.1 0 381).toInt ∧ (u20.1 0 381).toInt ≤ 3008 from (om_e78eec72e1 i38119)), (show (u20.1 0 306).toInt = (v.1 0 306).toInt from (om_00cb03f044 pj1 po12 pj15 q22))⟩, ⟨by rw [ht9]; exact hP, hD⟩, by rw [ht9]; exact hz⟩, hS.F ht9⟩) hS.2.2 dX2_unary_30
