theorem dX2_argument_0 : decode cX2_argument 0 = .ok (.aload_n 0, 1) := by decide +kernel
theorem dX2_argument_1 : decode cX2_argument 1 = .ok (.getfield 22, 3) := by decide +kernel
theorem dX2_argument_4 : decode cX2_argument 4 = .ok (.iconst 1, 1) := by decide +kernel
theorem dX2_argument_5 : decode cX2_argument 5 = .ok (.invokevirtual 75, 3) := by decide +kernel
theorem dX2_argument_8 : decode cX2_argument 8 = .ok (.ifCond .eq 9, 3) := by decide +kernel
theorem dX2_argument_17 : decode cX2_argument 17 = .ok (.aload_n 0, 1) := by decide +kernel
theorem dX2_argument_18 : decode cX2_argument 18 = .ok (.getfield 18, 3) := by decide +kernel
theorem dX2_argument_21 : decode cX2_argument 21 = .ok (.invokevirtual 162, 3) := by decide +kernel
theorem tw_516 : (.code yX9_makeDue cX9_makeDue 1 none : Cond) ∈ tw_W := tw_in (t8_4 (List.mem_of_getElem? (i := 126) rfl)) rfl
theorem tw_517 : ∀ w ∈ ([.methodLink RX2 162 yX9_makeDue, .instanceMethod yX9_makeDue, .selects RX9 yX9_makeDue yX9_makeDue, .initialized RX9] : List Cond), w ∈ tw_W := al_c (tw_in (t8_4 (List.mem_of_getElem? (i := 123) rfl)) rfl) (al_c (tw_in (t8_4 (List.mem_of_getElem? (i := 124) rfl)) rfl) (al_c (tw_in (t8_4 (List.mem_of_getElem? (i := 125) rfl)) rfl) (al_c (tw_in (t8_1 (List.mem_of_getElem? (i := 10) rfl)) rfl) al_n)))
theorem dX2_argument_24 : decode cX2_argument 24 = .ok (.aload_n 0, 1) := by decide +kernel
theorem dX2_argument_25 : decode cX2_argument 25 = .ok (.getfield 22, 3) := by decide +kernel
theorem dX2_argument_28 : decode cX2_argument 28 = .ok (.iload_n 1, 1) := by decide +kernel
theorem dX2_argument_29 : decode cX2_argument 29 = .ok (.invokevirtual 165, 3) := by decide +kernel
theorem tw_518 : (.code yX1_addArgument cX1_addArgument 2 none : Cond) ∈ tw_W := tw_in (t8_4 (List.mem_of_getElem? (i := 130) rfl)) rfl
theorem tw_519 : ∀ w ∈ ([.methodLink RX2 165 yX1_addArgument, .instanceMethod yX1_addArgument, .selects RX1 yX1_addArgument yX1_addArgument, .initialized RX1] : List Cond), w ∈ tw_W := al_c (tw_in (t8_4 (List.mem_of_getElem? (i := 127) rfl)) rfl) (al_c (tw_in (t8_4 (List.mem_of_getElem? (i := 128) rfl)) rfl) (al_c (tw_in (t8_4 (List.mem_of_getElem? (i := 129) rfl)) rfl) (al_c (tw_in (t8_1 (List.mem_of_getElem? (i := 11) rfl)) rfl) al_n)))
theorem dX2_argument_32 : decode cX2_argument 32 = .ok (.aload_n 0, 1) := by decide +kernel
theorem dX2_argument_33 : decode cX2_argument 33 = .ok (.iconst 1, 1) := by decide +kernel
theorem dX2_argument_34 : decode cX2_argument 34 = .ok (.invokevirtual 94, 3) := by decide +kernel
theorem tw_520 : (.code yX2_expression cX2_expression 5 none : Cond) ∈ tw_W := tw_in (t8_4 (List.mem_of_getElem? (i := 82) rfl)) rfl
theorem tw_521 : ∀ w ∈ ([.methodLink RX2 94 yX2_expression, .instanceMethod yX2_expression, .selects RX2 yX2_expression yX2_expression, .initialized RX2] : List Cond), w ∈ tw_W := al_c (tw_in (t8_4 (List.mem_of_getElem? (i := 101) rfl)) rfl) (al_c (tw_in (t8_4 (List.mem_of_getElem? (i := 80) rfl)) rfl) (al_c (tw_in (t8_4 (List.mem_of_getElem? (i := 81) rfl)) rfl) (al_c (tw_in (t8_1 (List.mem_of_getElem? (i := 12) rfl)) rfl) al_n)))
theorem dX2_argument_37 : decode cX2_argument 37 = .ok (.aload_n 0, 1) := by decide +kernel
theorem dX2_argument_38 : decode cX2_argument 38 = .ok (.getfield 22, 3) := by decide +kernel
theorem dX2_argument_41 : decode cX2_argument 41 = .ok (.iconst 4, 1) := by decide +kernel
theorem dX2_argument_42 : decode cX2_argument 42 = .ok (.aload_n 0, 1) := by decide +kernel
theorem dX2_argument_43 : decode cX2_argument 43 = .ok (.getfield 22, 3) := by decide +kernel
theorem dX2_argument_46 : decode cX2_argument 46 = .ok (.invokevirtual 72, 3) := by decide +kernel
theorem dX2_argument_49 : decode cX2_argument 49 = .ok (.iconst 0, 1) := by decide +kernel
theorem dX2_argument_50 : decode cX2_argument 50 = .ok (.invokevirtual 65, 3) := by decide +kernel
theorem dX2_argument_53 : decode cX2_argument 53 = .ok (.aload_n 0, 1) := by decide +kernel
theorem dX2_argument_54 : decode cX2_argument 54 = .ok (.getfield 22, 3) := by decide +kernel
theorem dX2_argument_57 : decode cX2_argument 57 = .ok (.dup, 1) := by decide +kernel
theorem dX2_argument_58 : decode cX2_argument 58 = .ok (.getfield 85, 3) := by decide +kernel
theorem dX2_argument_61 : decode cX2_argument 61 = .ok (.iconst 1, 1) := by decide +kernel
theorem dX2_argument_62 : decode cX2_argument 62 = .ok (.iadd, 1) := by decide +kernel
theorem dX2_argument_63 : decode cX2_argument 63 = .ok (.putfield 85, 3) := by decide +kernel
theorem dX2_argument_66 : decode cX2_argument 66 = .ok (.return_, 1) := by decide +kernel
theorem dX2_argument_11 : decode cX2_argument 11 = .ok (.iload_n 2, 1) := by decide +kernel
theorem dX2_argument_12 : decode cX2_argument 12 = .ok (.bipush 8, 2) := by decide +kernel
theorem dX2_argument_14 : decode cX2_argument 14 = .ok (.if_icmp .lt 10, 3) := by decide +kernel
theorem dX2_changeBy_0 : decode cX2_changeBy 0 = .ok (.iload 4, 2) := by decide +kernel
theorem dX2_changeBy_2 : decode cX2_changeBy 2 = .ok (.ifCond .eq 17, 3) := by decide +kernel
theorem dX2_changeBy_19 : decode cX2_changeBy 19 = .ok (.aload_n 0, 1) := by decide +kernel
theorem dX2_changeBy_20 : decode cX2_changeBy 20 = .ok (.iload_n 2, 1) := by decide +kernel
theorem dX2_changeBy_21 : decode cX2_changeBy 21 = .ok (.iload_n 3, 1) := by decide +kernel
theorem dX2_changeBy_22 : decode cX2_changeBy 22 = .ok (.invokevirtual 149, 3) := by decide +kernel
theorem tw_522 : (.code yX2_read cX2_read 3 none : Cond) ∈ tw_W := tw_in (t8_4 (List.mem_of_getElem? (i := 150) rfl)) rfl
theorem tw_523 : ∀ w ∈ ([.methodLink RX2 149 yX2_read, .instanceMethod yX2_read, .selects RX2 yX2_read yX2_read, .initialized RX2] : List Cond), w ∈ tw_W := al_c (tw_in (t8_4 (List.mem_of_getElem? (i := 147) rfl)) rfl) (al_c (tw_in (t8_4 (List.mem_of_getElem? (i := 149) rfl)) rfl) (al_c (tw_in (t7_2 (q := (yX2_read, 5)) (List.mem_of_getElem? (i := 14) rfl)) rfl) (al_c (tw_in (t8_1 (List.mem_of_getElem? (i := 12) rfl)) rfl) al_n)))
theorem dX2_changeBy_25 : decode cX2_changeBy 25 = .ok (.aload_n 0, 1) := by decide +kernel
theorem dX2_changeBy_26 : decode cX2_changeBy 26 = .ok (.getfield 22, 3) := by decide +kernel
theorem dX2_changeBy_29 : decode cX2_changeBy 29 = .ok (.invokevirtual 72, 3) := by decide +kernel
theorem dX2_changeBy_32 : decode cX2_changeBy 32 = .ok (.istore 5, 2) := by decide +kernel
theorem dX2_changeBy_34 : decode cX2_changeBy 34 = .ok (.aload_n 0, 1) := by decide +kernel
theorem dX2_changeBy_35 : decode cX2_changeBy 35 = .ok (.getfield 22, 3) := by decide +kernel
theorem dX2_changeBy_38 : decode cX2_changeBy 38 = .ok (.iconst 4, 1) := by decide +kernel
theorem dX2_changeBy_39 : decode cX2_changeBy 39 = .ok (.iload 5, 2) := by decide +kernel
theorem dX2_changeBy_41 : decode cX2_changeBy 41 = .ok (.iconst 0, 1) := by decide +kernel
theorem dX2_changeBy_42 : decode cX2_changeBy 42 = .ok (.invokevirtual 65, 3) := by decide +kernel
theorem dX2_changeBy_45 : decode cX2_changeBy 45 = .ok (.aload_n 0, 1) := by decide +kernel
theorem dX2_changeBy_46 : decode cX2_changeBy 46 = .ok (.getfield 22, 3) := by decide +kernel
theorem dX2_changeBy_49 : decode cX2_changeBy 49 = .ok (.dup, 1) := by decide +kernel
theorem dX2_changeBy_50 : decode cX2_changeBy 50 = .ok (.getfield 85, 3) := by decide +kernel
theorem dX2_changeBy_53 : decode cX2_changeBy 53 = .ok (.iconst 1, 1) := by decide +kernel
theorem dX2_changeBy_54 : decode cX2_changeBy 54 = .ok (.iadd, 1) := by decide +kernel
theorem dX2_changeBy_55 : decode cX2_changeBy 55 = .ok (.putfield 85, 3) := by decide +kernel
theorem dX2_changeBy_58 : decode cX2_changeBy 58 = .ok (.aload_n 0, 1) := by decide +kernel
theorem dX2_changeBy_59 : decode cX2_changeBy 59 = .ok (.iconst 1, 1) := by decide +kernel
theorem dX2_changeBy_60 : decode cX2_changeBy 60 = .ok (.invokevirtual 94, 3) := by decide +kernel
theorem dX2_changeBy_63 : decode cX2_changeBy 63 = .ok (.aload_n 0, 1) := by decide +kernel
theorem dX2_changeBy_64 : decode cX2_changeBy 64 = .ok (.getfield 22, 3) := by decide +kernel
theorem dX2_changeBy_67 : decode cX2_changeBy 67 = .ok (.dup, 1) := by decide +kernel
theorem dX2_changeBy_68 : decode cX2_changeBy 68 = .ok (.getfield 85, 3) := by decide +kernel
theorem dX2_changeBy_71 : decode cX2_changeBy 71 = .ok (.iconst 1, 1) := by decide +kernel
theorem dX2_changeBy_72 : decode cX2_changeBy 72 = .ok (.isub, 1) := by decide +kernel
theorem dX2_changeBy_73 : decode cX2_changeBy 73 = .ok (.putfield 85, 3) := by decide +kernel
theorem dX2_changeBy_76 : decode cX2_changeBy 76 = .ok (.aload_n 0, 1) := by decide +kernel
theorem dX2_changeBy_77 : decode cX2_changeBy 77 = .ok (.getfield 22, 3) := by decide +kernel
theorem dX2_changeBy_80 : decode cX2_changeBy 80 = .ok (.bipush 20, 2) := by decide +kernel
theorem dX2_changeBy_82 : decode cX2_changeBy 82 = .ok (.iload_n 1, 1) := by decide +kernel
theorem dX2_changeBy_83 : decode cX2_changeBy 83 = .ok (.iload 5, 2) := by decide +kernel
theorem dX2_changeBy_85 : decode cX2_changeBy 85 = .ok (.invokevirtual 65, 3) := by decide +kernel
theorem dX2_changeBy_88 : decode cX2_changeBy 88 = .ok (.return_, 1) := by decide +kernel
theorem dX2_changeBy_5 : decode cX2_changeBy 5 = .ok (.aload_n 0, 1) := by decide +kernel
theorem dX2_changeBy_6 : decode cX2_changeBy 6 = .ok (.getfield 22, 3) := by decide +kernel
theorem dX2_changeBy_9 : decode cX2_changeBy 9 = .ok (.bipush 10, 2) := by decide +kernel
theorem dX2_changeBy_11 : decode cX2_changeBy 11 = .ok (.iconst 0, 1) := by decide +kernel
theorem dX2_changeBy_12 : decode cX2_changeBy 12 = .ok (.iconst 0, 1) := by decide +kernel
theorem dX2_changeBy_13 : decode cX2_changeBy 13 = .ok (.invokevirtual 65, 3) := by decide +kernel
theorem dX2_changeBy_16 : decode cX2_changeBy 16 = .ok (.goto 9, 3) := by decide +kernel
theorem dX2_choice_0 : decode cX2_choice 0 = .ok (.aload_n 0, 1) := by decide +kernel
theorem dX2_choice_1 : decode cX2_choice 1 = .ok (.getfield 22, 3) := by decide +kernel
theorem dX2_choice_4 : decode cX2_choice 4 = .ok (.invokevirtual 58, 3) := by decide +kernel
theorem dX2_choice_7 : decode cX2_choice 7 = .ok (.istore_n 1, 1) := by decide +kernel
theorem dX2_choice_8 : decode cX2_choice 8 = .ok (.aload_n 0, 1) := by decide +kernel
theorem dX2_choice_9 : decode cX2_choice 9 = .ok (.getfield 22, 3) := by decide +kernel
theorem dX2_choice_12 : decode cX2_choice 12 = .ok (.invokevirtual 58, 3) := by decide +kernel
theorem dX2_choice_15 : decode cX2_choice 15 = .ok (.istore_n 2, 1) := by decide +kernel
theorem dX2_choice_16 : decode cX2_choice 16 = .ok (.aload_n 0, 1) := by decide +kernel
theorem dX2_choice_17 : decode cX2_choice 17 = .ok (.getfield 18, 3) := by decide +kernel
theorem dX2_choice_20 : decode cX2_choice 20 = .ok (.invokevirtual 91, 3) := by decide +kernel
theorem tw_524 : (.code yX9_open cX9_open 1 none : Cond) ∈ tw_W := tw_in (t8_4 (List.mem_of_getElem? (i := 12) rfl)) rfl
theorem tw_525 : ∀ w ∈ ([.methodLink RX2 91 yX9_open, .instanceMethod yX9_open, .selects RX9 yX9_open yX9_open, .initialized RX9] : List Cond), w ∈ tw_W := al_c (tw_in (t8_4 (List.mem_of_getElem? (i := 92) rfl)) rfl) (al_c (tw_in (t8_4 (List.mem_of_getElem? (i := 10) rfl)) rfl) (al_c (tw_in (t8_4 (List.mem_of_getElem? (i := 11) rfl)) rfl) (al_c (tw_in (t8_1 (List.mem_of_getElem? (i := 10) rfl)) rfl) al_n)))
theorem dX2_choice_23 : decode cX2_choice 23 = .ok (.aload_n 0, 1) := by decide +kernel
theorem dX2_choice_24 : decode cX2_choice 24 = .ok (.getfield 22, 3) := by decide +kernel
theorem dX2_choice_27 : decode cX2_choice 27 = .ok (.bipush 16, 2) := by decide +kernel
theorem dX2_choice_29 : decode cX2_choice 29 = .ok (.iload_n 1, 1) := by decide +kernel
theorem dX2_choice_30 : decode cX2_choice 30 = .ok (.iconst 0, 1) := by decide +kernel
theorem dX2_choice_31 : decode cX2_choice 31 = .ok (.invokevirtual 65, 3) := by decide +kernel
theorem dX2_choice_34 : decode cX2_choice 34 = .ok (.aload_n 0, 1) := by decide +kernel
theorem dX2_choice_35 : decode cX2_choice 35 = .ok (.iconst 1, 1) := by decide +kernel
theorem dX2_choice_36 : decode cX2_choice 36 = .ok (.invokevirtual 94, 3) := by decide +kernel
theorem dX2_choice_39 : decode cX2_choice 39 = .ok (.aload_n 0, 1) := by decide +kernel
theorem dX2_choice_40 : decode cX2_choice 40 = .ok (.getfield 18, 3) := by decide +kernel
theorem dX2_choice_43 : decode cX2_choice 43 = .ok (.bipush 39, 2) := by decide +kernel
theorem dX2_choice_45 : decode cX2_choice 45 = .ok (.invokevirtual 98, 3) := by decide +kernel
theorem tw_526 : (.code yX9_expect cX9_expect 2 none : Cond) ∈ tw_W := tw_in (t8_3 (List.mem_of_getElem? (i := 114) rfl)) rfl
theorem tw_527 : ∀ w ∈ ([.methodLink RX2 98 yX9_expect, .instanceMethod yX9_expect, .selects RX9 yX9_expect yX9_expect, .initialized RX9] : List Cond), w ∈ tw_W := al_c (tw_in (t8_4 (List.mem_of_getElem? (i := 100) rfl)) rfl) (al_c (tw_in (t8_3 (List.mem_of_getElem? (i := 112) rfl)) rfl) (al_c (tw_in (t8_3 (List.mem_of_getElem? (i := 113) rfl)) rfl) (al_c (tw_in (t8_1 (List.mem_of_getElem? (i := 10) rfl)) rfl) al_n)))
theorem dX2_choice_48 : decode cX2_choice 48 = .ok (.aload_n 0, 1) := by decide +kernel
theorem dX2_choice_49 : decode cX2_choice 49 = .ok (.getfield 22, 3) := by decide +kernel
theorem dX2_choice_52 : decode cX2_choice 52 = .ok (.bipush 19, 2) := by decide +kernel
theorem dX2_choice_54 : decode cX2_choice 54 = .ok (.iload_n 2, 1) := by decide +kernel
theorem dX2_choice_55 : decode cX2_choice 55 = .ok (.iconst 0, 1) := by decide +kernel
theorem dX2_choice_56 : decode cX2_choice 56 = .ok (.invokevirtual 65, 3) := by decide +kernel
theorem dX2_choice_59 : decode cX2_choice 59 = .ok (.aload_n 0, 1) := by decide +kernel
theorem dX2_choice_60 : decode cX2_choice 60 = .ok (.getfield 22, 3) := by decide +kernel
theorem dX2_choice_63 : decode cX2_choice 63 = .ok (.iload_n 1, 1) := by decide +kernel
theorem dX2_choice_64 : decode cX2_choice 64 = .ok (.invokevirtual 88, 3) := by decide +kernel
theorem dX2_choice_67 : decode cX2_choice 67 = .ok (.aload_n 0, 1) := by decide +kernel
theorem dX2_choice_68 : decode cX2_choice 68 = .ok (.iconst 0, 1) := by decide +kernel
theorem dX2_choice_69 : decode cX2_choice 69 = .ok (.invokevirtual 94, 3) := by decide +kernel
theorem dX2_choice_72 : decode cX2_choice 72 = .ok (.aload_n 0, 1) := by decide +kernel
theorem dX2_choice_73 : decode cX2_choice 73 = .ok (.getfield 22, 3) := by decide +kernel
theorem dX2_choice_76 : decode cX2_choice 76 = .ok (.iload_n 2, 1) := by decide +kernel
theorem dX2_choice_77 : decode cX2_choice 77 = .ok (.invokevirtual 88, 3) := by decide +kernel
theorem dX2_choice_80 : decode cX2_choice 80 = .ok (.aload_n 0, 1) := by decide +kernel
theorem dX2_choice_81 : decode cX2_choice 81 = .ok (.getfield 18, 3) := by decide +kernel
theorem dX2_choice_84 : decode cX2_choice 84 = .ok (.invokevirtual 101, 3) := by decide +kernel
theorem tw_528 : (.code yX9_close cX9_close 1 none : Cond) ∈ tw_W := tw_in (t8_4 (List.mem_of_getElem? (i := 50) rfl)) rfl
theorem tw_529 : ∀ w ∈ ([.methodLink RX2 101 yX9_close, .instanceMethod yX9_close, .selects RX9 yX9_close yX9_close, .initialized RX9] : List Cond), w ∈ tw_W := al_c (tw_in (t8_4 (List.mem_of_getElem? (i := 93) rfl)) rfl) (al_c (tw_in (t8_4 (List.mem_of_getElem? (i := 48) rfl)) rfl) (al_c (tw_in (t8_4 (List.mem_of_getElem? (i := 49) rfl)) rfl) (al_c (tw_in (t8_1 (List.mem_of_getElem? (i := 10) rfl)) rfl) al_n)))
theorem dX2_choice_87 : decode cX2_choice 87 = .ok (.return_, 1) := by decide +kernel
theorem dX2_index_0 : decode cX2_index 0 = .ok (.aload_n 0, 1) := by decide +kernel
theorem dX2_index_1 : decode cX2_index 1 = .ok (.getfield 18, 3) := by decide +kernel
theorem dX2_index_4 : decode cX2_index 4 = .ok (.invokevirtual 91, 3) := by decide +kernel
theorem dX2_index_7 : decode cX2_index 7 = .ok (.aload_n 0, 1) := by decide +kernel
theorem dX2_index_8 : decode cX2_index 8 = .ok (.iconst 1, 1) := by decide +kernel
theorem dX2_index_9 : decode cX2_index 9 = .ok (.invokevirtual 94, 3) := by decide +kernel
theorem dX2_index_12 : decode cX2_index 12 = .ok (.aload_n 0, 1) := by decide +kernel
theorem dX2_index_13 : decode cX2_index 13 = .ok (.getfield 18, 3) := by decide +kernel
theorem dX2_index_16 : decode cX2_index 16 = .ok (.bipush 35, 2) := by decide +kernel
theorem dX2_index_18 : decode cX2_index 18 = .ok (.invokevirtual 98, 3) := by decide +kernel
theorem dX2_index_21 : decode cX2_index 21 = .ok (.aload_n 0, 1) := by decide +kernel
theorem dX2_index_22 : decode cX2_index 22 = .ok (.getfield 18, 3) := by decide +kernel
theorem dX2_index_25 : decode cX2_index 25 = .ok (.invokevirtual 101, 3) := by decide +kernel
theorem dX2_index_28 : decode cX2_index 28 = .ok (.aload_n 0, 1) := by decide +kernel
theorem dX2_index_29 : decode cX2_index 29 = .ok (.getfield 22, 3) := by decide +kernel
theorem dX2_index_32 : decode cX2_index 32 = .ok (.bipush 7, 2) := by decide +kernel
theorem dX2_index_34 : decode cX2_index 34 = .ok (.iload_n 1, 1) := by decide +kernel
theorem dX2_index_35 : decode cX2_index 35 = .ok (.iconst 0, 1) := by decide +kernel
theorem dX2_index_36 : decode cX2_index 36 = .ok (.invokevirtual 65, 3) := by decide +kernel
theorem dX2_index_39 : decode cX2_index 39 = .ok (.return_, 1) := by decide +kernel
theorem dX2_unary_0 : decode cX2_unary 0 = .ok (.aload_n 0, 1) := by decide +kernel
theorem dX2_unary_1 : decode cX2_unary 1 = .ok (.getfield 18, 3) := by decide +kernel
theorem dX2_unary_4 : decode cX2_unary 4 = .ok (.invokevirtual 91, 3) := by decide +kernel
theorem dX2_unary_7 : decode cX2_unary 7 = .ok (.aload_n 0, 1) := by decide +kernel
theorem dX2_unary_8 : decode cX2_unary 8 = .ok (.iconst 0, 1) := by decide +kernel
theorem dX2_unary_9 : decode cX2_unary 9 = .ok (.invokevirtual 30, 3) := by decide +kernel
theorem tw_530 : (.code yX2_operand cX2_operand 2 (some .boolean) : Cond) ∈ tw_W := tw_in (t8_4 (List.mem_of_getElem? (i := 86) rfl)) rfl
theorem tw_531 : ∀ w ∈ ([.methodLink RX2 30 yX2_operand, .instanceMethod yX2_operand, .selects RX2 yX2_operand yX2_operand, .initialized RX2] : List Cond), w ∈ tw_W := al_c (tw_in (t8_4 (List.mem_of_getElem? (i := 83) rfl)) rfl) (al_c (tw_in (t8_4 (List.mem_of_getElem? (i := 85) rfl)) rfl) (al_c (tw_in (t7_2 (q := (yX2_operand, 5)) (List.mem_of_getElem? (i := 6) rfl)) rfl) (al_c (tw_in (t8_1 (List.mem_of_getElem? (i := 12) rfl)) rfl) al_n)))
theorem dX2_unary_12 : decode cX2_unary 12 = .ok (.pop, 1) := by decide +kernel
theorem dX2_unary_13 : decode cX2_unary 13 = .ok (.aload_n 0, 1) := by decide +kernel
theorem dX2_unary_14 : decode cX2_unary 14 = .ok (.getfield 18, 3) := by decide +kernel
theorem dX2_unary_17 : decode cX2_unary 17 = .ok (.invokevirtual 101, 3) := by decide +kernel
theorem dX2_unary_20 : decode cX2_unary 20 = .ok (.aload_n 0, 1) := by decide +kernel
theorem dX2_unary_21 : decode cX2_unary 21 = .ok (.getfield 22, 3) := by decide +kernel
theorem dX2_unary_24 : decode cX2_unary 24 = .ok (.iload_n 1, 1) := by decide +kernel
theorem dX2_unary_25 : decode cX2_unary 25 = .ok (.iconst 0, 1) := by decide +kernel
theorem dX2_unary_26 : decode cX2_unary 26 = .ok (.iconst 0, 1) := by decide +kernel
theorem dX2_unary_27 : decode cX2_unary 27 = .ok (.invokevirtual 65, 3) := by decide +kernel
theorem dX2_unary_30 : decode cX2_unary 30 = .ok (.return_, 1) := by decide +kernel
def Cq_expression (l : Launch) (n : Nat) : Prop := ∀ (dC : Nat → ClassId) (dI : Nat → Nat → Nat) (cI cB cZ cJ cR : ClassId) (tb : Nat → Nat) (sz : Nat) (ad : Nat → Nat) (pr : Int32 → Nat) (N : Nat) (L1 L2 : List Nat) (v : MS) (pa : Int32) (ps : Int32) (z304 : 0 ≤ (v.1 0 304).toInt ∧ (v.1 0 304).toInt ≤ 1503) (z305 : 0 ≤ (v.1 0 305).toInt ∧ (v.1 0 305).toInt ≤ 1500) (z306 : 0 ≤ (v.1 0 306).toInt ∧ (v.1 0 306).toInt ≤ 40) (z312 : 0 ≤ (v.1 0 312).toInt ∧ (v.1 0 312).toInt ≤ 500) (z321 : 0 ≤ (v.1 0 321).toInt ∧ (v.1 0 321).toInt ≤ 501) (z326 : 0 ≤ (v.1 0 326).toInt ∧ (v.1 0 326).toInt ≤ 420) (z373 : 0 ≤ (v.1 0 373).toInt ∧ (v.1 0 373).toInt ≤ 4000) (z381 : 0 ≤ (v.1 0 381).toInt ∧ (v.1 0 381).toInt ≤ 3008) (hL1 : L1.length = 40) (hL2 : L2.length = 60) (rp : RP v) (hps : pr ps = ad 908) (es300 : (v.1 0 300) = ps) (es310 : (v.1 0 310) = ps) (hst : l.stackTraces = false) (zd : (v.1 0 381).toInt + (v.1 0 326).toInt - 2 * (v.1 0 305).toInt ≤ 0) (zlb : 0 ≤ (v.1 0 317).toInt ∧ (v.1 0 317).toInt - 4 * (v.1 0 305).toInt ≤ 8) (zn : 40 ≤ (v.1 0 306).toInt + (n : Int)), vx_Met l yX2_expression (Cond.code yX2_expression cX2_expression 5 none :: tw_W) ({ frames := 8 * n + 20, cells := 1, slots := 6, locals := 28 * (8 * n + 20) }) (pc_ (dC, dI) (tyS cI cB cZ cJ cR) tb (cW ad pr N cI cR L1 L2 v) sz [.ref (ad 902), .int pa]) (qvz_ (dC, dI) (cW ad pr N cI cR L1 L2 v) sz (fun (u : MS) => FC [305, 306, 307, 314, 315, 317, 321, 326, 381] [0, 316, 318, 319, 320, 324, 325, 378, 379, 380] v u ∧ (QE L1 L2 n v pa false u) ∧ (0 ≤ (u.1 0 305).toInt ∧ (u.1 0 305).toInt ≤ 1500) ∧ (0 ≤ (u.1 0 306).toInt ∧ (u.1 0 306).toInt ≤ 40) ∧ (0 ≤ (u.1 0 321).toInt ∧ (u.1 0 321).toInt ≤ 501) ∧ (0 ≤ (u.1 0 326).toInt ∧ (u.1 0 326).toInt ≤ 420) ∧ (0 ≤ (u.1 0 381).toInt ∧ (u.1 0 381).toInt ≤ 3008) ∧ ((u.1 0 381).toInt + (u.1 0 326).toInt - 2 * (u.1 0 305).toInt + (1) ≤ (v.1 0 381).toInt + (v.1 0 326).toInt - 2 * (v.1 0 305).toInt) ∧ ((v.1 0 305).toInt + 1 ≤ (u.1 0 305).toInt) ∧ ((v.1 0 317).toInt ≤ (u.1 0 317).toInt ∧ (u.1 0 317).toInt - 4 * (u.1 0 305).toInt ≤ (v.1 0 317).toInt - 4 * (v.1 0 305).toInt + 0) ∧ ((u.1 0 306).toInt = (v.1 0 306).toInt) ∧ (RS v u)) (fun (u : MS) => (cW ad pr N cI cR L1 L2 u))) (qxc (dC, dI) (cW ad pr N cI cR L1 L2 v) sz (fun (u : MS) => (cW ad pr N cI cR L1 L2 u)) (fun (u : MS) => FC xfl xal v u ∧ (u.1 0 308).toInt ≠ 0 ∧ (QE L1 L2 n v pa true u))) 1 6 (va_A (cW ad pr N cI cR L1 L2 v) sz)
def Cq_operand (l : Launch) (n : Nat) : Prop := ∀ (dC : Nat → ClassId) (dI : Nat → Nat → Nat) (cI cB cZ cJ cR : ClassId) (tb : Nat → Nat) (sz : Nat) (ad : Nat → Nat) (pr : Int32 → Nat) (N : Nat) (L1 L2 : List Nat) (v : MS) (pa : Int32) (ps : Int32) (z304 : 0 ≤ (v.1 0 304).toInt ∧ (v.1 0 304).toInt ≤ 1503) (z305 : 0 ≤ (v.1 0 305).toInt ∧ (v.1 0 305).toInt ≤ 1500) (z306 : 0 ≤ (v.1 0 306).toInt ∧ (v.1 0 306).toInt ≤ 40) (z312 : 0 ≤ (v.1 0 312).toInt ∧ (v.1 0 312).toInt ≤ 500) (z321 : 0 ≤ (v.1 0 321).toInt ∧ (v.1 0 321).toInt ≤ 501) (z326 : 0 ≤ (v.1 0 326).toInt ∧ (v.1 0 326).toInt ≤ 420) (z373 : 0 ≤ (v.1 0 373).toInt ∧ (v.1 0 373).toInt ≤ 4000) (z381 : 0 ≤ (v.1 0 381).toInt ∧ (v.1 0 381).toInt ≤ 3008) (hL1 : L1.length = 40) (hL2 : L2.length = 60) (rp : RP v) (hps : pr ps = ad 908) (es300 : (v.1 0 300) = ps) (es310 : (v.1 0 310) = ps) (hst : l.stackTraces = false) (zd : (v.1 0 381).toInt + (v.1 0 326).toInt - 2 * (v.1 0 305).toInt ≤ 0) (zlb : 0 ≤ (v.1 0 317).toInt ∧ (v.1 0 317).toInt - 4 * (v.1 0 305).toInt ≤ 8) (zn : 40 ≤ (v.1 0 306).toInt + (n : Int)), vx_Met l yX2_operand (Cond.code yX2_operand cX2_operand 2 (some .boolean) :: tw_W) ({ frames := 8 * n + 16, cells := 1, slots := 6, locals := 28 * (8 * n + 16) }) (pc_ (dC, dI) (tyS cI cB cZ cJ cR) tb (cW ad pr N cI cR L1 L2 v) sz [.ref (ad 902), .int pa]) (qiz_ (dC, dI) (cW ad pr N cI cR L1 L2 v) sz (fun (r : Int32) (u : MS) => FC [305, 306, 307, 314, 315, 317, 321, 326, 381] [0, 316, 318, 319, 320, 324, 325, 378, 379, 380] v u ∧ (QO L1 L2 n v pa false r u) ∧ (0 ≤ (u.1 0 305).toInt ∧ (u.1 0 305).toInt ≤ 1500) ∧ (0 ≤ (u.1 0 306).toInt ∧ (u.1 0 306).toInt ≤ 40) ∧ (0 ≤ (u.1 0 321).toInt ∧ (u.1 0 321).toInt ≤ 501) ∧ (0 ≤ (u.1 0 326).toInt ∧ (u.1 0 326).toInt ≤ 420) ∧ (0 ≤ (u.1 0 381).toInt ∧ (u.1 0 381).toInt ≤ 3008) ∧ ((u.1 0 381).toInt + (u.1 0 326).toInt - 2 * (u.1 0 305).toInt + (1) ≤ (v.1 0 381).toInt + (v.1 0 326).toInt - 2 * (v.1 0 305).toInt) ∧ ((v.1 0 305).toInt + 1 ≤ (u.1 0 305).toInt) ∧ ((v.1 0 317).toInt ≤ (u.1 0 317).toInt ∧ (u.1 0 317).toInt - 4 * (u.1 0 305).toInt ≤ (v.1 0 317).toInt - 4 * (v.1 0 305).toInt + 0) ∧ ((u.1 0 306).toInt = (v.1 0 306).toInt) ∧ (RS v u) ∧ (r = 0 ∨ r = 1)) (fun (u : MS) => (cW ad pr N cI cR L1 L2 u))) (qxc (dC, dI) (cW ad pr N cI cR L1 L2 v) sz (fun (u : MS) => (cW ad pr N cI cR L1 L2 u)) (fun (u : MS) => FC xfl xal v u ∧ (u.1 0 308).toInt ≠ 0 ∧ (QO L1 L2 n v pa true 0 u))) 1 6 (va_A (cW ad pr N cI cR L1 L2 v) sz)
theorem om_0c36fa896d {n0 : Nat} : 1 + 1 ≤ 8 * n0 + 21 := by omega
theorem om_ec0cce5493 {n0 : Nat} : 8 + (3 + 11) + 15 ≤ 28 * (8 * n0 + 21) := by omega
theorem om_a43f662a07 {n0 : Nat} : 0 + 1 ≤ 8 * n0 + 21 := by omega
theorem om_9f2e4fbaf3 {n0 : Nat} : 8 + (1 + 11) + 0 ≤ 28 * (8 * n0 + 21) := by omega
theorem om_b45810c062 {n0 : Nat} : 8 + (2 + 11) + 0 ≤ 28 * (8 * n0 + 21) := by omega
theorem om_57e3d9ffbd {x0 x1 x2 x3 : Int} (h0 : 0 ≤ x0 ∧ x0 ≤ 1503) (h1 : x1 = x0) (h2 : x2 = x1) (h3 : x3 = x2) : 0 ≤ x3 ∧ x3 ≤ 1503 := by omega
theorem om_2cfcbbe098 {x0 x1 x2 x3 : Int} (h0 : 0 ≤ x0 ∧ x0 ≤ 1500) (h1 : x1 = x0) (h2 : x2 = x1) (h3 : x3 = x2) : 0 ≤ x3 ∧ x3 ≤ 1500 := by omega
theorem om_ca65317fd6 {x0 x1 x2 x3 : Int} (h0 : 0 ≤ x0 ∧ x0 ≤ 501) (h1 : x1 = x0) (h2 : x2 = x1) (h3 : x3 = x2) : 0 ≤ x3 ∧ x3 ≤ 501 := by omega
theorem om_ba86cd30dc {x0 x1 x2 x3 : Int} (h0 : 0 ≤ x0 ∧ x0 ≤ 420) (h1 : x1 = x0) (h2 : x2 = x1) (h3 : x3 = x2) : 0 ≤ x3 ∧ x3 ≤ 420 := by omega
theorem om_2a08b4c68c {x0 x1 x2 x3 x4 x5 : Int} (h0 : 0 ≤ x0 ∧ x0 ≤ 1500) (h1 : 0 ≤ x1 ∧ x1 ≤ 420) (h2 : 0 ≤ x2 ∧ x2 ≤ 3008) (h3 : x2 + x1 - 2 * x0 ≤ 0) (h4 : x3 = x2) (h5 : x4 = x3) (h6 : x5 = x4) : 0 ≤ x5 ∧ x5 ≤ 3008 := by omega
theorem om_6c29df0123 {x0 x1 x2 x3 x4 x5 x6 x7 x8 x9 x10 x11 : Int} (h0 : x0 + x1 - 2 * x2 ≤ 0) (h1 : x3 = x2) (h2 : x4 = x1) (h3 : x5 = x0) (h4 : x6 = x3) (h5 : x7 = x4) (h6 : x8 = x5) (h7 : x9 = x6) (h8 : x10 = x7) (h9 : x11 = x8) : x11 + x10 - 2 * x9 ≤ 0 := by omega
theorem om_0933b5d08b {x0 x1 x2 x3 x4 x5 x6 x7 : Int} (h0 : 0 ≤ x0 ∧ x0 - 4 * x1 ≤ 8) (h1 : x2 = x1) (h2 : x3 = x0) (h3 : x4 = x2) (h4 : x5 = x3) (h5 : x6 = x4) (h6 : x7 = x5) : 0 ≤ x7 ∧ x7 - 4 * x6 ≤ 8 := by omega
theorem om_00c4deb960 {x0 x2 x3 x4 : Int} {n1 : Nat} (h0 : 40 ≤ x0 + (n1 : Int)) (h1 : x2 = x0) (h2 : x3 = x2) (h3 : x4 = x3) : 40 ≤ x4 + (n1 : Int) := by omega
theorem om_12a3a4432e {n0 : Nat} : (8 * n0 + 20) + 1 ≤ 8 * n0 + 21 := by omega
theorem om_daa41a5b32 {n0 : Nat} : 8 + (5 + 11) + 28 * (8 * n0 + 20) ≤ 28 * (8 * n0 + 21) := by omega
theorem om_149094688c {x0 x1 x2 x3 x4 x5 x6 x7 x8 x9 x10 x11 x12 x13 x14 : Int} (h0 : x0 + x1 - 2 * x2 ≤ 0) (h1 : x3 = x2) (h2 : x4 = x1) (h3 : x5 = x0) (h4 : x6 = x3) (h5 : x7 = x4) (h6 : x8 = x5) (h7 : x9 = x6) (h8 : x10 = x7) (h9 : x11 = x8) (h10 : 0 ≤ x12 ∧ x12 ≤ 1500) (h11 : 0 ≤ x13 ∧ x13 ≤ 420) (h12 : x14 + x13 - 2 * x12 + (1) ≤ x11 + x10 - 2 * x9) : x14 < 3008 := by omega
theorem om_78af4e5b79 {n0 : Nat} : 8 + (5 + 11) + 0 ≤ 28 * (8 * n0 + 21) := by omega
theorem om_8ed0dedb19 {x0 x1 : Int} (h0 : 0 ≤ x0 ∧ x0 ≤ 420) (h1 : x1 = x0) : 0 ≤ x1 ∧ x1 ≤ 420 := by omega
theorem om_2d8c7d66c3 {x0 x1 x2 x3 x4 x5 x6 x7 x8 x9 x10 x11 x12 x13 x14 x15 x16 x17 : Int} (h0 : x0 = x1) (h1 : x2 = x3) (h2 : x4 = x5) (h3 : x6 = x0) (h4 : x7 = x2) (h5 : x8 = x4) (h6 : x9 = x6) (h7 : x10 = x7) (h8 : x11 = x8) (h9 : x12 + x13 - 2 * x14 + (1) ≤ x11 + x10 - 2 * x9) (h10 : x15 = x14) (h11 : x16 = x13) (h12 : x17 = x12 + 1) : x17 + x16 - 2 * x15 + (0) ≤ x5 + x3 - 2 * x1 := by omega
theorem om_ee1ca4ca29 {x0 x1 x2 x3 x4 x5 : Int} (h0 : x0 = x1) (h1 : x2 = x0) (h2 : x3 = x2) (h3 : x3 + 1 ≤ x4) (h4 : x5 = x4) : x1 + 1 ≤ x5 := by omega
theorem om_a5d16e59ff {x0 x1 x2 x3 x4 x5 x6 x7 x8 x9 x10 x11 : Int} (h0 : x0 = x1) (h1 : x2 = x3) (h2 : x4 = x0) (h3 : x5 = x2) (h4 : x6 = x4) (h5 : x7 = x5) (h6 : x7 ≤ x8 ∧ x8 - 4 * x9 ≤ x7 - 4 * x6 + 0) (h7 : x10 = x9) (h8 : x11 = x8) : x3 ≤ x11 ∧ x11 - 4 * x10 ≤ x3 - 4 * x1 + 0 := by omega
theorem om_dd87ee851a {x0 x1 x2 : Int} (h0 : 0 ≤ x0 ∧ x0 ≤ 1503) (h1 : x1 = x0) (h2 : x2 = x1) : 0 ≤ x2 ∧ x2 ≤ 1503 := by omega
theorem om_15548f2e10 {x0 x1 x2 : Int} (h0 : 0 ≤ x0 ∧ x0 ≤ 1500) (h1 : x1 = x0) (h2 : x2 = x1) : 0 ≤ x2 ∧ x2 ≤ 1500 := by omega
theorem om_4dfa815534 {x0 x1 x2 : Int} (h0 : 0 ≤ x0 ∧ x0 ≤ 501) (h1 : x1 = x0) (h2 : x2 = x1) : 0 ≤ x2 ∧ x2 ≤ 501 := by omega
theorem om_03cd8767ac {x0 x1 x2 : Int} (h0 : 0 ≤ x0 ∧ x0 ≤ 4000) (h1 : x1 = x0) (h2 : x2 = x1) : 0 ≤ x2 ∧ x2 ≤ 4000 := by omega
theorem om_38c323128c {x0 x1 x2 x3 x4 : Int} (h0 : 0 ≤ x0 ∧ x0 ≤ 1500) (h1 : 0 ≤ x1 ∧ x1 ≤ 420) (h2 : 0 ≤ x2 ∧ x2 ≤ 3008) (h3 : x2 + x1 - 2 * x0 ≤ 0) (h4 : x3 = x2) (h5 : x4 = x3) : 0 ≤ x4 ∧ x4 ≤ 3008 := by omega
theorem om_2e0b7b3ff3 {x0 x1 x2 x3 x4 x5 x6 x7 x8 : Int} (h0 : x0 + x1 - 2 * x2 ≤ 0) (h1 : x3 = x2) (h2 : x4 = x1) (h3 : x5 = x0) (h4 : x6 = x3) (h5 : x7 = x4) (h6 : x8 = x5) : x8 + x7 - 2 * x6 ≤ 0 := by omega
theorem om_afcbeb2a1d {x0 x1 x2 x3 x4 x5 : Int} (h0 : 0 ≤ x0 ∧ x0 - 4 * x1 ≤ 8) (h1 : x2 = x1) (h2 : x3 = x0) (h3 : x4 = x2) (h4 : x5 = x3) : 0 ≤ x5 ∧ x5 - 4 * x4 ≤ 8 := by omega
theorem om_ec198adb23 {x0 x2 x3 : Int} {n1 : Nat} (h0 : 40 ≤ x0 + (n1 : Int)) (h1 : x2 = x0) (h2 : x3 = x2) : 40 ≤ x3 + (n1 : Int) := by omega
theorem om_85309a36cc {x0 x1 x2 x3 x4 x5 x6 x7 x8 x9 x10 x11 : Int} (h0 : x0 + x1 - 2 * x2 ≤ 0) (h1 : x3 = x2) (h2 : x4 = x1) (h3 : x5 = x0) (h4 : x6 = x3) (h5 : x7 = x4) (h6 : x8 = x5) (h7 : 0 ≤ x9 ∧ x9 ≤ 1500) (h8 : 0 ≤ x10 ∧ x10 ≤ 420) (h9 : x11 + x10 - 2 * x9 + (1) ≤ x8 + x7 - 2 * x6) : x11 < 3008 := by omega
theorem om_3109fb7488 {x0 x1 x2 x3 x4 x5 x6 x7 x8 x9 x10 x11 x12 x13 x14 : Int} (h0 : x0 = x1) (h1 : x2 = x3) (h2 : x4 = x5) (h3 : x6 = x0) (h4 : x7 = x2) (h5 : x8 = x4) (h6 : x9 + x10 - 2 * x11 + (1) ≤ x8 + x7 - 2 * x6) (h7 : x12 = x11) (h8 : x13 = x10) (h9 : x14 = x9 + 1) : x14 + x13 - 2 * x12 + (0) ≤ x5 + x3 - 2 * x1 := by omega
theorem om_1bbbe64f35 {x0 x1 x2 x3 x4 : Int} (h0 : x0 = x1) (h1 : x2 = x0) (h2 : x2 + 1 ≤ x3) (h3 : x4 = x3) : x1 + 1 ≤ x4 := by omega
theorem om_44bdb4aeba {x0 x1 x2 x3 x4 x5 x6 x7 x8 x9 : Int} (h0 : x0 = x1) (h1 : x2 = x3) (h2 : x4 = x0) (h3 : x5 = x2) (h4 : x5 ≤ x6 ∧ x6 - 4 * x7 ≤ x5 - 4 * x4 + 0) (h5 : x8 = x7) (h6 : x9 = x6) : x3 ≤ x9 ∧ x9 - 4 * x8 ≤ x3 - 4 * x1 + 0 := by omega
set_option maxHeartbeats 16000000 in
set_option maxRecDepth 100000 in
theorem c_x_X2_argument (l : Launch) (n : Nat) (E : Cq_expression l n) (dC : Nat → ClassId) (dI : Nat → Nat → Nat) (cI cB cZ cJ cR : ClassId) (tb : Nat → Nat) (sz : Nat) (ad : Nat → Nat) (pr : Int32 → Nat) (N : Nat) (L1 L2 : List Nat) (v : MS) (pa : Int32) (pb : Int32) (ps : Int32) (z304 : 0 ≤ (v.1 0 304).toInt ∧ (v.1 0 304).toInt ≤ 1503) (z305 : 0 ≤ (v.1 0 305).toInt ∧ (v.1 0 305).toInt ≤ 1500) (z306 : 0 ≤ (v.1 0 306).toInt ∧ (v.1 0 306).toInt ≤ 40) (z312 : 0 ≤ (v.1 0 312).toInt ∧ (v.1 0 312).toInt ≤ 500) (z321 : 0 ≤ (v.1 0 321).toInt ∧ (v.1 0 321).toInt ≤ 501) (z326 : 0 ≤ (v.1 0 326).toInt ∧ (v.1 0 326).toInt ≤ 420) (z373 : 0 ≤ (v.1 0 373).toInt ∧ (v.1 0 373).toInt ≤ 4000) (z381 : 0 ≤ (v.1 0 381).toInt ∧ (v.1 0 381).toInt ≤ 3008) (hL1 : L1.length = 40) (hL2 : L2.length = 60) (rp : RP v) (hps : pr ps = ad 908) (es300 : (v.1 0 300) = ps) (es310 : (v.1 0 310) = ps) (hst : l.stackTraces = false) (zd : (v.1 0 381).toInt + (v.1 0 326).toInt - 2 * (v.1 0 305).toInt ≤ 0) (zlb : 0 ≤ (v.1 0 317).toInt ∧ (v.1 0 317).toInt - 4 * (v.1 0 305).toInt ≤ 8) (zn : 40 ≤ (v.1 0 306).toInt + (n : Int)) : vx_Met l yX2_argument (Cond.code yX2_argument cX2_argument 3 none :: tw_W) ({ frames := 8 * n + 21, cells := 1, slots := 6, locals := 28 * (8 * n + 21) }) (pc_ (dC, dI) (tyS cI cB cZ cJ cR) tb (cW ad pr N cI cR L1 L2 v) sz [.ref (ad 902), .int pa, .int pb]) (qvz_ (dC, dI) (cW ad pr N cI cR L1 L2 v) sz (fun (u : MS) => FC [305, 306, 307, 314, 315, 317, 321, 326, 381] [0, 316, 318, 319, 320, 324, 325, 378, 379, 380] v u ∧ (Q_x_X2_argument L1 L2 (QE L1 L2 n) v pa pb false u) ∧ (0 ≤ (u.1 0 305).toInt ∧ (u.1 0 305).toInt ≤ 1500) ∧ (0 ≤ (u.1 0 306).toInt ∧ (u.1 0 306).toInt ≤ 40) ∧ (0 ≤ (u.1 0 321).toInt ∧ (u.1 0 321).toInt ≤ 501) ∧ (0 ≤ (u.1 0 326).toInt ∧ (u.1 0 326).toInt ≤ 420) ∧ (0 ≤ (u.1 0 381).toInt ∧ (u.1 0 381).toInt ≤ 3008) ∧ ((u.1 0 381).toInt + (u.1 0 326).toInt - 2 * (u.1 0 305).toInt + (0) ≤ (v.1 0 381).toInt + (v.1 0 326).toInt - 2 * (v.1 0 305).toInt) ∧ ((v.1 0 305).toInt + 1 ≤ (u.1 0 305).toInt) ∧ ((v.1 0 317).toInt ≤ (u.1 0 317).toInt ∧ (u.1 0 317).toInt - 4 * (u.1 0 305).toInt ≤ (v.1 0 317).toInt - 4 * (v.1 0 305).toInt + 0) ∧ ((u.1 0 306).toInt = (v.1 0 306).toInt) ∧ (RS v u)) (fun (u : MS) => (cW ad pr N cI cR L1 L2 u))) (qxc (dC, dI) (cW ad pr N cI cR L1 L2 v) sz (fun (u : MS) => (cW ad pr N cI cR L1 L2 u)) (fun (u : MS) => FC xfl xal v u ∧ (u.1 0 308).toInt ≠ 0 ∧ (Q_x_X2_argument L1 L2 (QE L1 L2 n) v pa pb true u))) 1 6 (va_A (cW ad pr N cI cR L1 L2 v) sz) := by
  refine vx_ofW (cc := cX2_argument) (maxL := 3) (ret := none) (by decide) rfl ?_
  intro p e s m args below meth c s₁ B hml hnt hv
  obtain ⟨rfl, hsz, hP, hKK, hD0, hFx⟩ := hv
  have hK := hKK.1
  have hx := B.exec
  have hb := B.bytes
  have hr := B.returns
  have ht : ∀ w ∈ tw_W, w.before _ s = true := fun w h => atoms_spec (ws := Cond.code yX2_argument cX2_argument 3 none :: tw_W) B.pre w (List.mem_cons_of_mem _ h)
  have hown : s.vm.findClass RX2 = some m.cls := findClass_of_methodNamed B.named
  have hlocks := B.notSynchronized
  subst hsz
  unfold qvz_ qxc
  have hD := hD0.self (sz := s.heap.size)
  generalize hAe : va_A (cW ad pr N cI cR L1 L2 v) s.heap.size = A at hD hFx ⊢
  have hA : ∀ q : Nat, s.heap.size ≤ q → A q := fun q h => by rw [← hAe]; exact Or.inr h
  have hS : va_S A s.heap s.heap [] := va_S.rf
  have hl := lv_entry ([.ref (ad 902), .int pa, .int pb]) (n := 3) (Nat.le_of_ble_eq_true rfl)
  rw [lg_entry_eq]
  generalize (lg_sl ([.ref (ad 902), .int pa, .int pb]) ++ List.replicate (3 - (lg_sl ([.ref (ad 902), .int pa, .int pb])).length) Slot.unset).toArray = ls at hl ⊢
  have hl : lv_has ls 3 [(0, .ref (ad 902)), (1, .int pa), (2, .int pb)] := hl
  refine lv_aload_n hx hb dX2_argument_0 rfl (lv_at hl 0 rfl) ?_
  refine va_get (D := (dC, dI)) (ci := 6) (fs := oF_X2 ad pr v) (v := .ref (ad 901)) (C := RX2) (T := TX2) (N := 5) hx hb ht itX2 hown hK hP 2 rfl rfl 1 (by decide) (ht _ tw_498) (fun _ h9 => h9) rfl dX2_argument_1 ?_
  refine lv_iconst (v := 1) hx hb dX2_argument_4 (by decide) ?_
  refine cu_i (rn_Vk (n := 1) (As := [.int 1]) (rest := []) hx hb hml hown ht hKK hFx hP hD hS hA (c_x_X1_wantSlots l dC dI cI cB cZ cJ cR tb s.heap.size ad pr N L1 L2 v (1 : Int32) (show 0 ≤ (v.1 0 312).toInt ∧ (v.1 0 312).toInt ≤ 500 from (om_9861e69da5 z312))) tw_507 tw_508 (by decide +kernel) rfl rfl ⟨show 1 + 1 ≤ 8 * n + 21 from om_0c36fa896d, show 8 + (3 + 11) + 15 ≤ 28 * (8 * n + 21) from om_ec0cce5493⟩ (List.range (cW ad pr N cI cR L1 L2 v).length) (rg_map _) (nd_range _) 1 rfl rfl rfl rfl hl.1 rfl (Nat.le_of_ble_eq_true rfl) dX2_argument_5 ⟨Nat.le_of_ble_eq_true rfl, Nat.le_of_ble_eq_true rfl⟩) hP hD hS hA (fun r3 u2 H locs hw1 hP hD hS => ?_)
  obtain ⟨fr1, ex1, rs1, bz1⟩ := hw1
  refine W.widen (k := 0) (n := 0) (Nat.le_refl _) (Nat.le_refl _) ?_
  refine lv_if_eq (tgt := 17) hx hb dX2_argument_8 (by decide) (fun h4 => ?_) (fun h4 => ?_)
  · have z5 : r3.toInt = (0 : Int) := eq_z rfl (show (0 : Int32).toInt = (0 : Int) by decide) h4
    refine lv_aload_n hx hb dX2_argument_17 rfl (lv_at hl 0 rfl) ?_
    refine va_get (D := (dC, dI)) (ci := 6) (fs := oF_X2 ad pr u2) (v := .ref (ad 900)) (C := RX2) (T := TX2) (N := 5) hx hb ht itX2 hown hK hP 2 rfl rfl 0 (by decide) (ht _ tw_509) (fun _ h9 => h9) rfl dX2_argument_18 ?_
    have q6 : (u2.1 0 305).toInt = (v.1 0 305).toInt := congrArg Int32.toInt ((fr1.2.1 305 (by decide)).trans (show v.1 0 305 = (v.1 0 305) by rfl))
    refine cu_v (rn_Vk (n := 0) (As := []) (rest := []) hx hb hml hown ht hKK hFx hP hD hS hA (c_x_X9_makeDue l dC dI cI cB cZ cJ cR tb H.size ad pr N L1 L2 u2  (show 0 ≤ (u2.1 0 305).toInt ∧ (u2.1 0 305).toInt ≤ 1500 from (om_c93ca3468d z305 q6))) tw_516 tw_517 (by decide +kernel) rfl rfl ⟨show 0 + 1 ≤ 8 * n + 21 from om_a43f662a07, show 8 + (1 + 11) + 0 ≤ 28 * (8 * n + 21) from om_9f2e4fbaf3⟩ (List.range (cW ad pr N cI cR L1 L2 u2).length) (rg_map _) (nd_range _) 0 rfl rfl rfl rfl hl.1 rfl (Nat.le_of_ble_eq_true rfl) dX2_argument_21 ⟨Nat.le_of_ble_eq_true rfl, Nat.le_of_ble_eq_true rfl⟩) hP hD hS hA (fun u8 H locs hw7 hP hD hS => ?_)
    obtain ⟨fr7, ex7, rs7⟩ := hw7
    have rs7 : RS u2 u8 := rs7
    refine W.widen (k := 0) (n := 0) (Nat.le_refl _) (Nat.le_refl _) ?_
    refine lv_aload_n hx hb dX2_argument_24 rfl (lv_at hl 0 rfl) ?_
    refine va_get (D := (dC, dI)) (ci := 6) (fs := oF_X2 ad pr u8) (v := .ref (ad 901)) (C := RX2) (T := TX2) (N := 5) hx hb ht itX2 hown hK hP 2 rfl rfl 1 (by decide) (ht _ tw_498) (fun _ h9 => h9) rfl dX2_argument_25 ?_
    refine lv_iload_n hx hb dX2_argument_28 rfl (lv_at hl 1 rfl) ?_
    refine cu_v (rn_Vk (n := 1) (As := [.int pa]) (rest := []) hx hb hml hown ht hKK hFx hP hD hS hA (c_x_X1_addArgument l dC dI cI cB cZ cJ cR tb H.size ad pr N L1 L2 u8 pa ) tw_518 tw_519 (by decide +kernel) rfl rfl ⟨show 0 + 1 ≤ 8 * n + 21 from om_a43f662a07, show 8 + (2 + 11) + 0 ≤ 28 * (8 * n + 21) from om_b45810c062⟩ (List.range (cW ad pr N cI cR L1 L2 u8).length) (rg_map _) (nd_range _) 1 rfl rfl rfl rfl hl.1 rfl (Nat.le_of_ble_eq_true rfl) dX2_argument_29 ⟨Nat.le_of_ble_eq_true rfl, Nat.le_of_ble_eq_true rfl⟩) hP hD hS hA (fun u11 H locs hw10 hP hD hS => ?_)
    obtain ⟨fr10, ex10, rs10⟩ := hw10
    have rs10 : RS u8 u11 := rs10
    refine W.widen (k := 0) (n := 0) (Nat.le_refl _) (Nat.le_refl _) ?_
    refine lv_aload_n hx hb dX2_argument_32 rfl (lv_at hl 0 rfl) ?_
    refine lv_iconst (v := 1) hx hb dX2_argument_33 (by decide) ?_
    have q13 : (u2.1 0 304).toInt = (v.1 0 304).toInt := congrArg Int32.toInt ((fr1.2.1 304 (by decide)).trans (show v.1 0 304 = (v.1 0 304) by rfl))
    have q14 : (u8.1 0 304).toInt = (u2.1 0 304).toInt := congrArg Int32.toInt ((fr7.2.1 304 (by decide)).trans (show u2.1 0 304 = (u2.1 0 304) by rfl))
    have q15 : (u11.1 0 304).toInt = (u8.1 0 304).toInt := congrArg Int32.toInt ((fr10.2.1 304 (by decide)).trans (show u8.1 0 304 = (u8.1 0 304) by rfl))
    have q16 : (u8.1 0 305).toInt = (u2.1 0 305).toInt := congrArg Int32.toInt ((fr7.2.1 305 (by decide)).trans (show u2.1 0 305 = (u2.1 0 305) by rfl))
    have q17 : (u11.1 0 305).toInt = (u8.1 0 305).toInt := congrArg Int32.toInt ((fr10.2.1 305 (by decide)).trans (show u8.1 0 305 = (u8.1 0 305) by rfl))
    have q18 : (u2.1 0 306).toInt = (v.1 0 306).toInt := congrArg Int32.toInt ((fr1.2.1 306 (by decide)).trans (show v.1 0 306 = (v.1 0 306) by rfl))
    have q19 : (u8.1 0 306).toInt = (u2.1 0 306).toInt := congrArg Int32.toInt ((fr7.2.1 306 (by decide)).trans (show u2.1 0 306 = (u2.1 0 306) by rfl))
    have q20 : (u11.1 0 306).toInt = (u8.1 0 306).toInt := congrArg Int32.toInt ((fr10.2.1 306 (by decide)).trans (show u8.1 0 306 = (u8.1 0 306) by rfl))
    have q21 : (u2.1 0 312).toInt = (v.1 0 312).toInt := congrArg Int32.toInt ((fr1.2.1 312 (by decide)).trans (show v.1 0 312 = (v.1 0 312) by rfl))
    have q22 : (u8.1 0 312).toInt = (u2.1 0 312).toInt := congrArg Int32.toInt ((fr7.2.1 312 (by decide)).trans (show u2.1 0 312 = (u2.1 0 312) by rfl))
    have q23 : (u11.1 0 312).toInt = (u8.1 0 312).toInt := congrArg Int32.toInt ((fr10.2.1 312 (by decide)).trans (show u8.1 0 312 = (u8.1 0 312) by rfl))
    have q24 : (u2.1 0 321).toInt = (v.1 0 321).toInt := congrArg Int32.toInt ((fr1.2.1 321 (by decide)).trans (show v.1 0 321 = (v.1 0 321) by rfl))
    have q25 : (u8.1 0 321).toInt = (u2.1 0 321).toInt := congrArg Int32.toInt ((fr7.2.1 321 (by decide)).trans (show u2.1 0 321 = (u2.1 0 321) by rfl))
    have q26 : (u11.1 0 321).toInt = (u8.1 0 321).toInt := congrArg Int32.toInt ((fr10.2.1 321 (by decide)).trans (show u8.1 0 321 = (u8.1 0 321) by rfl))
    have q27 : (u2.1 0 326).toInt = (v.1 0 326).toInt := congrArg Int32.toInt ((fr1.2.1 326 (by decide)).trans (show v.1 0 326 = (v.1 0 326) by rfl))
    have q28 : (u8.1 0 326).toInt = (u2.1 0 326).toInt := congrArg Int32.toInt ((fr7.2.1 326 (by decide)).trans (show u2.1 0 326 = (u2.1 0 326) by rfl))
    have q29 : (u11.1 0 326).toInt = (u8.1 0 326).toInt := congrArg Int32.toInt ((fr10.2.1 326 (by decide)).trans (show u8.1 0 326 = (u8.1 0 326) by rfl))
    have q30 : (u2.1 0 373).toInt = (v.1 0 373).toInt := congrArg Int32.toInt ((fr1.2.1 373 (by decide)).trans (show v.1 0 373 = (v.1 0 373) by rfl))
    have q31 : (u8.1 0 373).toInt = (u2.1 0 373).toInt := congrArg Int32.toInt ((fr7.2.1 373 (by decide)).trans (show u2.1 0 373 = (u2.1 0 373) by rfl))
    have q32 : (u11.1 0 373).toInt = (u8.1 0 373).toInt := congrArg Int32.toInt ((fr10.2.1 373 (by decide)).trans (show u8.1 0 373 = (u8.1 0 373) by rfl))
    have q33 : (u2.1 0 381).toInt = (v.1 0 381).toInt := congrArg Int32.toInt ((fr1.2.1 381 (by decide)).trans (show v.1 0 381 = (v.1 0 381) by rfl))
    have q34 : (u8.1 0 381).toInt = (u2.1 0 381).toInt := congrArg Int32.toInt ((fr7.2.1 381 (by decide)).trans (show u2.1 0 381 = (u2.1 0 381) by rfl))
    have q35 : (u11.1 0 381).toInt = (u8.1 0 381).toInt := congrArg Int32.toInt ((fr10.2.1 381 (by decide)).trans (show u8.1 0 381 = (u8.1 0 381) by rfl))
    have q36 : (u2.1 0 317).toInt = (v.1 0 317).toInt := congrArg Int32.toInt ((fr1.2.1 317 (by decide)).trans (show v.1 0 317 = (v.1 0 317) by rfl))
    have q37 : (u8.1 0 317).toInt = (u2.1 0 317).toInt := congrArg Int32.toInt ((fr7.2.1 317 (by decide)).trans (show u2.1 0 317 = (u2.1 0 317) by rfl))
    have q38 : (u11.1 0 317).toInt = (u8.1 0 317).toInt := congrArg Int32.toInt ((fr10.2.1 317 (by decide)).trans (show u8.1 0 317 = (u8.1 0 317) by rfl))
    refine W.sz (fun hz9 => ?_)
    refine czx_v (rx_Vk (n := 1) (As := [.int 1]) (rest := []) hx hb hml hown ht hKK hFx hP hD hS hA (E dC dI cI cB cZ cJ cR tb H.size ad pr N L1 L2 u11 (1 : Int32) ps (show 0 ≤ (u11.1 0 304).toInt ∧ (u11.1 0 304).toInt ≤ 1503 from (om_57e3d9ffbd z304 q13 q14 q15)) (show 0 ≤ (u11.1 0 305).toInt ∧ (u11.1 0 305).toInt ≤ 1500 from (om_2cfcbbe098 z305 q6 q16 q17)) (show 0 ≤ (u11.1 0 306).toInt ∧ (u11.1 0 306).toInt ≤ 40 from (om_91b0537b40 z306 q18 q19 q20)) (show 0 ≤ (u11.1 0 312).toInt ∧ (u11.1 0 312).toInt ≤ 500 from (om_a369f3fea6 z312 q21 q22 q23)) (show 0 ≤ (u11.1 0 321).toInt ∧ (u11.1 0 321).toInt ≤ 501 from (om_ca65317fd6 z321 q24 q25 q26)) (show 0 ≤ (u11.1 0 326).toInt ∧ (u11.1 0 326).toInt ≤ 420 from (om_ba86cd30dc z326 q27 q28 q29)) (show 0 ≤ (u11.1 0 373).toInt ∧ (u11.1 0 373).toInt ≤ 4000 from (om_282c7f458f z373 q30 q31 q32)) (show 0 ≤ (u11.1 0 381).toInt ∧ (u11.1 0 381).toInt ≤ 3008 from (om_2a08b4c68c z305 z326 z381 zd q33 q34 q35)) (show L1.length = 40 from hL1) (show L2.length = 60 from hL2) (show RP u11 from ((show FC [305, 306, 307, 314, 315, 317, 321, 326, 381] [0, 316, 318, 319, 320, 324, 325, 378, 379, 380] v u11 from (FC.tr (FC.tr (FC.tr (FC.rf _) (FC.up fr1 (by decide) (by decide))) (FC.up fr7 (by decide) (by decide))) (FC.up fr10 (by decide) (by decide)))).1 rp)) (show pr ps = ad 908 from hps) (show (u11.1 0 300) = ps from (Eq.trans (fr10.2.1 300 (by decide)) (Eq.trans (fr7.2.1 300 (by decide)) (Eq.trans (fr1.2.1 300 (by decide)) es300)))) (show (u11.1 0 310) = ps from (Eq.trans (fr10.2.1 310 (by decide)) (Eq.trans (fr7.2.1 310 (by decide)) (Eq.trans (fr1.2.1 310 (by decide)) es310)))) (show l.stackTraces = false from hst) (show (u11.1 0 381).toInt + (u11.1 0 326).toInt - 2 * (u11.1 0 305).toInt ≤ 0 from (om_6c29df0123 zd q6 q27 q33 q16 q28 q34 q17 q29 q35)) (show 0 ≤ (u11.1 0 317).toInt ∧ (u11.1 0 317).toInt - 4 * (u11.1 0 305).toInt ≤ 8 from (om_0933b5d08b zlb q6 q36 q16 q37 q17 q38)) (show 40 ≤ (u11.1 0 306).toInt + (n : Int) from (om_00c4deb960 zn q18 q19 q20))) tw_520 tw_521 (by decide +kernel) rfl rfl ⟨show (8 * n + 20) + 1 ≤ 8 * n + 21 from om_12a3a4432e, show 8 + (5 + 11) + 28 * (8 * n + 20) ≤ 28 * (8 * n + 21) from om_daa41a5b32⟩ (List.range (cW ad pr N cI cR L1 L2 u11).length) (rg_map _) (nd_range _) 2 rfl rfl rfl rfl hl.1 rfl (Nat.le_of_ble_eq_true rfl) dX2_argument_34 ⟨Nat.le_of_ble_eq_true rfl, Nat.le_of_ble_eq_true rfl⟩) hP hD hS hA (fun u9 ce9 q9 H locs hx9 hP hD hS hc9 hv9 hf9 => ?_) (fun u40 H locs hw39 hP hD hS hz8 => ?_)
    · exact vx_out (fun x h9 => (hnt x h9).elim) hlocks hc9 hv9 hf9 (fun t9 ht9 hv8 => ⟨u9, ⟨FC.tr (FC.tr (FC.tr (FC.tr (FC.rf _) (FC.up fr1 (by decide) (by decide))) (FC.up fr7 (by decide) (by decide))) (FC.up fr10 (by decide) (by decide))) hx9.1, hx9.2.1, ⟨z304, z305, z306, z312, z321, z326, z373, z381, zd, zlb, r3, u2, ex1, ⟨fr1, rs1⟩, (Or.inl ⟨z5, u8, ex7, ⟨fr7, rs7⟩, u11, ex10, ⟨fr10, rs10⟩, (Or.inl ⟨u9, hx9.2.2, rfl, rfl⟩)⟩)⟩⟩, ⟨rfl, by rw [ht9]; exact hP, hD⟩, hS.F ht9⟩) hS.2.2 (Nat.le_refl _) (Nat.le_refl _)
    refine W.shrink (hz8.trans hz9) ?_
    obtain ⟨fr39, ex39, i30539, i30639, i32139, i32639, i38139, pd39, pt39, plb39, po39, rs39⟩ := hw39
    have i30539 : 0 ≤ (u40.1 0 305).toInt ∧ (u40.1 0 305).toInt ≤ 1500 := i30539
    have i30639 : 0 ≤ (u40.1 0 306).toInt ∧ (u40.1 0 306).toInt ≤ 40 := i30639
    have i32139 : 0 ≤ (u40.1 0 321).toInt ∧ (u40.1 0 321).toInt ≤ 501 := i32139
    have i32639 : 0 ≤ (u40.1 0 326).toInt ∧ (u40.1 0 326).toInt ≤ 420 := i32639
    have i38139 : 0 ≤ (u40.1 0 381).toInt ∧ (u40.1 0 381).toInt ≤ 3008 := i38139
    have pd39 : (u40.1 0 381).toInt + (u40.1 0 326).toInt - 2 * (u40.1 0 305).toInt + (1) ≤ (u11.1 0 381).toInt + (u11.1 0 326).toInt - 2 * (u11.1 0 305).toInt := pd39
    have pt39 : (u11.1 0 305).toInt + 1 ≤ (u40.1 0 305).toInt := pt39
    have plb39 : (u11.1 0 317).toInt ≤ (u40.1 0 317).toInt ∧ (u40.1 0 317).toInt - 4 * (u40.1 0 305).toInt ≤ (u11.1 0 317).toInt - 4 * (u11.1 0 305).toInt + 0 := plb39
    have po39 : (u40.1 0 306).toInt = (u11.1 0 306).toInt := po39
    have rs39 : RS u11 u40 := rs39
    refine lv_aload_n hx hb dX2_argument_37 rfl (lv_at hl 0 rfl) ?_
    refine va_get (D := (dC, dI)) (ci := 6) (fs := oF_X2 ad pr u40) (v := .ref (ad 901)) (C := RX2) (T := TX2) (N := 5) hx hb ht itX2 hown hK hP 2 rfl rfl 1 (by decide) (ht _ tw_498) (fun _ h9 => h9) rfl dX2_argument_38 ?_
    refine lv_iconst (v := 4) hx hb dX2_argument_41 (by decide) ?_
    refine lv_aload_n hx hb dX2_argument_42 rfl (lv_at hl 0 rfl) ?_
    refine va_get (D := (dC, dI)) (ci := 6) (fs := oF_X2 ad pr u40) (v := .ref (ad 901)) (C := RX2) (T := TX2) (N := 5) hx hb ht itX2 hown hK hP 2 rfl rfl 1 (by decide) (ht _ tw_498) (fun _ h9 => h9) rfl dX2_argument_43 ?_
    have q42 : (u40.1 0 312).toInt = (u11.1 0 312).toInt := congrArg Int32.toInt ((fr39.2.1 312 (by decide)).trans (show u11.1 0 312 = (u11.1 0 312) by rfl))
    refine cu_i (rn_Vk (n := 0) (As := []) (rest := [.int 4, .ref (ad 901)]) hx hb hml hown ht hKK hFx hP hD hS hA (c_x_X1_nextSlot l dC dI cI cB cZ cJ cR tb H.size ad pr N L1 L2 u40  (show 0 ≤ (u40.1 0 312).toInt ∧ (u40.1 0 312).toInt ≤ 500 from (om_31e0c91fb9 z312 q21 q22 q23 q42))) tw_505 tw_506 (by decide +kernel) rfl rfl ⟨show 0 + 1 ≤ 8 * n + 21 from om_a43f662a07, show 8 + (1 + 11) + 0 ≤ 28 * (8 * n + 21) from om_9f2e4fbaf3⟩ (List.range (cW ad pr N cI cR L1 L2 u40).length) (rg_map _) (nd_range _) 1 rfl rfl rfl rfl hl.1 rfl (Nat.le_of_ble_eq_true rfl) dX2_argument_46 ⟨Nat.le_of_ble_eq_true rfl, Nat.le_of_ble_eq_true rfl⟩) hP hD hS hA (fun r45 u44 H locs hw43 hP hD hS => ?_)
    obtain ⟨rfl, ex43⟩ := hw43
    refine W.widen (k := 0) (n := 0) (Nat.le_refl _) (Nat.le_refl _) ?_
    refine lv_iconst (v := 0) hx hb dX2_argument_49 (by decide) ?_
    refine cu_v (rn_Vk (n := 3) (As := [.int 4, .int r45, .int 0]) (rest := []) hx hb hml hown ht hKK hFx hP hD hS hA (c_x_X1_add l dC dI cI cB cZ cJ cR tb H.size ad pr N L1 L2 u40 (4 : Int32) r45 (0 : Int32) ps (show 0 ≤ (u40.1 0 381).toInt ∧ (u40.1 0 381).toInt ≤ 3008 from (om_e78eec72e1 i38139)) (show pr ps = ad 908 from hps) (show (u40.1 0 310) = ps from (Eq.trans (fr39.2.1 310 (by decide)) (Eq.trans (fr10.2.1 310 (by decide)) (Eq.trans (fr7.2.1 310 (by decide)) (Eq.trans (fr1.2.1 310 (by decide)) es310))))) (show (u40.1 0 381).toInt < 3008 from (om_149094688c zd q6 q27 q33 q16 q28 q34 q17 q29 q35 i30539 i32639 pd39))) tw_499 tw_500 (by decide +kernel) rfl rfl ⟨show 0 + 1 ≤ 8 * n + 21 from om_a43f662a07, show 8 + (5 + 11) + 0 ≤ 28 * (8 * n + 21) from om_78af4e5b79⟩ (List.range (cW ad pr N cI cR L1 L2 u40).length) (rg_map _) (nd_range _) 1 rfl rfl rfl rfl hl.1 rfl (Nat.le_of_ble_eq_true rfl) dX2_argument_50 ⟨Nat.le_of_ble_eq_true rfl, Nat.le_of_ble_eq_true rfl⟩) hP hD hS hA (fun u47 H locs hw46 hP hD hS => ?_)
    obtain ⟨fr46, ex46, i38146, pd46, rs46⟩ := hw46
    have i38146 : 0 ≤ (u47.1 0 381).toInt ∧ (u47.1 0 381).toInt ≤ 3008 := i38146
    have pd46 : (u47.1 0 381).toInt = (u40.1 0 381).toInt + 1 := pd46
    have rs46 : RS u40 u47 := rs46
    refine W.widen (k := 0) (n := 0) (Nat.le_refl _) (Nat.le_refl _) ?_
    refine lv_aload_n hx hb dX2_argument_53 rfl (lv_at hl 0 rfl) ?_
    refine va_get (D := (dC, dI)) (ci := 6) (fs := oF_X2 ad pr u47) (v := .ref (ad 901)) (C := RX2) (T := TX2) (N := 5) hx hb ht itX2 hown hK hP 2 rfl rfl 1 (by decide) (ht _ tw_498) (fun _ h9 => h9) rfl dX2_argument_54 ?_
    refine lv_dup hx hb dX2_argument_57 rfl ?_
    refine va_getN (D := (dC, dI)) (ci := 5) (fs := oF_X1 ad pr u47) (v := .int (u47.1 0 314)) (C := RX1) (T := TX1) (N := 12) hx hb ht itX1 hown hK hP 1 rfl rfl 4 (by decide) (hKK.fl2 6 rfl) (fun _ h9 => h9) rfl dX2_argument_58 ?_
    refine lv_iconst (v := 1) hx hb dX2_argument_61 (by decide) ?_
    refine lv_iadd hx hb dX2_argument_62 ?_
    refine va_putN (D := (dC, dI)) (ci := 5) (fs := oF_X1 ad pr u47) (v := .int ((u47.1 0 314) + (1 : Int32))) (ty := .int) (C := RX1) (T := TX1) (N := 12) hx hb ht itX1 tyX1 tyX1_ok nmX1 hown hK hP hD hS 1 rfl rfl 4 (by decide) (hKK.fl2 6 rfl) (fun _ h9 => h9) rfl (by decide +kernel) rfl rfl (Nat.le_of_ble_eq_true rfl) dX2_argument_63 (fun H locs hP hD hS => ?_)
    have hP := cP_ (cw_314 ad pr N cI cR L1 L2 u47 ((u47.1 0 314) + (1 : Int32))) hP
    have hD := cD_ (cw_314 ad pr N cI cR L1 L2 u47 ((u47.1 0 314) + (1 : Int32))) hD
    have q49 : (u47.1 0 305).toInt = (u40.1 0 305).toInt := congrArg Int32.toInt ((fr46.2.1 305 (by decide)).trans (show u40.1 0 305 = (u40.1 0 305) by rfl))
    have q50 : (u47.1 0 306).toInt = (u40.1 0 306).toInt := congrArg Int32.toInt ((fr46.2.1 306 (by decide)).trans (show u40.1 0 306 = (u40.1 0 306) by rfl))
    have q51 : (u47.1 0 321).toInt = (u40.1 0 321).toInt := congrArg Int32.toInt ((fr46.2.1 321 (by decide)).trans (show u40.1 0 321 = (u40.1 0 321) by rfl))
    have q52 : (u47.1 0 326).toInt = (u40.1 0 326).toInt := congrArg Int32.toInt ((fr46.2.1 326 (by decide)).trans (show u40.1 0 326 = (u40.1 0 326) by rfl))
    have q53 : (u47.1 0 317).toInt = (u40.1 0 317).toInt := congrArg Int32.toInt ((fr46.2.1 317 (by decide)).trans (show u40.1 0 317 = (u40.1 0 317) by rfl))
    refine W.sz (fun hz => ?_)
    refine vx_ret ?_
    refine W.widen (k := 1) (n := 6) (Nat.le_of_ble_eq_true rfl) (Nat.le_of_ble_eq_true rfl) ?_
    exact W.vret hx hb hr (fun t ht9 hW => ⟨⟨(wA u47 0 314 ((u47.1 0 314) + (1 : Int32))), rfl, ⟨(FC.f (FC.tr (FC.tr (FC.tr (FC.tr (FC.tr (FC.rf _) (FC.up fr1 (by decide) (by decide))) (FC.up fr7 (by decide) (by decide))) (FC.up fr10 (by decide) (by decide))) (FC.up fr39 (by decide) (by decide))) (FC.up fr46 (by decide) (by decide))) ((u47.1 0 314) + (1 : Int32)) (by decide)), ⟨z304, z305, z306, z312, z321, z326, z373, z381, zd, zlb, r3, u2, ex1, ⟨fr1, rs1⟩, (Or.inl ⟨z5, u8, ex7, ⟨fr7, rs7⟩, u11, ex10, ⟨fr10, rs10⟩, (Or.inr (⟨u40, ex39, ⟨fr39, i30539, i30639, i32139, i32639, i38139, pd39, pt39, plb39, po39, rs39⟩, r45, ex43, u47, ex46, ⟨fr46, i38146, pd46, rs46⟩, rfl, rfl⟩))⟩)⟩, (show 0 ≤ (u47.1 0 305).toInt ∧ (u47.1 0 305).toInt ≤ 1500 from (om_c93ca3468d i30539 q49)), (show 0 ≤ (u47.1 0 306).toInt ∧ (u47.1 0 306).toInt ≤ 40 from (om_99e115f631 i30639 q50)), (show 0 ≤ (u47.1 0 321).toInt ∧ (u47.1 0 321).toInt ≤ 501 from (om_ff27494c0e i32139 q51)), (show 0 ≤ (u47.1 0 326).toInt ∧ (u47.1 0 326).toInt ≤ 420 from (om_8ed0dedb19 i32639 q52)), (show 0 ≤ (u47.1 0 381).toInt ∧ (u47.1 0 381).toInt ≤ 3008 from (om_12396814f2 i38139 i38146 pd46)), (show (u47.1 0 381).toInt + (u47.1 0 326).toInt - 2 * (u47.1 0 305).toInt + (0) ≤ (v.1 0 381).toInt + (v.1 0 326).toInt - 2 * (v.1 0 305).toInt from (om_2d8c7d66c3 q6 q27 q33 q16 q28 q34 q17 q29 q35 pd39 q49 q52 pd46)), (show (v.1 0 305).toInt + 1 ≤ (u47.1 0 305).toInt from (om_ee1ca4ca29 q6 q16 q17 pt39 q49)), (show (v.1 0 317).toInt ≤ (u47.1 0 317).toInt ∧ (u47.1 0 317).toInt - 4 * (u47.1 0 305).toInt ≤ (v.1 0 317).toInt - 4 * (v.1 0 305).toInt + 0 from (om_a5d16e59ff q6 q36 q16 q37 q17 q38 plb39 q49 q53)), (show (u47.1 0 306).toInt = (v.1 0 306).toInt from (om_8cd1b813ff q18 q19 q20 po39 q50)), (RS.w0 (RS.tr (RS.tr (RS.tr (RS.tr (RS.tr RS.rf rs1) rs7) rs10) rs39) rs46) (by decide))⟩, ⟨by rw [ht9]; exact hP, hD⟩, by rw [ht9]; exact hz⟩, hS.F ht9⟩) hS.2.2 dX2_argument_66
  · have z54 : r3.toInt ≠ (0 : Int) := ne_z rfl (show (0 : Int32).toInt = (0 : Int) by decide) h4
    refine lv_iload_n hx hb dX2_argument_11 rfl (lv_at hl 2 rfl) ?_
    refine lv_bipush (v := 8) hx hb dX2_argument_12 (by decide) ?_
    refine lv_icmp_lt (tgt := 24) hx hb dX2_argument_14 (by decide) (fun h55 => ?_) (fun h55 => ?_)
    · have z56 : pb.toInt < (8 : Int) := lt_z rfl (show (8 : Int32).toInt = (8 : Int) by decide) h55
      refine lv_aload_n hx hb dX2_argument_24 rfl (lv_at hl 0 rfl) ?_
      refine va_get (D := (dC, dI)) (ci := 6) (fs := oF_X2 ad pr u2) (v := .ref (ad 901)) (C := RX2) (T := TX2) (N := 5) hx hb ht itX2 hown hK hP 2 rfl rfl 1 (by decide) (ht _ tw_498) (fun _ h9 => h9) rfl dX2_argument_25 ?_
      refine lv_iload_n hx hb dX2_argument_28 rfl (lv_at hl 1 rfl) ?_
      refine cu_v (rn_Vk (n := 1) (As := [.int pa]) (rest := []) hx hb hml hown ht hKK hFx hP hD hS hA (c_x_X1_addArgument l dC dI cI cB cZ cJ cR tb H.size ad pr N L1 L2 u2 pa ) tw_518 tw_519 (by decide +kernel) rfl rfl ⟨show 0 + 1 ≤ 8 * n + 21 from om_a43f662a07, show 8 + (2 + 11) + 0 ≤ 28 * (8 * n + 21) from om_b45810c062⟩ (List.range (cW ad pr N cI cR L1 L2 u2).length) (rg_map _) (nd_range _) 1 rfl rfl rfl rfl hl.1 rfl (Nat.le_of_ble_eq_true rfl) dX2_argument_29 ⟨Nat.le_of_ble_eq_true rfl, Nat.le_of_ble_eq_true rfl⟩) hP hD hS hA (fun u58 H locs hw57 hP hD hS => ?_)
      obtain ⟨fr57, ex57, rs57⟩ := hw57
      have rs57 : RS u2 u58 := rs57
      refine W.widen (k := 0) (n := 0) (Nat.le_refl _) (Nat.le_refl _) ?_
      refine lv_aload_n hx hb dX2_argument_32 rfl (lv_at hl 0 rfl) ?_
      refine lv_iconst (v := 1) hx hb dX2_argument_33 (by decide) ?_
      have q60 : (u2.1 0 304).toInt = (v.1 0 304).toInt := congrArg Int32.toInt ((fr1.2.1 304 (by decide)).trans (show v.1 0 304 = (v.1 0 304) by rfl))
      have q61 : (u58.1 0 304).toInt = (u2.1 0 304).toInt := congrArg Int32.toInt ((fr57.2.1 304 (by decide)).trans (show u2.1 0 304 = (u2.1 0 304) by rfl))
      have q62 : (u2.1 0 305).toInt = (v.1 0 305).toInt := congrArg Int32.toInt ((fr1.2.1 305 (by decide)).trans (show v.1 0 305 = (v.1 0 305) by rfl))
      have q63 : (u58.1 0 305).toInt = (u2.1 0 305).toInt := congrArg Int32.toInt ((fr57.2.1 305 (by decide)).trans (show u2.1 0 305 = (u2.1 0 305) by rfl))
      have q64 : (u2.1 0 306).toInt = (v.1 0 306).toInt := congrArg Int32.toInt ((fr1.2.1 306 (by decide)).trans (show v.1 0 306 = (v.1 0 306) by rfl))
      have q65 : (u58.1 0 306).toInt = (u2.1 0 306).toInt := congrArg Int32.toInt ((fr57.2.1 306 (by decide)).trans (show u2.1 0 306 = (u2.1 0 306) by rfl))
      have q66 : (u2.1 0 312).toInt = (v.1 0 312).toInt := congrArg Int32.toInt ((fr1.2.1 312 (by decide)).trans (show v.1 0 312 = (v.1 0 312) by rfl))
      have q67 : (u58.1 0 312).toInt = (u2.1 0 312).toInt := congrArg Int32.toInt ((fr57.2.1 312 (by decide)).trans (show u2.1 0 312 = (u2.1 0 312) by rfl))
      have q68 : (u2.1 0 321).toInt = (v.1 0 321).toInt := congrArg Int32.toInt ((fr1.2.1 321 (by decide)).trans (show v.1 0 321 = (v.1 0 321) by rfl))
      have q69 : (u58.1 0 321).toInt = (u2.1 0 321).toInt := congrArg Int32.toInt ((fr57.2.1 321 (by decide)).trans (show u2.1 0 321 = (u2.1 0 321) by rfl))
      have q70 : (u2.1 0 326).toInt = (v.1 0 326).toInt := congrArg Int32.toInt ((fr1.2.1 326 (by decide)).trans (show v.1 0 326 = (v.1 0 326) by rfl))
      have q71 : (u58.1 0 326).toInt = (u2.1 0 326).toInt := congrArg Int32.toInt ((fr57.2.1 326 (by decide)).trans (show u2.1 0 326 = (u2.1 0 326) by rfl))
      have q72 : (u2.1 0 373).toInt = (v.1 0 373).toInt := congrArg Int32.toInt ((fr1.2.1 373 (by decide)).trans (show v.1 0 373 = (v.1 0 373) by rfl))
      have q73 : (u58.1 0 373).toInt = (u2.1 0 373).toInt := congrArg Int32.toInt ((fr57.2.1 373 (by decide)).trans (show u2.1 0 373 = (u2.1 0 373) by rfl))
      have q74 : (u2.1 0 381).toInt = (v.1 0 381).toInt := congrArg Int32.toInt ((fr1.2.1 381 (by decide)).trans (show v.1 0 381 = (v.1 0 381) by rfl))
      have q75 : (u58.1 0 381).toInt = (u2.1 0 381).toInt := congrArg Int32.toInt ((fr57.2.1 381 (by decide)).trans (show u2.1 0 381 = (u2.1 0 381) by rfl))
      have q76 : (u2.1 0 317).toInt = (v.1 0 317).toInt := congrArg Int32.toInt ((fr1.2.1 317 (by decide)).trans (show v.1 0 317 = (v.1 0 317) by rfl))
      have q77 : (u58.1 0 317).toInt = (u2.1 0 317).toInt := congrArg Int32.toInt ((fr57.2.1 317 (by decide)).trans (show u2.1 0 317 = (u2.1 0 317) by rfl))
      refine W.sz (fun hz9 => ?_)
      refine czx_v (rx_Vk (n := 1) (As := [.int 1]) (rest := []) hx hb hml hown ht hKK hFx hP hD hS hA (E dC dI cI cB cZ cJ cR tb H.size ad pr N L1 L2 u58 (1 : Int32) ps (show 0 ≤ (u58.1 0 304).toInt ∧ (u58.1 0 304).toInt ≤ 1503 from (om_dd87ee851a z304 q60 q61)) (show 0 ≤ (u58.1 0 305).toInt ∧ (u58.1 0 305).toInt ≤ 1500 from (om_15548f2e10 z305 q62 q63)) (show 0 ≤ (u58.1 0 306).toInt ∧ (u58.1 0 306).toInt ≤ 40 from (om_68f540929a z306 q64 q65)) (show 0 ≤ (u58.1 0 312).toInt ∧ (u58.1 0 312).toInt ≤ 500 from (om_8a5975ec21 z312 q66 q67)) (show 0 ≤ (u58.1 0 321).toInt ∧ (u58.1 0 321).toInt ≤ 501 from (om_4dfa815534 z321 q68 q69)) (show 0 ≤ (u58.1 0 326).toInt ∧ (u58.1 0 326).toInt ≤ 420 from (om_9591dea625 z326 q70 q71)) (show 0 ≤ (u58.1 0 373).toInt ∧ (u58.1 0 373).toInt ≤ 4000 from (om_03cd8767ac z373 q72 q73)) (show 0 ≤ (u58.1 0 381).toInt ∧ (u58.1 0 381).toInt ≤ 3008 from (om_38c323128c z305 z326 z381 zd q74 q75)) (show L1.length = 40 from hL1) (show L2.length = 60 from hL2) (show RP u58 from ((show FC [305, 306, 307, 314, 315, 317, 321, 326, 381] [0, 316, 318, 319, 320, 324, 325, 378, 379, 380] v u58 from (FC.tr (FC.tr (FC.rf _) (FC.up fr1 (by decide) (by decide))) (FC.up fr57 (by decide) (by decide)))).1 rp)) (show pr ps = ad 908 from hps) (show (u58.1 0 300) = ps from (Eq.trans (fr57.2.1 300 (by decide)) (Eq.trans (fr1.2.1 300 (by decide)) es300))) (show (u58.1 0 310) = ps from (Eq.trans (fr57.2.1 310 (by decide)) (Eq.trans (fr1.2.1 310 (by decide)) es310))) (show l.stackTraces = false from hst) (show (u58.1 0 381).toInt + (u58.1 0 326).toInt - 2 * (u58.1 0 305).toInt ≤ 0 from (om_2e0b7b3ff3 zd q62 q70 q74 q63 q71 q75)) (show 0 ≤ (u58.1 0 317).toInt ∧ (u58.1 0 317).toInt - 4 * (u58.1 0 305).toInt ≤ 8 from (om_afcbeb2a1d zlb q62 q76 q63 q77)) (show 40 ≤ (u58.1 0 306).toInt + (n : Int) from (om_ec198adb23 zn q64 q65))) tw_520 tw_521 (by decide +kernel) rfl rfl ⟨show (8 * n + 20) + 1 ≤ 8 * n + 21 from om_12a3a4432e, show 8 + (5 + 11) + 28 * (8 * n + 20) ≤ 28 * (8 * n + 21) from om_daa41a5b32⟩ (List.range (cW ad pr N cI cR L1 L2 u58).length) (rg_map _) (nd_range _) 2 rfl rfl rfl rfl hl.1 rfl (Nat.le_of_ble_eq_true rfl) dX2_argument_34 ⟨Nat.le_of_ble_eq_true rfl, Nat.le_of_ble_eq_true rfl⟩) hP hD hS hA (fun u9 ce9 q9 H locs hx9 hP hD hS hc9 hv9 hf9 => ?_) (fun u79 H locs hw78 hP hD hS hz8 => ?_)
      · exact vx_out (fun x h9 => (hnt x h9).elim) hlocks hc9 hv9 hf9 (fun t9 ht9 hv8 => ⟨u9, ⟨FC.tr (FC.tr (FC.tr (FC.rf _) (FC.up fr1 (by decide) (by decide))) (FC.up fr57 (by decide) (by decide))) hx9.1, hx9.2.1, ⟨z304, z305, z306, z312, z321, z326, z373, z381, zd, zlb, r3, u2, ex1, ⟨fr1, rs1⟩, (Or.inr (⟨z54, (Or.inl ⟨z56, u58, ex57, ⟨fr57, rs57⟩, (Or.inl ⟨u9, hx9.2.2, rfl, rfl⟩)⟩)⟩))⟩⟩, ⟨rfl, by rw [ht9]; exact hP, hD⟩, hS.F ht9⟩) hS.2.2 (Nat.le_refl _) (Nat.le_refl _)
      refine W.shrink (hz8.trans hz9) ?_
      obtain ⟨fr78, ex78, i30578, i30678, i32178, i32678, i38178, pd78, pt78, plb78, po78, rs78⟩ := hw78
      have i30578 : 0 ≤ (u79.1 0 305).toInt ∧ (u79.1 0 305).toInt ≤ 1500 := i30578
      have i30678 : 0 ≤ (u79.1 0 306).toInt ∧ (u79.1 0 306).toInt ≤ 40 := i30678
      have i32178 : 0 ≤ (u79.1 0 321).toInt ∧ (u79.1 0 321).toInt ≤ 501 := i32178
      have i32678 : 0 ≤ (u79.1 0 326).toInt ∧ (u79.1 0 326).toInt ≤ 420 := i32678
      have i38178 : 0 ≤ (u79.1 0 381).toInt ∧ (u79.1 0 381).toInt ≤ 3008 := i38178
      have pd78 : (u79.1 0 381).toInt + (u79.1 0 326).toInt - 2 * (u79.1 0 305).toInt + (1) ≤ (u58.1 0 381).toInt + (u58.1 0 326).toInt - 2 * (u58.1 0 305).toInt := pd78
      have pt78 : (u58.1 0 305).toInt + 1 ≤ (u79.1 0 305).toInt := pt78
      have plb78 : (u58.1 0 317).toInt ≤ (u79.1 0 317).toInt ∧ (u79.1 0 317).toInt - 4 * (u79.1 0 305).toInt ≤ (u58.1 0 317).toInt - 4 * (u58.1 0 305).toInt + 0 := plb78
      have po78 : (u79.1 0 306).toInt = (u58.1 0 306).toInt := po78
      have rs78 : RS u58 u79 := rs78
      refine lv_aload_n hx hb dX2_argument_37 rfl (lv_at hl 0 rfl) ?_
      refine va_get (D := (dC, dI)) (ci := 6) (fs := oF_X2 ad pr u79) (v := .ref (ad 901)) (C := RX2) (T := TX2) (N := 5) hx hb ht itX2 hown hK hP 2 rfl rfl 1 (by decide) (ht _ tw_498) (fun _ h9 => h9) rfl dX2_argument_38 ?_
      refine lv_iconst (v := 4) hx hb dX2_argument_41 (by decide) ?_
      refine lv_aload_n hx hb dX2_argument_42 rfl (lv_at hl 0 rfl) ?_
      refine va_get (D := (dC, dI)) (ci := 6) (fs := oF_X2 ad pr u79) (v := .ref (ad 901)) (C := RX2) (T := TX2) (N := 5) hx hb ht itX2 hown hK hP 2 rfl rfl 1 (by decide) (ht _ tw_498) (fun _ h9 => h9) rfl dX2_argument_43 ?_
      have q81 : (u79.1 0 312).toInt = (u58.1 0 312).toInt := congrArg Int32.toInt ((fr78.2.1 312 (by decide)).trans (show u58.1 0 312 = (u58.1 0 312) by rfl))
      refine cu_i (rn_Vk (n := 0) (As := []) (rest := [.int 4, .ref (ad 901)]) hx hb hml hown ht hKK hFx hP hD hS hA (c_x_X1_nextSlot l dC dI cI cB cZ cJ cR tb H.size ad pr N L1 L2 u79  (show 0 ≤ (u79.1 0 312).toInt ∧ (u79.1 0 312).toInt ≤ 500 from (om_a369f3fea6 z312 q66 q67 q81))) tw_505 tw_506 (by decide +kernel) rfl rfl ⟨show 0 + 1 ≤ 8 * n + 21 from om_a43f662a07, show 8 + (1 + 11) + 0 ≤ 28 * (8 * n + 21) from om_9f2e4fbaf3⟩ (List.range (cW ad pr N cI cR L1 L2 u79).length) (rg_map _) (nd_range _) 1 rfl rfl rfl rfl hl.1 rfl (Nat.le_of_ble_eq_true rfl) dX2_argument_46 ⟨Nat.le_of_ble_eq_true rfl, Nat.le_of_ble_eq_true rfl⟩) hP hD hS hA (fun r84 u83 H locs hw82 hP hD hS => ?_)
      obtain ⟨rfl, ex82⟩ := hw82
      refine W.widen (k := 0) (n := 0) (Nat.le_refl _) (Nat.le_refl _) ?_
      refine lv_iconst (v := 0) hx hb dX2_argument_49 (by decide) ?_
      refine cu_v (rn_Vk (n := 3) (As := [.int 4, .int r84, .int 0]) (rest := []) hx hb hml hown ht hKK hFx hP hD hS hA (c_x_X1_add l dC dI cI cB cZ cJ cR tb H.size ad pr N L1 L2 u79 (4 : Int32) r84 (0 : Int32) ps (show 0 ≤ (u79.1 0 381).toInt ∧ (u79.1 0 381).toInt ≤ 3008 from (om_e78eec72e1 i38178)) (show pr ps = ad 908 from hps) (show (u79.1 0 310) = ps from (Eq.trans (fr78.2.1 310 (by decide)) (Eq.trans (fr57.2.1 310 (by decide)) (Eq.trans (fr1.2.1 310 (by decide)) es310)))) (show (u79.1 0 381).toInt < 3008 from (om_85309a36cc zd q62 q70 q74 q63 q71 q75 i30578 i32678 pd78))) tw_499 tw_500 (by decide +kernel) rfl rfl ⟨show 0 + 1 ≤ 8 * n + 21 from om_a43f662a07, show 8 + (5 + 11) + 0 ≤ 28 * (8 * n + 21) from om_78af4e5b79⟩ (List.range (cW ad pr N cI cR L1 L2 u79).length) (rg_map _) (nd_range _) 1 rfl rfl rfl rfl hl.1 rfl (Nat.le_of_ble_eq_true rfl) dX2_argument_50 ⟨Nat.le_of_ble_eq_true rfl, Nat.le_of_ble_eq_true rfl⟩) hP hD hS hA (fun u86 H locs hw85 hP hD hS => ?_)
      obtain ⟨fr85, ex85, i38185, pd85, rs85⟩ := hw85
      have i38185 : 0 ≤ (u86.1 0 381).toInt ∧ (u86.1 0 381).toInt ≤ 3008 := i38185
      have pd85 : (u86.1 0 381).toInt = (u79.1 0 381).toInt + 1 := pd85
      have rs85 : RS u79 u86 := rs85
      refine W.widen (k := 0) (n := 0) (Nat.le_refl _) (Nat.le_refl _) ?_
      refine lv_aload_n hx hb dX2_argument_53 rfl (lv_at hl 0 rfl) ?_
      refine va_get (D := (dC, dI)) (ci := 6) (fs := oF_X2 ad pr u86) (v := .ref (ad 901)) (C := RX2) (T := TX2) (N := 5) hx hb ht itX2 hown hK hP 2 rfl rfl 1 (by decide) (ht _ tw_498) (fun _ h9 => h9) rfl dX2_argument_54 ?_
      refine lv_dup hx hb dX2_argument_57 rfl ?_
      refine va_getN (D := (dC, dI)) (ci := 5) (fs := oF_X1 ad pr u86) (v := .int (u86.1 0 314)) (C := RX1) (T := TX1) (N := 12) hx hb ht itX1 hown hK hP 1 rfl rfl 4 (by decide) (hKK.fl2 6 rfl) (fun _ h9 => h9) rfl dX2_argument_58 ?_
      refine lv_iconst (v := 1) hx hb dX2_argument_61 (by decide) ?_
      refine lv_iadd hx hb dX2_argument_62 ?_
      refine va_putN (D := (dC, dI)) (ci := 5) (fs := oF_X1 ad pr u86) (v := .int ((u86.1 0 314) + (1 : Int32))) (ty := .int) (C := RX1) (T := TX1) (N := 12) hx hb ht itX1 tyX1 tyX1_ok nmX1 hown hK hP hD hS 1 rfl rfl 4 (by decide) (hKK.fl2 6 rfl) (fun _ h9 => h9) rfl (by decide +kernel) rfl rfl (Nat.le_of_ble_eq_true rfl) dX2_argument_63 (fun H locs hP hD hS => ?_)
      have hP := cP_ (cw_314 ad pr N cI cR L1 L2 u86 ((u86.1 0 314) + (1 : Int32))) hP
      have hD := cD_ (cw_314 ad pr N cI cR L1 L2 u86 ((u86.1 0 314) + (1 : Int32))) hD
      have q88 : (u86.1 0 305).toInt = (u79.1 0 305).toInt := congrArg Int32.toInt ((fr85.2.1 305 (by decide)).trans (show u79.1 0 305 = (u79.1 0 305) by rfl))
      have q89 : (u86.1 0 306).toInt = (u79.1 0 306).toInt := congrArg Int32.toInt ((fr85.2.1 306 (by decide)).trans (show u79.1 0 306 = (u79.1 0 306) by rfl))
      have q90 : (u86.1 0 321).toInt = (u79.1 0 321).toInt := congrArg Int32.toInt ((fr85.2.1 321 (by decide)).trans (show u79.1 0 321 = (u79.1 0 321) by rfl))
      have q91 : (u86.1 0 326).toInt = (u79.1 0 326).toInt := congrArg Int32.toInt ((fr85.2.1 326 (by decide)).trans (show u79.1 0 326 = (u79.1 0 326) by rfl))
      have q92 : (u86.1 0 317).toInt = (u79.1 0 317).toInt := congrArg Int32.toInt ((fr85.2.1 317 (by decide)).trans (show u79.1 0 317 = (u79.1 0 317) by rfl))
      refine W.sz (fun hz => ?_)
      refine vx_ret ?_
      refine W.widen (k := 1) (n := 6) (Nat.le_of_ble_eq_true rfl) (Nat.le_of_ble_eq_true rfl) ?_
      exact W.vret hx hb hr (fun t ht9 hW => ⟨⟨(wA u86 0 314 ((u86.1 0 314) + (1 : Int32))), rfl, ⟨(FC.f (FC.tr (FC.tr (FC.tr (FC.tr (FC.rf _) (FC.up fr1 (by decide) (by decide))) (FC.up fr57 (by decide) (by decide))) (FC.up fr78 (by decide) (by decide))) (FC.up fr85 (by decide) (by decide))) ((u86.1 0 314) + (1 : Int32)) (by decide)), ⟨z304, z305, z306, z312, z321, z326, z373, z381, zd, zlb, r3, u2, ex1, ⟨fr1, rs1⟩, (Or.inr (⟨z54, (Or.inl ⟨z56, u58, ex57, ⟨fr57, rs57⟩, (Or.inr (⟨u79, ex78, ⟨fr78, i30578, i30678, i32178, i32678, i38178, pd78, pt78, plb78, po78, rs78⟩, r84, ex82, u86, ex85, ⟨fr85, i38185, pd85, rs85⟩, rfl, rfl⟩))⟩)⟩))⟩, (show 0 ≤ (u86.1 0 305).toInt ∧ (u86.1 0 305).toInt ≤ 1500 from (om_c93ca3468d i30578 q88)), (show 0 ≤ (u86.1 0 306).toInt ∧ (u86.1 0 306).toInt ≤ 40 from (om_99e115f631 i30678 q89)), (show 0 ≤ (u86.1 0 321).toInt ∧ (u86.1 0 321).toInt ≤ 501 from (om_ff27494c0e i32178 q90)), (show 0 ≤ (u86.1 0 326).toInt ∧ (u86.1 0 326).toInt ≤ 420 from (om_8ed0dedb19 i32678 q91)), (show 0 ≤ (u86.1 0 381).toInt ∧ (u86.1 0 381).toInt ≤ 3008 from (om_12396814f2 i38178 i38185 pd85)), (show (u86.1 0 381).toInt + (u86.1 0 326).toInt - 2 * (u86.1 0 305).toInt + (0) ≤ (v.1 0 381).toInt + (v.1 0 326).toInt - 2 * (v.1 0 305).toInt from (om_3109fb7488 q62 q70 q74 q63 q71 q75 pd78 q88 q91 pd85)), (show (v.1 0 305).toInt + 1 ≤ (u86.1 0 305).toInt from (om_1bbbe64f35 q62 q63 pt78 q88)), (show (v.1 0 317).toInt ≤ (u86.1 0 317).toInt ∧ (u86.1 0 317).toInt - 4 * (u86.1 0 305).toInt ≤ (v.1 0 317).toInt - 4 * (v.1 0 305).toInt + 0 from (om_44bdb4aeba q62 q76 q63 q77 plb78 q88 q92)), (show (u86.1 0 306).toInt = (v.1 0 306).toInt from (om_42b828193d q64 q65 po78 q89)), (RS.w0 (RS.tr (RS.tr (RS.tr (RS.tr RS.rf rs1) rs57) rs78) rs85) (by decide))⟩, ⟨by rw [ht9]; exact hP, hD⟩, by rw [ht9]; exact hz⟩, hS.F ht9⟩) hS.2.2 dX2_argument_66
    · have z93 : (8 : Int) ≤ pb.toInt := nlt_z rfl (show (8 : Int32).toInt = (8 : Int) by decide) h55
      refine lv_aload_n hx hb dX2_argument_17 rfl (lv_at hl 0 rfl) ?_
      refine va_get (D := (dC, dI)) (ci := 6) (fs := oF_X2 ad pr u2) (v := .ref (ad 900)) (C := RX2) (T := TX2) (N := 5) hx hb ht itX2 hown hK hP 2 rfl rfl 0 (by decide) (ht _ tw_509) (fun _ h9 => h9) rfl dX2_argument_18 ?_
      have q94 : (u2.1 0 305).toInt = (v.1 0 305).toInt := congrArg Int32.toInt ((fr1.2.1 305 (by decide)).trans (show v.1 0 305 = (v.1 0 305) by rfl))
      refine cu_v (rn_Vk (n := 0) (As := []) (rest := []) hx hb hml hown ht hKK hFx hP hD hS hA (c_x_X9_makeDue l dC dI cI cB cZ cJ cR tb H.size ad pr N L1 L2 u2  (show 0 ≤ (u2.1 0 305).toInt ∧ (u2.1 0 305).toInt ≤ 1500 from (om_c93ca3468d z305 q94))) tw_516 tw_517 (by decide +kernel) rfl rfl ⟨show 0 + 1 ≤ 8 * n + 21 from om_a43f662a07, show 8 + (1 + 11) + 0 ≤ 28 * (8 * n + 21) from om_9f2e4fbaf3⟩ (List.range (cW ad pr N cI cR L1 L2 u2).length) (rg_map _) (nd_range _) 0 rfl rfl rfl rfl hl.1 rfl (Nat.le_of_ble_eq_true rfl) dX2_argument_21 ⟨Nat.le_of_ble_eq_true rfl, Nat.le_of_ble_eq_true rfl⟩) hP hD hS hA (fun u96 H locs hw95 hP hD hS => ?_)
      obtain ⟨fr95, ex95, rs95⟩ := hw95
      have rs95 : RS u2 u96 := rs95
      refine W.widen (k := 0) (n := 0) (Nat.le_refl _) (Nat.le_refl _) ?_
      refine lv_aload_n hx hb dX2_argument_24 rfl (lv_at hl 0 rfl) ?_
      refine va_get (D := (dC, dI)) (ci := 6) (fs := oF_X2 ad pr u96) (v := .ref (ad 901)) (C := RX2) (T := TX2) (N := 5) hx hb ht itX2 hown hK hP 2 rfl rfl 1 (by decide) (ht _ tw_498) (fun _ h9 => h9) rfl dX2_argument_25 ?_
      refine lv_iload_n hx hb dX2_argument_28 rfl (lv_at hl 1 rfl) ?_
      refine cu_v (rn_Vk (n := 1) (As := [.int pa]) (rest := []) hx hb hml hown ht hKK hFx hP hD hS hA (c_x_X1_addArgument l dC dI cI cB cZ cJ cR tb H.size ad pr N L1 L2 u96 pa ) tw_518 tw_519 (by decide +kernel) rfl rfl ⟨show 0 + 1 ≤ 8 * n + 21 from om_a43f662a07, show 8 + (2 + 11) + 0 ≤ 28 * (8 * n + 21) from om_b45810c062⟩ (List.range (cW ad pr N cI cR L1 L2 u96).length) (rg_map _) (nd_range _) 1 rfl rfl rfl rfl hl.1 rfl (Nat.le_of_ble_eq_true rfl) dX2_argument_29 ⟨Nat.le_of_ble_eq_true rfl, Nat.le_of_ble_eq_true rfl⟩) hP hD hS hA (fun u99 H locs hw98 hP hD hS => ?_)
      obtain ⟨fr98, ex98, rs98⟩ := hw98
      have rs98 : RS u96 u99 := rs98
      refine W.widen (k := 0) (n := 0) (Nat.le_refl _) (Nat.le_refl _) ?_
      refine lv_aload_n hx hb dX2_argument_32 rfl (lv_at hl 0 rfl) ?_
      refine lv_iconst (v := 1) hx hb dX2_argument_33 (by decide) ?_
      have q101 : (u2.1 0 304).toInt = (v.1 0 304).toInt := congrArg Int32.toInt ((fr1.2.1 304 (by decide)).trans (show v.1 0 304 = (v.1 0 304) by rfl))
      have q102 : (u96.1 0 304).toInt = (u2.1 0 304).toInt := congrArg Int32.toInt ((fr95.2.1 304 (by decide)).trans (show u2.1 0 304 = (u2.1 0 304) by rfl))
      have q103 : (u99.1 0 304).toInt = (u96.1 0 304).toInt := congrArg Int32.toInt ((fr98.2.1 304 (by decide)).trans (show u96.1 0 304 = (u96.1 0 304) by rfl))
      have q104 : (u96.1 0 305).toInt = (u2.1 0 305).toInt := congrArg Int32.toInt ((fr95.2.1 305 (by decide)).trans (show u2.1 0 305 = (u2.1 0 305) by rfl))
      have q105 : (u99.1 0 305).toInt = (u96.1 0 305).toInt := congrArg Int32.toInt ((fr98.2.1 305 (by decide)).trans (show u96.1 0 305 = (u96.1 0 305) by rfl))
      have q106 : (u2.1 0 306).toInt = (v.1 0 306).toInt := congrArg Int32.toInt ((fr1.2.1 306 (by decide)).trans (show v.1 0 306 = (v.1 0 306) by rfl))
      have q107 : (u96.1 0 306).toInt = (u2.1 0 306).toInt := congrArg Int32.toInt ((fr95.2.1 306 (by decide)).trans (show u2.1 0 306 = (u2.1 0 306) by rfl))
      have q108 : (u99.1 0 306).toInt = (u96.1 0 306).toInt := congrArg Int32.toInt ((fr98.2.1 306 (by decide)).trans (show u96.1 0 306 = (u96.1 0 306) by rfl))
      have q109 : (u2.1 0 312).toInt = (v.1 0 312).toInt := congrArg Int32.toInt ((fr1.2.1 312 (by decide)).trans (show v.1 0 312 = (v.1 0 312) by rfl))
      have q110 : (u96.1 0 312).toInt = (u2.1 0 312).toInt := congrArg Int32.toInt ((fr95.2.1 312 (by decide)).trans (show u2.1 0 312 = (u2.1 0 312) by rfl))
      have q111 : (u99.1 0 312).toInt = (u96.1 0 312).toInt := congrArg Int32.toInt ((fr98.2.1 312 (by decide)).trans (show u96.1 0 312 = (u96.1 0 312) by rfl))
      have q112 : (u2.1 0 321).toInt = (v.1 0 321).toInt := congrArg Int32.toInt ((fr1.2.1 321 (by decide)).trans (show v.1 0 321 = (v.1 0 321) by rfl))
      have q113 : (u96.1 0 321).toInt = (u2.1 0 321).toInt := congrArg Int32.toInt ((fr95.2.1 321 (by decide)).trans (show u2.1 0 321 = (u2.1 0 321) by rfl))
      have q114 : (u99.1 0 321).toInt = (u96.1 0 321).toInt := congrArg Int32.toInt ((fr98.2.1 321 (by decide)).trans (show u96.1 0 321 = (u96.1 0 321) by rfl))
      have q115 : (u2.1 0 326).toInt = (v.1 0 326).toInt := congrArg Int32.toInt ((fr1.2.1 326 (by decide)).trans (show v.1 0 326 = (v.1 0 326) by rfl))
      have q116 : (u96.1 0 326).toInt = (u2.1 0 326).toInt := congrArg Int32.toInt ((fr95.2.1 326 (by decide)).trans (show u2.1 0 326 = (u2.1 0 326) by rfl))
      have q117 : (u99.1 0 326).toInt = (u96.1 0 326).toInt := congrArg Int32.toInt ((fr98.2.1 326 (by decide)).trans (show u96.1 0 326 = (u96.1 0 326) by rfl))
      have q118 : (u2.1 0 373).toInt = (v.1 0 373).toInt := congrArg Int32.toInt ((fr1.2.1 373 (by decide)).trans (show v.1 0 373 = (v.1 0 373) by rfl))
      have q119 : (u96.1 0 373).toInt = (u2.1 0 373).toInt := congrArg Int32.toInt ((fr95.2.1 373 (by decide)).trans (show u2.1 0 373 = (u2.1 0 373) by rfl))
      have q120 : (u99.1 0 373).toInt = (u96.1 0 373).toInt := congrArg Int32.toInt ((fr98.2.1 373 (by decide)).trans (show u96.1 0 373 = (u96.1 0 373) by rfl))
      have q121 : (u2.1 0 381).toInt = (v.1 0 381).toInt := congrArg Int32.toInt ((fr1.2.1 381 (by decide)).trans (show v.1 0 381 = (v.1 0 381) by rfl))
      have q122 : (u96.1 0 381).toInt = (u2.1 0 381).toInt := congrArg Int32.toInt ((fr95.2.1 381 (by decide)).trans (show u2.1 0 381 = (u2.1 0 381) by rfl))
      have q123 : (u99.1 0 381).toInt = (u96.1 0 381).toInt := congrArg Int32.toInt ((fr98.2.1 381 (by decide)).trans (show u96.1 0 381 = (u96.1 0 381) by rfl))
      have q124 : (u2.1 0 317).toInt = (v.1 0 317).toInt := congrArg Int32.toInt ((fr1.2.1 317 (by decide)).trans (show v.1 0 317 = (v.1 0 317) by rfl))
      have q125 : (u96.1 0 317).toInt = (u2.1 0 317).toInt := congrArg Int32.toInt ((fr95.2.1 317 (by decide)).trans (show u2.1 0 317 = (u2.1 0 317) by rfl))
      have q126 : (u99.1 0 317).toInt = (u96.1 0 317).toInt := congrArg Int32.toInt ((fr98.2.1 317 (by decide)).trans (show u96.1 0 317 = (u96.1 0 317) by rfl))
      refine W.sz (fun hz9 => ?_)
      refine czx_v (rx_Vk (n := 1) (As := [.int 1]) (rest := []) hx hb hml hown ht hKK hFx hP hD hS hA (E dC dI cI cB cZ cJ cR tb H.size ad pr N L1 L2 u99 (1 : Int32) ps (show 0 ≤ (u99.1 0 304).toInt ∧ (u99.1 0 304).toInt ≤ 1503 from (om_57e3d9ffbd z304 q101 q102 q103)) (show 0 ≤ (u99.1 0 305).toInt ∧ (u99.1 0 305).toInt ≤ 1500 from (om_2cfcbbe098 z305 q94 q104 q105)) (show 0 ≤ (u99.1 0 306).toInt ∧ (u99.1 0 306).toInt ≤ 40 from (om_91b0537b40 z306 q106 q107 q108)) (show 0 ≤ (u99.1 0 312).toInt ∧ (u99.1 0 312).toInt ≤ 500 from (om_a369f3fea6 z312 q109 q110 q111)) (show 0 ≤ (u99.1 0 321).toInt ∧ (u99.1 0 321).toInt ≤ 501 from (om_ca65317fd6 z321 q112 q113 q114)) (show 0 ≤ (u99.1 0 326).toInt ∧ (u99.1 0 326).toInt ≤ 420 from (om_ba86cd30dc z326 q115 q116 q117)) (show 0 ≤ (u99.1 0 373).toInt ∧ (u99.1 0 373).toInt ≤ 4000 from (om_282c7f458f z373 q118 q119 q120)) (show 0 ≤ (u99.1 0 381).toInt ∧ (u99.1 0 381).toInt ≤ 3008 from (om_2a08b4c68c z305 z326 z381 zd q121 q122 q123)) (show L1.length = 40 from hL1) (show L2.length = 60 from hL2) (show RP u99 from ((show FC [305, 306, 307, 314, 315, 317, 321, 326, 381] [0, 316, 318, 319, 320, 324, 325, 378, 379, 380] v u99 from (FC.tr (FC.tr (FC.tr (FC.rf _) (FC.up fr1 (by decide) (by decide))) (FC.up fr95 (by decide) (by decide))) (FC.up fr98 (by decide) (by decide)))).1 rp)) (show pr ps = ad 908 from hps) (show (u99.1 0 300) = ps from (Eq.trans (fr98.2.1 300 (by decide)) (Eq.trans (fr95.2.1 300 (by decide)) (Eq.trans (fr1.2.1 300 (by decide)) es300)))) (show (u99.1 0 310) = ps from (Eq.trans (fr98.2.1 310 (by decide)) (Eq.trans (fr95.2.1 310 (by decide)) (Eq.trans (fr1.2.1 310 (by decide)) es310)))) (show l.stackTraces = false from hst) (show (u99.1 0 381).toInt + (u99.1 0 326).toInt - 2 * (u99.1 0 305).toInt ≤ 0 from (om_6c29df0123 zd q94 q115 q121 q104 q116 q122 q105 q117 q123)) (show 0 ≤ (u99.1 0 317).toInt ∧ (u99.1 0 317).toInt - 4 * (u99.1 0 305).toInt ≤ 8 from (om_0933b5d08b zlb q94 q124 q104 q125 q105 q126)) (show 40 ≤ (u99.1 0 306).toInt + (n : Int) from (om_00c4deb960 zn q106 q107 q108))) tw_520 tw_521 (by decide +kernel) rfl rfl ⟨show (8 * n + 20) + 1 ≤ 8 * n + 21 from om_12a3a4432e, show 8 + (5 + 11) + 28 * (8 * n + 20) ≤ 28 * (8 * n + 21) from om_daa41a5b32⟩ (List.range (cW ad pr N cI cR L1 L2 u99).length) (rg_map _) (nd_range _) 2 rfl rfl rfl rfl hl.1 rfl (Nat.le_of_ble_eq_true rfl) dX2_argument_34 ⟨Nat.le_of_ble_eq_true rfl, Nat.le_of_ble_eq_true rfl⟩) hP hD hS hA (fun u9 ce9 q9 H locs hx9 hP hD hS hc9 hv9 hf9 => ?_) (fun u128 H locs hw127 hP hD hS hz8 => ?_)
      · exact vx_out (fun x h9 => (hnt x h9).elim) hlocks hc9 hv9 hf9 (fun t9 ht9 hv8 => ⟨u9, ⟨FC.tr (FC.tr (FC.tr (FC.tr (FC.rf _) (FC.up fr1 (by decide) (by decide))) (FC.up fr95 (by decide) (by decide))) (FC.up fr98 (by decide) (by decide))) hx9.1, hx9.2.1, ⟨z304, z305, z306, z312, z321, z326, z373, z381, zd, zlb, r3, u2, ex1, ⟨fr1, rs1⟩, (Or.inr (⟨z54, (Or.inr (⟨z93, u96, ex95, ⟨fr95, rs95⟩, u99, ex98, ⟨fr98, rs98⟩, (Or.inl ⟨u9, hx9.2.2, rfl, rfl⟩)⟩))⟩))⟩⟩, ⟨rfl, by rw [ht9]; exact hP, hD⟩, hS.F ht9⟩) hS.2.2 (Nat.le_refl _) (Nat.le_refl _)
      refine W.shrink (hz8.trans hz9) ?_
      obtain ⟨fr127, ex127, i305127, i306127, i321127, i326127, i381127, pd127, pt127, plb127, po127, rs127⟩ := hw127
      have i305127 : 0 ≤ (u128.1 0 305).toInt ∧ (u128.1 0 305).toInt ≤ 1500 := i305127
      have i306127 : 0 ≤ (u128.1 0 306).toInt ∧ (u128.1 0 306).toInt ≤ 40 := i306127
      have i321127 : 0 ≤ (u128.1 0 321).toInt ∧ (u128.1 0 321).toInt ≤ 501 := i321127
      have i326127 : 0 ≤ (u128.1 0 326).toInt ∧ (u128.1 0 326).toInt ≤ 420 := i326127
      have i381127 : 0 ≤ (u128.1 0 381).toInt ∧ (u128.1 0 381).toInt ≤ 3008 := i381127
      have pd127 : (u128.1 0 381).toInt + (u128.1 0 326).toInt - 2 * (u128.1 0 305).toInt + (1) ≤ (u99.1 0 381).toInt + (u99.1 0 326).toInt - 2 * (u99.1 0 305).toInt := pd127
      have pt127 : (u99.1 0 305).toInt + 1 ≤ (u128.1 0 305).toInt := pt127
      have plb127 : (u99.1 0 317).toInt ≤ (u128.1 0 317).toInt ∧ (u128.1 0 317).toInt - 4 * (u128.1 0 305).toInt ≤ (u99.1 0 317).toInt - 4 * (u99.1 0 305).toInt + 0 := plb127
      have po127 : (u128.1 0 306).toInt = (u99.1 0 306).toInt := po127
      have rs127 : RS u99 u128 := rs127
      refine lv_aload_n hx hb dX2_argument_37 rfl (lv_at hl 0 rfl) ?_
      refine va_get (D := (dC, dI)) (ci := 6) (fs := oF_X2 ad pr u128) (v := .ref (ad 901)) (C := RX2) (T := TX2) (N := 5) hx hb ht itX2 hown hK hP 2 rfl rfl 1 (by decide) (ht _ tw_498) (fun _ h9 => h9) rfl dX2_argument_38 ?_
      refine lv_iconst (v := 4) hx hb dX2_argument_41 (by decide) ?_
      refine lv_aload_n hx hb dX2_argument_42 rfl (lv_at hl 0 rfl) ?_
      refine va_get (D := (dC, dI)) (ci := 6) (fs := oF_X2 ad pr u128) (v := .ref (ad 901)) (C := RX2) (T := TX2) (N := 5) hx hb ht itX2 hown hK hP 2 rfl rfl 1 (by decide) (ht _ tw_498) (fun _ h9 => h9) rfl dX2_argument_43 ?_
      have q130 : (u128.1 0 312).toInt = (u99.1 0 312).toInt := congrArg Int32.toInt ((fr127.2.1 312 (by decide)).trans (show u99.1 0 312 = (u99.1 0 312) by rfl))
      refine cu_i (rn_Vk (n := 0) (As := []) (rest := [.int 4, .ref (ad 901)]) hx hb hml hown ht hKK hFx hP hD hS hA (c_x_X1_nextSlot l dC dI cI cB cZ cJ cR tb H.size ad pr N L1 L2 u128  (show 0 ≤ (u128.1 0 312).toInt ∧ (u128.1 0 312).toInt ≤ 500 from (om_31e0c91fb9 z312 q109 q110 q111 q130))) tw_505 tw_506 (by decide +kernel) rfl rfl ⟨show 0 + 1 ≤ 8 * n + 21 from om_a43f662a07, show 8 + (1 + 11) + 0 ≤ 28 * (8 * n + 21) from om_9f2e4fbaf3⟩ (List.range (cW ad pr N cI cR L1 L2 u128).length) (rg_map _) (nd_range _) 1 rfl rfl rfl rfl hl.1 rfl (Nat.le_of_ble_eq_true rfl) dX2_argument_46 ⟨Nat.le_of_ble_eq_true rfl, Nat.le_of_ble_eq_true rfl⟩) hP hD hS hA (fun r133 u132 H locs hw131 hP hD hS => ?_)
      obtain ⟨rfl, ex131⟩ := hw131
      refine W.widen (k := 0) (n := 0) (Nat.le_refl _) (Nat.le_refl _) ?_
      refine lv_iconst (v := 0) hx hb dX2_argument_49 (by decide) ?_
      refine cu_v (rn_Vk (n := 3) (As := [.int 4, .int r133, .int 0]) (rest := []) hx hb hml hown ht hKK hFx hP hD hS hA (c_x_X1_add l dC dI cI cB cZ cJ cR tb H.size ad pr N L1 L2 u128 (4 : Int32) r133 (0 : Int32) ps (show 0 ≤ (u128.1 0 381).toInt ∧ (u128.1 0 381).toInt ≤ 3008 from (om_e78eec72e1 i381127)) (show pr ps = ad 908 from hps) (show (u128.1 0 310) = ps from (Eq.trans (fr127.2.1 310 (by decide)) (Eq.trans (fr98.2.1 310 (by decide)) (Eq.trans (fr95.2.1 310 (by decide)) (Eq.trans (fr1.2.1 310 (by decide)) es310))))) (show (u128.1 0 381).toInt < 3008 from (om_149094688c zd q94 q115 q121 q104 q116 q122 q105 q117 q123 i305127 i326127 pd127))) tw_499 tw_500 (by decide +kernel) rfl rfl ⟨show 0 + 1 ≤ 8 * n + 21 from om_a43f662a07, show 8 + (5 + 11) + 0 ≤ 28 * (8 * n + 21) from om_78af4e5b79⟩ (List.range (cW ad pr N cI cR L1 L2 u128).length) (rg_map _) (nd_range _) 1 rfl rfl rfl rfl hl.1 rfl (Nat.le_of_ble_eq_true rfl) dX2_argument_50 ⟨Nat.le_of_ble_eq_true rfl, Nat.le_of_ble_eq_true rfl⟩) hP hD hS hA (fun u135 H locs hw134 hP hD hS => ?_)
      obtain ⟨fr134, ex134, i381134, pd134, rs134⟩ := hw134
      have i381134 : 0 ≤ (u135.1 0 381).toInt ∧ (u135.1 0 381).toInt ≤ 3008 := i381134
      have pd134 : (u135.1 0 381).toInt = (u128.1 0 381).toInt + 1 := pd134
      have rs134 : RS u128 u135 := rs134
      refine W.widen (k := 0) (n := 0) (Nat.le_refl _) (Nat.le_refl _) ?_
      refine lv_aload_n hx hb dX2_argument_53 rfl (lv_at hl 0 rfl) ?_
      refine va_get (D := (dC, dI)) (ci := 6) (fs := oF_X2 ad pr u135) (v := .ref (ad 901)) (C := RX2) (T := TX2) (N := 5) hx hb ht itX2 hown hK hP 2 rfl rfl 1 (by decide) (ht _ tw_498) (fun _ h9 => h9) rfl dX2_argument_54 ?_
      refine lv_dup hx hb dX2_argument_57 rfl ?_
      refine va_getN (D := (dC, dI)) (ci := 5) (fs := oF_X1 ad pr u135) (v := .int (u135.1 0 314)) (C := RX1) (T := TX1) (N := 12) hx hb ht itX1 hown hK hP 1 rfl rfl 4 (by decide) (hKK.fl2 6 rfl) (fun _ h9 => h9) rfl dX2_argument_58 ?_
      refine lv_iconst (v := 1) hx hb dX2_argument_61 (by decide) ?_
      refine lv_iadd hx hb dX2_argument_62 ?_
      refine va_putN (D := (dC, dI)) (ci := 5) (fs := oF_X1 ad pr u135) (v := .int ((u135.1 0 314) + (1 : Int32))) (ty := .int) (C := RX1) (T := TX1) (N := 12) hx hb ht itX1 tyX1 tyX1_ok nmX1 hown hK hP hD hS 1 rfl rfl 4 (by decide) (hKK.fl2 6 rfl) (fun _ h9 => h9) rfl (by decide +kernel) rfl rfl (Nat.le_of_ble_eq_true rfl) dX2_argument_63 (fun H locs hP hD hS => ?_)
      have hP := cP_ (cw_314 ad pr N cI cR L1 L2 u135 ((u135.1 0 314) + (1 : Int32))) hP
      have hD := cD_ (cw_314 ad pr N cI cR L1 L2 u135 ((u135.1 0 314) + (1 : Int32))) hD
      have q137 : (u135.1 0 305).toInt = (u128.1 0 305).toInt := congrArg Int32.toInt ((fr134.2.1 305 (by decide)).trans (show u128.1 0 305 = (u128.1 0 305) by rfl))
      have q138 : (u135.1 0 306).toInt = (u128.1 0 306).toInt := congrArg Int32.toInt ((fr134.2.1 306 (by decide)).trans (show u128.1 0 306 = (u128.1 0 306) by rfl))
      have q139 : (u135.1 0 321).toInt = (u128.1 0 321).toInt := congrArg Int32.toInt ((fr134.2.1 321 (by decide)).trans (show u128.1 0 321 = (u128.1 0 321) by rfl))
      have q140 : (u135.1 0 326).toInt = (u128.1 0 326).toInt := congrArg Int32.toInt ((fr134.2.1 326 (by decide)).trans (show u128.1 0 326 = (u128.1 0 326) by rfl))
      have q141 : (u135.1 0 317).toInt = (u128.1 0 317).toInt := congrArg Int32.toInt ((fr134.2.1 317 (by decide)).trans (show u128.1 0 317 = (u128.1 0 317) by rfl))
      refine W.sz (fun hz => ?_)
      refine vx_ret ?_
      refine W.widen (k := 1) (n := 6) (Nat.le_of_ble_eq_true rfl) (Nat.le_of_ble_eq_true rfl) ?_
      exact W.vret hx hb hr (fun t ht9 hW => ⟨⟨(wA u135 0 314 ((u135.1 0 314) + (1 : Int32))), rfl, ⟨(FC.f (FC.tr (FC.tr (FC.tr (FC.tr (FC.tr (FC.rf _) (FC.up fr1 (by decide) (by decide))) (FC.up fr95 (by decide) (by decide))) (FC.up fr98 (by decide) (by decide))) (FC.up fr127 (by decide) (by decide))) (FC.up fr134 (by decide) (by decide))) ((u135.1 0 314) + (1 : Int32)) (by decide)), ⟨z304, z305, z306, z312, z321, z326, z373, z381, zd, zlb, r3, u2, ex1, ⟨fr1, rs1⟩, (Or.inr (⟨z54, (Or.inr (⟨z93, u96, ex95, ⟨fr95, rs95⟩, u99, ex98, ⟨fr98, rs98⟩, (Or.inr (⟨u128, ex127, ⟨fr127, i305127, i306127, i321127, i326127, i381127, pd127, pt127, plb127, po127, rs127⟩, r133, ex131, u135, ex134, ⟨fr134, i381134, pd134, rs134⟩, rfl, rfl⟩))⟩))⟩))⟩, (show 0 ≤ (u135.1 0 305).toInt ∧ (u135.1 0 305).toInt ≤ 1500 from (om_c93ca3468d i305127 q137)), (show 0 ≤ (u135.1 0 306).toInt ∧ (u135.1 0 306).toInt ≤ 40 from (om_99e115f631 i306127 q138)), (show 0 ≤ (u135.1 0 321).toInt ∧ (u135.1 0 321).toInt ≤ 501 from (om_ff27494c0e i321127 q139)), (show 0 ≤ (u135.1 0 326).toInt ∧ (u135.1 0 326).toInt ≤ 420 from (om_8ed0dedb19 i326127 q140)), (show 0 ≤ (u135.1 0 381).toInt ∧ (u135.1 0 381).toInt ≤ 3008 from (om_12396814f2 i381127 i381134 pd134)), (show (u135.1 0 381).toInt + (u135.1 0 326).toInt - 2 * (u135.1 0 305).toInt + (0) ≤ (v.1 0 381).toInt + (v.1 0 326).toInt - 2 * (v.1 0 305).toInt from (om_2d8c7d66c3 q94 q115 q121 q104 q116 q122 q105 q117 q123 pd127 q137 q140 pd134)), (show (v.1 0 305).toInt + 1 ≤ (u135.1 0 305).toInt from (om_ee1ca4ca29 q94 q104 q105 pt127 q137)), (show (v.1 0 317).toInt ≤ (u135.1 0 317).toInt ∧ (u135.1 0 317).toInt - 4 * (u135.1 0 305).toInt ≤ (v.1 0 317).toInt - 4 * (v.1 0 305).toInt + 0 from (om_a5d16e59ff q94 q124 q104 q125 q105 q126 plb127 q137 q141)), (show (u135.1 0 306).toInt = (v.1 0 306).toInt from (om_8cd1b813ff q106 q107 q108 po127 q138)), (RS.w0 (RS.tr (RS.tr (RS.tr (RS.tr (RS.tr RS.rf rs1) rs95) rs98) rs127) rs134) (by decide))⟩, ⟨by rw [ht9]; exact hP, hD⟩, by rw [ht9]; exact hz⟩, hS.F ht9⟩) hS.2.2 dX2_argument_66
theorem om_bcad73cc2d {x0 x1 x2 : Int} (h0 : 0 ≤ x0 ∧ x0 ≤ 1500) (h1 : 0 ≤ x1 ∧ x1 ≤ 420) (h2 : 0 ≤ x2 ∧ x2 ≤ 3008) (h3 : x2 + x1 - 2 * x0 ≤ -2) : 0 ≤ x0 ∧ x0 ≤ 1500 := by omega
theorem om_c54267d4e2 {x0 x1 x2 : Int} (h0 : 0 ≤ x0 ∧ x0 ≤ 1500) (h1 : 0 ≤ x1 ∧ x1 ≤ 420) (h2 : 0 ≤ x2 ∧ x2 ≤ 3008) (h3 : x2 + x1 - 2 * x0 ≤ -2) : 0 ≤ x2 ∧ x2 ≤ 3008 := by omega
theorem om_00aafcdceb {x0 x1 x2 : Int} (h0 : x0 + x1 - 2 * x2 ≤ -2) : x0 + x1 - 2 * x2 ≤ 6 := by omega
theorem om_0ba3df771c {n0 : Nat} : 8 + (3 + 11) + 24 ≤ 28 * (8 * n0 + 21) := by omega
theorem om_347eb7f273 {x0 x1 x2 x3 x4 x5 : Int} (h0 : 0 ≤ x0 ∧ x0 ≤ 1500) (h1 : 0 ≤ x1 ∧ x1 ≤ 420) (h2 : x2 + x1 - 2 * x0 ≤ -2) (h3 : x3 = x0) (h4 : x4 = x1) (h5 : 0 ≤ x5 ∧ x5 ≤ 3008) (h6 : x5 + x4 - 2 * x3 + (-1) ≤ x2 + x1 - 2 * x0) : 0 ≤ x5 ∧ x5 ≤ 3008 := by omega
theorem om_b8e48837d3 {x0 x1 x2 x3 x4 x5 : Int} (h0 : 0 ≤ x0 ∧ x0 ≤ 1500) (h1 : 0 ≤ x1 ∧ x1 ≤ 420) (h2 : x2 + x1 - 2 * x0 ≤ -2) (h3 : x3 = x0) (h4 : x4 = x1) (h5 : x5 + x4 - 2 * x3 + (-1) ≤ x2 + x1 - 2 * x0) : x5 < 3008 := by omega
theorem om_63224301dd {x0 x1 x2 x3 x4 : Int} (h0 : 0 ≤ x0 ∧ x0 ≤ 1500) (h1 : 0 ≤ x1 ∧ x1 ≤ 420) (h2 : 0 ≤ x2 ∧ x2 ≤ 3008) (h3 : x2 + x1 - 2 * x0 ≤ -2) (h4 : x3 = x0) (h5 : x4 = x3) : 0 ≤ x4 ∧ x4 ≤ 1500 := by omega
theorem om_c2655926d9 {x0 x1 x2 x3 x4 x5 x6 : Int} (h0 : 0 ≤ x0 ∧ x0 ≤ 1500) (h1 : 0 ≤ x1 ∧ x1 ≤ 420) (h2 : x2 + x1 - 2 * x0 ≤ -2) (h3 : x3 = x0) (h4 : x4 = x1) (h5 : 0 ≤ x5 ∧ x5 ≤ 3008) (h6 : x5 + x4 - 2 * x3 + (-1) ≤ x2 + x1 - 2 * x0) (h7 : x6 = x5 + 1) : 0 ≤ x6 ∧ x6 ≤ 3008 := by omega
theorem om_8a1b837b69 {x0 x1 x2 x3 x4 x5 x6 x7 x8 : Int} (h0 : x0 + x1 - 2 * x2 ≤ -2) (h1 : x3 + x4 - 2 * x5 + (-1) ≤ x0 + x1 - 2 * x2) (h2 : x6 = x5) (h3 : x7 = x4) (h4 : x8 = x3 + 1) : x8 + x7 - 2 * x6 ≤ 0 := by omega
theorem om_d35c70b599 {x0 x1 x2 x3 x4 x5 x6 x7 x8 x9 x10 x11 : Int} (h0 : x0 + x1 - 2 * x2 ≤ -2) (h1 : x3 + x4 - 2 * x5 + (-1) ≤ x0 + x1 - 2 * x2) (h2 : x6 = x5) (h3 : x7 = x4) (h4 : x8 = x3 + 1) (h5 : 0 ≤ x9 ∧ x9 ≤ 1500) (h6 : 0 ≤ x10 ∧ x10 ≤ 420) (h7 : 0 ≤ x11 ∧ x11 ≤ 3008) (h8 : x11 + x10 - 2 * x9 + (1) ≤ x8 + x7 - 2 * x6) : 0 ≤ x11 ∧ x11 ≤ 3008 := by omega
theorem om_690cc3e3c3 {x0 x1 x2 x3 x4 x5 x6 x7 x8 x9 x10 x11 : Int} (h0 : x0 + x1 - 2 * x2 ≤ -2) (h1 : x3 + x4 - 2 * x5 + (-1) ≤ x0 + x1 - 2 * x2) (h2 : x6 = x5) (h3 : x7 = x4) (h4 : x8 = x3 + 1) (h5 : 0 ≤ x9 ∧ x9 ≤ 1500) (h6 : 0 ≤ x10 ∧ x10 ≤ 420) (h7 : x11 + x10 - 2 * x9 + (1) ≤ x8 + x7 - 2 * x6) : x11 < 3008 := by omega
theorem om_dcb76ccbff {x0 x1 x2 x3 x4 x5 x6 : Int} (h0 : 0 ≤ x0 ∧ x0 ≤ 420) (h1 : 0 ≤ x1 ∧ x1 ≤ 3008) (h2 : x1 + x0 - 2 * x2 ≤ -2) (h3 : x3 = x2) (h4 : x4 = x3) (h5 : 0 ≤ x5 ∧ x5 ≤ 1500) (h6 : x4 + 1 ≤ x5) (h7 : x6 = x5) : 0 ≤ x6 ∧ x6 ≤ 1500 := by omega
theorem om_ea1ce59f8c {x0 x1 x2 x3 x4 x5 x6 x7 x8 x9 x10 x11 x12 x13 x14 : Int} (h0 : x0 + x1 - 2 * x2 + (-1) ≤ x3 + x4 - 2 * x5) (h1 : x6 = x2) (h2 : x7 = x1) (h3 : x8 = x0 + 1) (h4 : x9 + x10 - 2 * x11 + (1) ≤ x8 + x7 - 2 * x6) (h5 : x12 = x11) (h6 : x13 = x10) (h7 : x14 = x9 + 1) : x14 + x13 - 2 * x12 + (-2) ≤ x3 + x4 - 2 * x5 := by omega
theorem om_5c50e82617 {x0 x1 x2 : Int} (h0 : 0 ≤ x0 ∧ x0 ≤ 1500) (h1 : 0 ≤ x1 ∧ x1 ≤ 420) (h2 : x2 + x1 - 2 * x0 ≤ -2) : x2 < 3008 := by omega
theorem om_7b41333319 {x0 x1 x2 x3 : Int} (h0 : 0 ≤ x0 ∧ x0 ≤ 1500) (h1 : 0 ≤ x1 ∧ x1 ≤ 420) (h2 : 0 ≤ x2 ∧ x2 ≤ 3008) (h3 : x2 + x1 - 2 * x0 ≤ -2) (h4 : x3 = x2 + 1) : 0 ≤ x3 ∧ x3 ≤ 3008 := by omega
theorem om_bc5105acb9 {x0 x1 x2 x3 : Int} (h0 : 0 ≤ x0 ∧ x0 ≤ 1500) (h1 : 0 ≤ x1 ∧ x1 ≤ 420) (h2 : x2 + x1 - 2 * x0 ≤ -2) (h3 : x3 = x2 + 1) : x3 < 3008 := by omega
theorem om_3ae92c2de1 {x0 x1 x2 x3 x4 : Int} (h0 : 0 ≤ x0 ∧ x0 ≤ 1500) (h1 : 0 ≤ x1 ∧ x1 ≤ 420) (h2 : 0 ≤ x2 ∧ x2 ≤ 3008) (h3 : x2 + x1 - 2 * x0 ≤ -2) (h4 : x3 = x2 + 1) (h5 : x4 = x3 + 1) : 0 ≤ x4 ∧ x4 ≤ 3008 := by omega
theorem om_a6525b88b9 {x0 x1 x2 x3 x4 x5 x6 x7 x8 : Int} (h0 : x0 + x1 - 2 * x2 ≤ -2) (h1 : x3 = x2) (h2 : x4 = x1) (h3 : x5 = x0 + 1) (h4 : x6 = x3) (h5 : x7 = x4) (h6 : x8 = x5 + 1) : x8 + x7 - 2 * x6 ≤ 0 := by omega
theorem om_05f509d900 {x0 x1 x2 x3 x4 x5 x6 x7 x8 x9 x10 x11 : Int} (h0 : x0 + x1 - 2 * x2 ≤ -2) (h1 : x3 = x2) (h2 : x4 = x1) (h3 : x5 = x0 + 1) (h4 : x6 = x3) (h5 : x7 = x4) (h6 : x8 = x5 + 1) (h7 : 0 ≤ x9 ∧ x9 ≤ 1500) (h8 : 0 ≤ x10 ∧ x10 ≤ 420) (h9 : x11 + x10 - 2 * x9 + (1) ≤ x8 + x7 - 2 * x6) : x11 < 3008 := by omega
theorem om_5183cd35aa {x0 x1 x2 x3 x4 x5 x6 x7 x8 x9 x10 x11 x12 x13 x14 : Int} (h0 : x0 = x1) (h1 : x2 = x3) (h2 : x4 = x5 + 1) (h3 : x6 = x0) (h4 : x7 = x2) (h5 : x8 = x4 + 1) (h6 : x9 + x10 - 2 * x11 + (1) ≤ x8 + x7 - 2 * x6) (h7 : x12 = x11) (h8 : x13 = x10) (h9 : x14 = x9 + 1) : x14 + x13 - 2 * x12 + (-2) ≤ x5 + x3 - 2 * x1 := by omega
set_option maxHeartbeats 16000000 in
set_option maxRecDepth 100000 in
theorem c_x_X2_changeBy (l : Launch) (n : Nat) (E : Cq_expression l n) (dC : Nat → ClassId) (dI : Nat → Nat → Nat) (cI cB cZ cJ cR : ClassId) (tb : Nat → Nat) (sz : Nat) (ad : Nat → Nat) (pr : Int32 → Nat) (N : Nat) (L1 L2 : List Nat) (v : MS) (pa : Int32) (pb : Int32) (pc1 : Int32) (pd : Int32) (ps : Int32) (z304 : 0 ≤ (v.1 0 304).toInt ∧ (v.1 0 304).toInt ≤ 1503) (z305 : 0 ≤ (v.1 0 305).toInt ∧ (v.1 0 305).toInt ≤ 1500) (z306 : 0 ≤ (v.1 0 306).toInt ∧ (v.1 0 306).toInt ≤ 40) (z312 : 0 ≤ (v.1 0 312).toInt ∧ (v.1 0 312).toInt ≤ 500) (z321 : 0 ≤ (v.1 0 321).toInt ∧ (v.1 0 321).toInt ≤ 501) (z326 : 0 ≤ (v.1 0 326).toInt ∧ (v.1 0 326).toInt ≤ 420) (z373 : 0 ≤ (v.1 0 373).toInt ∧ (v.1 0 373).toInt ≤ 4000) (z381 : 0 ≤ (v.1 0 381).toInt ∧ (v.1 0 381).toInt ≤ 3008) (hL1 : L1.length = 40) (hL2 : L2.length = 60) (rp : RP v) (hps : pr ps = ad 908) (es300 : (v.1 0 300) = ps) (es310 : (v.1 0 310) = ps) (hst : l.stackTraces = false) (zd : (v.1 0 381).toInt + (v.1 0 326).toInt - 2 * (v.1 0 305).toInt ≤ -2) (zlb : 0 ≤ (v.1 0 317).toInt ∧ (v.1 0 317).toInt - 4 * (v.1 0 305).toInt ≤ 8) (zn : 40 ≤ (v.1 0 306).toInt + (n : Int)) : vx_Met l yX2_changeBy (Cond.code yX2_changeBy cX2_changeBy 6 none :: tw_W) ({ frames := 8 * n + 21, cells := 1, slots := 6, locals := 28 * (8 * n + 21) }) (pc_ (dC, dI) (tyS cI cB cZ cJ cR) tb (cW ad pr N cI cR L1 L2 v) sz [.ref (ad 902), .int pa, .int pb, .int pc1, .int pd]) (qvz_ (dC, dI) (cW ad pr N cI cR L1 L2 v) sz (fun (u : MS) => FC [305, 306, 307, 314, 315, 317, 321, 326, 381] [0, 316, 318, 319, 320, 324, 325, 378, 379, 380] v u ∧ (Q_x_X2_changeBy L1 L2 (QE L1 L2 n) v pa pb pc1 pd false u) ∧ (0 ≤ (u.1 0 305).toInt ∧ (u.1 0 305).toInt ≤ 1500) ∧ (0 ≤ (u.1 0 306).toInt ∧ (u.1 0 306).toInt ≤ 40) ∧ (0 ≤ (u.1 0 321).toInt ∧ (u.1 0 321).toInt ≤ 501) ∧ (0 ≤ (u.1 0 326).toInt ∧ (u.1 0 326).toInt ≤ 420) ∧ (0 ≤ (u.1 0 381).toInt ∧ (u.1 0 381).toInt ≤ 3008) ∧ ((u.1 0 381).toInt + (u.1 0 326).toInt - 2 * (u.1 0 305).toInt + (-2) ≤ (v.1 0 381).toInt + (v.1 0 326).toInt - 2 * (v.1 0 305).toInt) ∧ ((v.1 0 305).toInt + 1 ≤ (u.1 0 305).toInt) ∧ ((v.1 0 317).toInt ≤ (u.1 0 317).toInt ∧ (u.1 0 317).toInt - 4 * (u.1 0 305).toInt ≤ (v.1 0 317).toInt - 4 * (v.1 0 305).toInt + 0) ∧ ((u.1 0 306).toInt = (v.1 0 306).toInt) ∧ (RS v u)) (fun (u : MS) => (cW ad pr N cI cR L1 L2 u))) (qxc (dC, dI) (cW ad pr N cI cR L1 L2 v) sz (fun (u : MS) => (cW ad pr N cI cR L1 L2 u)) (fun (u : MS) => FC xfl xal v u ∧ (u.1 0 308).toInt ≠ 0 ∧ (Q_x_X2_changeBy L1 L2 (QE L1 L2 n) v pa pb pc1 pd true u))) 1 6 (va_A (cW ad pr N cI cR L1 L2 v) sz) := by
  refine vx_ofW (cc := cX2_changeBy) (maxL := 6) (ret := none) (by decide) rfl ?_
  intro p e s m args below meth c s₁ B hml hnt hv
  obtain ⟨rfl, hsz, hP, hKK, hD0, hFx⟩ := hv
  have hK := hKK.1
  have hx := B.exec
  have hb := B.bytes
  have hr := B.returns
  have ht : ∀ w ∈ tw_W, w.before _ s = true := fun w h => atoms_spec (ws := Cond.code yX2_changeBy cX2_changeBy 6 none :: tw_W) B.pre w (List.mem_cons_of_mem _ h)
  have hown : s.vm.findClass RX2 = some m.cls := findClass_of_methodNamed B.named
  have hlocks := B.notSynchronized
  subst hsz
  unfold qvz_ qxc
  have hD := hD0.self (sz := s.heap.size)
  generalize hAe : va_A (cW ad pr N cI cR L1 L2 v) s.heap.size = A at hD hFx ⊢
  have hA : ∀ q : Nat, s.heap.size ≤ q → A q := fun q h => by rw [← hAe]; exact Or.inr h
  have hS : va_S A s.heap s.heap [] := va_S.rf
  have hl := lv_entry ([.ref (ad 902), .int pa, .int pb, .int pc1, .int pd]) (n := 6) (Nat.le_of_ble_eq_true rfl)
  rw [lg_entry_eq]
  generalize (lg_sl ([.ref (ad 902), .int pa, .int pb, .int pc1, .int pd]) ++ List.replicate (6 - (lg_sl ([.ref (ad 902), .int pa, .int pb, .int pc1, .int pd])).length) Slot.unset).toArray = ls at hl ⊢
  have hl : lv_has ls 6 [(0, .ref (ad 902)), (1, .int pa), (2, .int pb), (3, .int pc1), (4, .int pd)] := hl
  refine lv_iload hx hb dX2_changeBy_0 (lv_at hl 4 rfl) ?_
  refine lv_if_eq (tgt := 19) hx hb dX2_changeBy_2 (by decide) (fun h1 => ?_) (fun h1 => ?_)
  · have z2 : pd.toInt = (0 : Int) := eq_z rfl (show (0 : Int32).toInt = (0 : Int) by decide) h1
    refine lv_aload_n hx hb dX2_changeBy_19 rfl (lv_at hl 0 rfl) ?_
    refine lv_iload_n hx hb dX2_changeBy_20 rfl (lv_at hl 2 rfl) ?_
    refine lv_iload_n hx hb dX2_changeBy_21 rfl (lv_at hl 3 rfl) ?_
    refine cu_v (rn_Vk (n := 2) (As := [.int pb, .int pc1]) (rest := []) hx hb hml hown ht hKK hFx hP hD hS hA (c_x_X2_read l dC dI cI cB cZ cJ cR tb s.heap.size ad pr N L1 L2 v pb pc1 ps (show 0 ≤ (v.1 0 305).toInt ∧ (v.1 0 305).toInt ≤ 1500 from (om_bcad73cc2d z305 z326 z381 zd)) (show 0 ≤ (v.1 0 326).toInt ∧ (v.1 0 326).toInt ≤ 420 from (om_839d7ed7dd z326)) (show 0 ≤ (v.1 0 381).toInt ∧ (v.1 0 381).toInt ≤ 3008 from (om_c54267d4e2 z305 z326 z381 zd)) (show pr ps = ad 908 from hps) (show (v.1 0 310) = ps from es310) (show (v.1 0 381).toInt + (v.1 0 326).toInt - 2 * (v.1 0 305).toInt ≤ 6 from (om_00aafcdceb zd))) tw_522 tw_523 (by decide +kernel) rfl rfl ⟨show 1 + 1 ≤ 8 * n + 21 from om_0c36fa896d, show 8 + (3 + 11) + 24 ≤ 28 * (8 * n + 21) from om_0ba3df771c⟩ (List.range (cW ad pr N cI cR L1 L2 v).length) (rg_map _) (nd_range _) 2 rfl rfl rfl rfl hl.1 rfl (Nat.le_of_ble_eq_true rfl) dX2_changeBy_22 ⟨Nat.le_of_ble_eq_true rfl, Nat.le_of_ble_eq_true rfl⟩) hP hD hS hA (fun u4 H locs hw3 hP hD hS => ?_)
    obtain ⟨fr3, ex3, i3813, pd3, rs3⟩ := hw3
    refine W.widen (k := 0) (n := 0) (Nat.le_refl _) (Nat.le_refl _) ?_
    refine lv_aload_n hx hb dX2_changeBy_25 rfl (lv_at hl 0 rfl) ?_
    refine va_get (D := (dC, dI)) (ci := 6) (fs := oF_X2 ad pr u4) (v := .ref (ad 901)) (C := RX2) (T := TX2) (N := 5) hx hb ht itX2 hown hK hP 2 rfl rfl 1 (by decide) (ht _ tw_498) (fun _ h9 => h9) rfl dX2_changeBy_26 ?_
    have q6 : (u4.1 0 312).toInt = (v.1 0 312).toInt := congrArg Int32.toInt ((fr3.2.1 312 (by decide)).trans (show v.1 0 312 = (v.1 0 312) by rfl))
    refine cu_i (rn_Vk (n := 0) (As := []) (rest := []) hx hb hml hown ht hKK hFx hP hD hS hA (c_x_X1_nextSlot l dC dI cI cB cZ cJ cR tb H.size ad pr N L1 L2 u4  (show 0 ≤ (u4.1 0 312).toInt ∧ (u4.1 0 312).toInt ≤ 500 from (om_f8376ff89c z312 q6))) tw_505 tw_506 (by decide +kernel) rfl rfl ⟨show 0 + 1 ≤ 8 * n + 21 from om_a43f662a07, show 8 + (1 + 11) + 0 ≤ 28 * (8 * n + 21) from om_9f2e4fbaf3⟩ (List.range (cW ad pr N cI cR L1 L2 u4).length) (rg_map _) (nd_range _) 1 rfl rfl rfl rfl hl.1 rfl (Nat.le_of_ble_eq_true rfl) dX2_changeBy_29 ⟨Nat.le_of_ble_eq_true rfl, Nat.le_of_ble_eq_true rfl⟩) hP hD hS hA (fun r9 u8 H locs hw7 hP hD hS => ?_)
    obtain ⟨rfl, ex7⟩ := hw7
    refine W.widen (k := 0) (n := 0) (Nat.le_refl _) (Nat.le_refl _) ?_
    refine lv_istore (lv' := [(5, .int r9), (0, .ref (ad 902)), (1, .int pa), (2, .int pb), (3, .int pc1), (4, .int pd)]) hx hb dX2_changeBy_32 hl (by decide) rfl (fun ls hl => ?_)
    refine lv_aload_n hx hb dX2_changeBy_34 rfl (lv_at hl 1 rfl) ?_
    refine va_get (D := (dC, dI)) (ci := 6) (fs := oF_X2 ad pr u4) (v := .ref (ad 901)) (C := RX2) (T := TX2) (N := 5) hx hb ht itX2 hown hK hP 2 rfl rfl 1 (by decide) (ht _ tw_498) (fun _ h9 => h9) rfl dX2_changeBy_35 ?_
    refine lv_iconst (v := 4) hx hb dX2_changeBy_38 (by decide) ?_
    refine lv_iload hx hb dX2_changeBy_39 (lv_at hl 0 rfl) ?_
    refine lv_iconst (v := 0) hx hb dX2_changeBy_41 (by decide) ?_
    have q10 : (u4.1 0 305).toInt = (v.1 0 305).toInt := congrArg Int32.toInt ((fr3.2.1 305 (by decide)).trans (show v.1 0 305 = (v.1 0 305) by rfl))
    have q11 : (u4.1 0 326).toInt = (v.1 0 326).toInt := congrArg Int32.toInt ((fr3.2.1 326 (by decide)).trans (show v.1 0 326 = (v.1 0 326) by rfl))
    refine cu_v (rn_Vk (n := 3) (As := [.int 4, .int r9, .int 0]) (rest := []) hx hb hml hown ht hKK hFx hP hD hS hA (c_x_X1_add l dC dI cI cB cZ cJ cR tb H.size ad pr N L1 L2 u4 (4 : Int32) r9 (0 : Int32) ps (show 0 ≤ (u4.1 0 381).toInt ∧ (u4.1 0 381).toInt ≤ 3008 from (om_347eb7f273 z305 z326 zd q10 q11 i3813 pd3)) (show pr ps = ad 908 from hps) (show (u4.1 0 310) = ps from (Eq.trans (fr3.2.1 310 (by decide)) es310)) (show (u4.1 0 381).toInt < 3008 from (om_b8e48837d3 z305 z326 zd q10 q11 pd3))) tw_499 tw_500 (by decide +kernel) rfl rfl ⟨show 0 + 1 ≤ 8 * n + 21 from om_a43f662a07, show 8 + (5 + 11) + 0 ≤ 28 * (8 * n + 21) from om_78af4e5b79⟩ (List.range (cW ad pr N cI cR L1 L2 u4).length) (rg_map _) (nd_range _) 1 rfl rfl rfl rfl hl.1 rfl (Nat.le_of_ble_eq_true rfl) dX2_changeBy_42 ⟨Nat.le_of_ble_eq_true rfl, Nat.le_of_ble_eq_true rfl⟩) hP hD hS hA (fun u13 H locs hw12 hP hD hS => ?_)
    obtain ⟨fr12, ex12, i38112, pd12, rs12⟩ := hw12
    have i38112 : 0 ≤ (u13.1 0 381).toInt ∧ (u13.1 0 381).toInt ≤ 3008 := i38112
    have pd12 : (u13.1 0 381).toInt = (u4.1 0 381).toInt + 1 := pd12
    have rs12 : RS u4 u13 := rs12
    refine W.widen (k := 0) (n := 0) (Nat.le_refl _) (Nat.le_refl _) ?_
    refine lv_aload_n hx hb dX2_changeBy_45 rfl (lv_at hl 1 rfl) ?_
    refine va_get (D := (dC, dI)) (ci := 6) (fs := oF_X2 ad pr u13) (v := .ref (ad 901)) (C := RX2) (T := TX2) (N := 5) hx hb ht itX2 hown hK hP 2 rfl rfl 1 (by decide) (ht _ tw_498) (fun _ h9 => h9) rfl dX2_changeBy_46 ?_
    refine lv_dup hx hb dX2_changeBy_49 rfl ?_
    refine va_getN (D := (dC, dI)) (ci := 5) (fs := oF_X1 ad pr u13) (v := .int (u13.1 0 314)) (C := RX1) (T := TX1) (N := 12) hx hb ht itX1 hown hK hP 1 rfl rfl 4 (by decide) (hKK.fl2 6 rfl) (fun _ h9 => h9) rfl dX2_changeBy_50 ?_
    refine lv_iconst (v := 1) hx hb dX2_changeBy_53 (by decide) ?_
    refine lv_iadd hx hb dX2_changeBy_54 ?_
    refine va_putN (D := (dC, dI)) (ci := 5) (fs := oF_X1 ad pr u13) (v := .int ((u13.1 0 314) + (1 : Int32))) (ty := .int) (C := RX1) (T := TX1) (N := 12) hx hb ht itX1 tyX1 tyX1_ok nmX1 hown hK hP hD hS 1 rfl rfl 4 (by decide) (hKK.fl2 6 rfl) (fun _ h9 => h9) rfl (by decide +kernel) rfl rfl (Nat.le_of_ble_eq_true rfl) dX2_changeBy_55 (fun H locs hP hD hS => ?_)
    have hP := cP_ (cw_314 ad pr N cI cR L1 L2 u13 ((u13.1 0 314) + (1 : Int32))) hP
    have hD := cD_ (cw_314 ad pr N cI cR L1 L2 u13 ((u13.1 0 314) + (1 : Int32))) hD
    refine lv_aload_n hx hb dX2_changeBy_58 rfl (lv_at hl 1 rfl) ?_
    refine lv_iconst (v := 1) hx hb dX2_changeBy_59 (by decide) ?_
    have q15 : (u4.1 0 304).toInt = (v.1 0 304).toInt := congrArg Int32.toInt ((fr3.2.1 304 (by decide)).trans (show v.1 0 304 = (v.1 0 304) by rfl))
    have q16 : (u13.1 0 304).toInt = (u4.1 0 304).toInt := congrArg Int32.toInt ((fr12.2.1 304 (by decide)).trans (show u4.1 0 304 = (u4.1 0 304) by rfl))
    have q17 : (u13.1 0 305).toInt = (u4.1 0 305).toInt := congrArg Int32.toInt ((fr12.2.1 305 (by decide)).trans (show u4.1 0 305 = (u4.1 0 305) by rfl))
    have q18 : (u4.1 0 306).toInt = (v.1 0 306).toInt := congrArg Int32.toInt ((fr3.2.1 306 (by decide)).trans (show v.1 0 306 = (v.1 0 306) by rfl))
    have q19 : (u13.1 0 306).toInt = (u4.1 0 306).toInt := congrArg Int32.toInt ((fr12.2.1 306 (by decide)).trans (show u4.1 0 306 = (u4.1 0 306) by rfl))
    have q20 : (u13.1 0 312).toInt = (u4.1 0 312).toInt := congrArg Int32.toInt ((fr12.2.1 312 (by decide)).trans (show u4.1 0 312 = (u4.1 0 312) by rfl))
    have q21 : (u4.1 0 321).toInt = (v.1 0 321).toInt := congrArg Int32.toInt ((fr3.2.1 321 (by decide)).trans (show v.1 0 321 = (v.1 0 321) by rfl))
    have q22 : (u13.1 0 321).toInt = (u4.1 0 321).toInt := congrArg Int32.toInt ((fr12.2.1 321 (by decide)).trans (show u4.1 0 321 = (u4.1 0 321) by rfl))
    have q23 : (u13.1 0 326).toInt = (u4.1 0 326).toInt := congrArg Int32.toInt ((fr12.2.1 326 (by decide)).trans (show u4.1 0 326 = (u4.1 0 326) by rfl))
    have q24 : (u4.1 0 373).toInt = (v.1 0 373).toInt := congrArg Int32.toInt ((fr3.2.1 373 (by decide)).trans (show v.1 0 373 = (v.1 0 373) by rfl))
    have q25 : (u13.1 0 373).toInt = (u4.1 0 373).toInt := congrArg Int32.toInt ((fr12.2.1 373 (by decide)).trans (show u4.1 0 373 = (u4.1 0 373) by rfl))
    have q26 : (u4.1 0 317).toInt = (v.1 0 317).toInt := congrArg Int32.toInt ((fr3.2.1 317 (by decide)).trans (show v.1 0 317 = (v.1 0 317) by rfl))
    have q27 : (u13.1 0 317).toInt = (u4.1 0 317).toInt := congrArg Int32.toInt ((fr12.2.1 317 (by decide)).trans (show u4.1 0 317 = (u4.1 0 317) by rfl))
    refine W.sz (fun hz9 => ?_)
    refine czx_v (rx_Vk (n := 1) (As := [.int 1]) (rest := []) hx hb hml hown ht hKK hFx hP hD hS hA (E dC dI cI cB cZ cJ cR tb H.size ad pr N L1 L2 (wA u13 0 314 ((u13.1 0 314) + (1 : Int32))) (1 : Int32) ps (show 0 ≤ (u13.1 0 304).toInt ∧ (u13.1 0 304).toInt ≤ 1503 from (om_dd87ee851a z304 q15 q16)) (show 0 ≤ (u13.1 0 305).toInt ∧ (u13.1 0 305).toInt ≤ 1500 from (om_63224301dd z305 z326 z381 zd q10 q17)) (show 0 ≤ (u13.1 0 306).toInt ∧ (u13.1 0 306).toInt ≤ 40 from (om_68f540929a z306 q18 q19)) (show 0 ≤ (u13.1 0 312).toInt ∧ (u13.1 0 312).toInt ≤ 500 from (om_8a5975ec21 z312 q6 q20)) (show 0 ≤ (u13.1 0 321).toInt ∧ (u13.1 0 321).toInt ≤ 501 from (om_4dfa815534 z321 q21 q22)) (show 0 ≤ (u13.1 0 326).toInt ∧ (u13.1 0 326).toInt ≤ 420 from (om_9591dea625 z326 q11 q23)) (show 0 ≤ (u13.1 0 373).toInt ∧ (u13.1 0 373).toInt ≤ 4000 from (om_03cd8767ac z373 q24 q25)) (show 0 ≤ (u13.1 0 381).toInt ∧ (u13.1 0 381).toInt ≤ 3008 from (om_c2655926d9 z305 z326 zd q10 q11 i3813 pd3 pd12)) (show L1.length = 40 from hL1) (show L2.length = 60 from hL2) (show RP (wA u13 0 314 ((u13.1 0 314) + (1 : Int32))) from ((show FC [305, 306, 307, 314, 315, 317, 321, 326, 381] [0, 316, 318, 319, 320, 324, 325, 378, 379, 380] v (wA u13 0 314 ((u13.1 0 314) + (1 : Int32))) from (FC.f (FC.tr (FC.tr (FC.rf _) (FC.up fr3 (by decide) (by decide))) (FC.up fr12 (by decide) (by decide))) ((u13.1 0 314) + (1 : Int32)) (by decide))).1 rp)) (show pr ps = ad 908 from hps) (show (u13.1 0 300) = ps from (Eq.trans (fr12.2.1 300 (by decide)) (Eq.trans (fr3.2.1 300 (by decide)) es300))) (show (u13.1 0 310) = ps from (Eq.trans (fr12.2.1 310 (by decide)) (Eq.trans (fr3.2.1 310 (by decide)) es310))) (show l.stackTraces = false from hst) (show (u13.1 0 381).toInt + (u13.1 0 326).toInt - 2 * (u13.1 0 305).toInt ≤ 0 from (om_8a1b837b69 zd pd3 q17 q23 pd12)) (show 0 ≤ (u13.1 0 317).toInt ∧ (u13.1 0 317).toInt - 4 * (u13.1 0 305).toInt ≤ 8 from (om_afcbeb2a1d zlb q10 q26 q17 q27)) (show 40 ≤ (u13.1 0 306).toInt + (n : Int) from (om_ec198adb23 zn q18 q19))) tw_520 tw_521 (by decide +kernel) rfl rfl ⟨show (8 * n + 20) + 1 ≤ 8 * n + 21 from om_12a3a4432e, show 8 + (5 + 11) + 28 * (8 * n + 20) ≤ 28 * (8 * n + 21) from om_daa41a5b32⟩ (List.range (cW ad pr N cI cR L1 L2 (wA u13 0 314 ((u13.1 0 314) + (1 : Int32)))).length) (rg_map _) (nd_range _) 2 rfl rfl rfl rfl hl.1 rfl (Nat.le_of_ble_eq_true rfl) dX2_changeBy_60 ⟨Nat.le_of_ble_eq_true rfl, Nat.le_of_ble_eq_true rfl⟩) hP hD hS hA (fun u9 ce9 q9 H locs hx9 hP hD hS hc9 hv9 hf9 => ?_) (fun u29 H locs hw28 hP hD hS hz8 => ?_)
    · exact vx_out (fun x h9 => (hnt x h9).elim) hlocks hc9 hv9 hf9 (fun t9 ht9 hv8 => ⟨u9, ⟨FC.tr (FC.f (FC.tr (FC.tr (FC.rf _) (FC.up fr3 (by decide) (by decide))) (FC.up fr12 (by decide) (by decide))) ((u13.1 0 314) + (1 : Int32)) (by decide)) hx9.1, hx9.2.1, ⟨z304, z305, z306, z312, z321, z326, z373, z381, zd, zlb, (Or.inl ⟨z2, u4, ex3, ⟨fr3, i3813, pd3, rs3⟩, r9, ex7, u13, ex12, ⟨fr12, i38112, pd12, rs12⟩, (Or.inl ⟨u9, hx9.2.2, rfl, rfl⟩)⟩)⟩⟩, ⟨rfl, by rw [ht9]; exact hP, hD⟩, hS.F ht9⟩) hS.2.2 (Nat.le_refl _) (Nat.le_refl _)
    refine W.shrink (hz8.trans hz9) ?_
    obtain ⟨fr28, ex28, i30528, i30628, i32128, i32628, i38128, pd28, pt28, plb28, po28, rs28⟩ := hw28
    have i30528 : 0 ≤ (u29.1 0 305).toInt ∧ (u29.1 0 305).toInt ≤ 1500 := i30528
    have i30628 : 0 ≤ (u29.1 0 306).toInt ∧ (u29.1 0 306).toInt ≤ 40 := i30628
    have i32128 : 0 ≤ (u29.1 0 321).toInt ∧ (u29.1 0 321).toInt ≤ 501 := i32128
    have i32628 : 0 ≤ (u29.1 0 326).toInt ∧ (u29.1 0 326).toInt ≤ 420 := i32628
    have i38128 : 0 ≤ (u29.1 0 381).toInt ∧ (u29.1 0 381).toInt ≤ 3008 := i38128
    have pd28 : (u29.1 0 381).toInt + (u29.1 0 326).toInt - 2 * (u29.1 0 305).toInt + (1) ≤ (u13.1 0 381).toInt + (u13.1 0 326).toInt - 2 * (u13.1 0 305).toInt := pd28
    have pt28 : (u13.1 0 305).toInt + 1 ≤ (u29.1 0 305).toInt := pt28
    have plb28 : (u13.1 0 317).toInt ≤ (u29.1 0 317).toInt ∧ (u29.1 0 317).toInt - 4 * (u29.1 0 305).toInt ≤ (u13.1 0 317).toInt - 4 * (u13.1 0 305).toInt + 0 := plb28
    have po28 : (u29.1 0 306).toInt = (u13.1 0 306).toInt := po28
    have rs28 : RS (wA u13 0 314 ((u13.1 0 314) + (1 : Int32))) u29 := rs28
    refine lv_aload_n hx hb dX2_changeBy_63 rfl (lv_at hl 1 rfl) ?_
    refine va_get (D := (dC, dI)) (ci := 6) (fs := oF_X2 ad pr u29) (v := .ref (ad 901)) (C := RX2) (T := TX2) (N := 5) hx hb ht itX2 hown hK hP 2 rfl rfl 1 (by decide) (ht _ tw_498) (fun _ h9 => h9) rfl dX2_changeBy_64 ?_
    refine lv_dup hx hb dX2_changeBy_67 rfl ?_
    refine va_getN (D := (dC, dI)) (ci := 5) (fs := oF_X1 ad pr u29) (v := .int (u29.1 0 314)) (C := RX1) (T := TX1) (N := 12) hx hb ht itX1 hown hK hP 1 rfl rfl 4 (by decide) (hKK.fl2 6 rfl) (fun _ h9 => h9) rfl dX2_changeBy_68 ?_
    refine lv_iconst (v := 1) hx hb dX2_changeBy_71 (by decide) ?_
    refine lv_isub hx hb dX2_changeBy_72 ?_
    refine va_putN (D := (dC, dI)) (ci := 5) (fs := oF_X1 ad pr u29) (v := .int ((u29.1 0 314) - (1 : Int32))) (ty := .int) (C := RX1) (T := TX1) (N := 12) hx hb ht itX1 tyX1 tyX1_ok nmX1 hown hK hP hD hS 1 rfl rfl 4 (by decide) (hKK.fl2 6 rfl) (fun _ h9 => h9) rfl (by decide +kernel) rfl rfl (Nat.le_of_ble_eq_true rfl) dX2_changeBy_73 (fun H locs hP hD hS => ?_)
    have hP := cP_ (cw_314 ad pr N cI cR L1 L2 u29 ((u29.1 0 314) - (1 : Int32))) hP
    have hD := cD_ (cw_314 ad pr N cI cR L1 L2 u29 ((u29.1 0 314) - (1 : Int32))) hD
    refine lv_aload_n hx hb dX2_changeBy_76 rfl (lv_at hl 1 rfl) ?_
    refine va_get (D := (dC, dI)) (ci := 6) (fs := oF_X2 ad pr (wA u29 0 314 ((u29.1 0 314) - (1 : Int32)))) (v := .ref (ad 901)) (C := RX2) (T := TX2) (N := 5) hx hb ht itX2 hown hK hP 2 rfl rfl 1 (by decide) (ht _ tw_498) (fun _ h9 => h9) rfl dX2_changeBy_77 ?_
    refine lv_bipush (v := 20) hx hb dX2_changeBy_80 (by decide) ?_
    refine lv_iload_n hx hb dX2_changeBy_82 rfl (lv_at hl 2 rfl) ?_
    refine lv_iload hx hb dX2_changeBy_83 (lv_at hl 0 rfl) ?_
    refine cu_v (rn_Vk (n := 3) (As := [.int 20, .int pa, .int r9]) (rest := []) hx hb hml hown ht hKK hFx hP hD hS hA (c_x_X1_add l dC dI cI cB cZ cJ cR tb H.size ad pr N L1 L2 (wA u29 0 314 ((u29.1 0 314) - (1 : Int32))) (20 : Int32) pa r9 ps (show 0 ≤ (u29.1 0 381).toInt ∧ (u29.1 0 381).toInt ≤ 3008 from (om_d35c70b599 zd pd3 q17 q23 pd12 i30528 i32628 i38128 pd28)) (show pr ps = ad 908 from hps) (show (u29.1 0 310) = ps from (Eq.trans (fr28.2.1 310 (by decide)) (Eq.trans (fr12.2.1 310 (by decide)) (Eq.trans (fr3.2.1 310 (by decide)) es310)))) (show (u29.1 0 381).toInt < 3008 from (om_690cc3e3c3 zd pd3 q17 q23 pd12 i30528 i32628 pd28))) tw_499 tw_500 (by decide +kernel) rfl rfl ⟨show 0 + 1 ≤ 8 * n + 21 from om_a43f662a07, show 8 + (5 + 11) + 0 ≤ 28 * (8 * n + 21) from om_78af4e5b79⟩ (List.range (cW ad pr N cI cR L1 L2 (wA u29 0 314 ((u29.1 0 314) - (1 : Int32)))).length) (rg_map _) (nd_range _) 1 rfl rfl rfl rfl hl.1 rfl (Nat.le_of_ble_eq_true rfl) dX2_changeBy_85 ⟨Nat.le_of_ble_eq_true rfl, Nat.le_of_ble_eq_true rfl⟩) hP hD hS hA (fun u32 H locs hw31 hP hD hS => ?_)
    obtain ⟨fr31, ex31, i38131, pd31, rs31⟩ := hw31
    have i38131 : 0 ≤ (u32.1 0 381).toInt ∧ (u32.1 0 381).toInt ≤ 3008 := i38131
    have pd31 : (u32.1 0 381).toInt = (u29.1 0 381).toInt + 1 := pd31
    have rs31 : RS (wA u29 0 314 ((u29.1 0 314) - (1 : Int32))) u32 := rs31
    refine W.widen (k := 0) (n := 0) (Nat.le_refl _) (Nat.le_refl _) ?_
    have q34 : (u32.1 0 305).toInt = (u29.1 0 305).toInt := congrArg Int32.toInt ((fr31.2.1 305 (by decide)).trans (show (wA u29 0 314 ((u29.1 0 314) - (1 : Int32))).1 0 305 = (u29.1 0 305) by rfl))
    have q35 : (u32.1 0 306).toInt = (u29.1 0 306).toInt := congrArg Int32.toInt ((fr31.2.1 306 (by decide)).trans (show (wA u29 0 314 ((u29.1 0 314) - (1 : Int32))).1 0 306 = (u29.1 0 306) by rfl))
    have q36 : (u32.1 0 321).toInt = (u29.1 0 321).toInt := congrArg Int32.toInt ((fr31.2.1 321 (by decide)).trans (show (wA u29 0 314 ((u29.1 0 314) - (1 : Int32))).1 0 321 = (u29.1 0 321) by rfl))
    have q37 : (u32.1 0 326).toInt = (u29.1 0 326).toInt := congrArg Int32.toInt ((fr31.2.1 326 (by decide)).trans (show (wA u29 0 314 ((u29.1 0 314) - (1 : Int32))).1 0 326 = (u29.1 0 326) by rfl))
    have q38 : (u32.1 0 317).toInt = (u29.1 0 317).toInt := congrArg Int32.toInt ((fr31.2.1 317 (by decide)).trans (show (wA u29 0 314 ((u29.1 0 314) - (1 : Int32))).1 0 317 = (u29.1 0 317) by rfl))
    refine W.sz (fun hz => ?_)
    refine vx_ret ?_
    refine W.widen (k := 1) (n := 6) (Nat.le_of_ble_eq_true rfl) (Nat.le_of_ble_eq_true rfl) ?_
    exact W.vret hx hb hr (fun t ht9 hW => ⟨⟨u32, rfl, ⟨(FC.tr (FC.f (FC.tr (FC.f (FC.tr (FC.tr (FC.rf _) (FC.up fr3 (by decide) (by decide))) (FC.up fr12 (by decide) (by decide))) ((u13.1 0 314) + (1 : Int32)) (by decide)) (FC.up fr28 (by decide) (by decide))) ((u29.1 0 314) - (1 : Int32)) (by decide)) (FC.up fr31 (by decide) (by decide))), ⟨z304, z305, z306, z312, z321, z326, z373, z381, zd, zlb, (Or.inl ⟨z2, u4, ex3, ⟨fr3, i3813, pd3, rs3⟩, r9, ex7, u13, ex12, ⟨fr12, i38112, pd12, rs12⟩, (Or.inr (⟨u29, ex28, ⟨fr28, i30528, i30628, i32128, i32628, i38128, pd28, pt28, plb28, po28, rs28⟩, u32, ex31, ⟨fr31, i38131, pd31, rs31⟩, rfl, rfl⟩))⟩)⟩, (show 0 ≤ (u32.1 0 305).toInt ∧ (u32.1 0 305).toInt ≤ 1500 from (om_dcb76ccbff z326 z381 zd q10 q17 i30528 pt28 q34)), (show 0 ≤ (u32.1 0 306).toInt ∧ (u32.1 0 306).toInt ≤ 40 from (om_99e115f631 i30628 q35)), (show 0 ≤ (u32.1 0 321).toInt ∧ (u32.1 0 321).toInt ≤ 501 from (om_ff27494c0e i32128 q36)), (show 0 ≤ (u32.1 0 326).toInt ∧ (u32.1 0 326).toInt ≤ 420 from (om_8ed0dedb19 i32628 q37)), (show 0 ≤ (u32.1 0 381).toInt ∧ (u32.1 0 381).toInt ≤ 3008 from (om_12396814f2 i38128 i38131 pd31)), (show (u32.1 0 381).toInt + (u32.1 0 326).toInt - 2 * (u32.1 0 305).toInt + (-2) ≤ (v.1 0 381).toInt + (v.1 0 326).toInt - 2 * (v.1 0 305).toInt from (om_ea1ce59f8c pd3 q17 q23 pd12 pd28 q34 q37 pd31)), (show (v.1 0 305).toInt + 1 ≤ (u32.1 0 305).toInt from (om_1bbbe64f35 q10 q17 pt28 q34)), (show (v.1 0 317).toInt ≤ (u32.1 0 317).toInt ∧ (u32.1 0 317).toInt - 4 * (u32.1 0 305).toInt ≤ (v.1 0 317).toInt - 4 * (v.1 0 305).toInt + 0 from (om_44bdb4aeba q10 q26 q17 q27 plb28 q34 q38)), (show (u32.1 0 306).toInt = (v.1 0 306).toInt from (om_42b828193d q18 q19 po28 q35)), (RS.tr (RS.w0 (RS.tr (RS.w0 (RS.tr (RS.tr RS.rf rs3) rs12) (by decide)) rs28) (by decide)) rs31)⟩, ⟨by rw [ht9]; exact hP, hD⟩, by rw [ht9]; exact hz⟩, hS.F ht9⟩) hS.2.2 dX2_changeBy_88
  · have z39 : pd.toInt ≠ (0 : Int) := ne_z rfl (show (0 : Int32).toInt = (0 : Int) by decide) h1
    refine lv_aload_n hx hb dX2_changeBy_5 rfl (lv_at hl 0 rfl) ?_
    refine va_get (D := (dC, dI)) (ci := 6) (fs := oF_X2 ad pr v) (v := .ref (ad 901)) (C := RX2) (T := TX2) (N := 5) hx hb ht itX2 hown hK hP 2 rfl rfl 1 (by decide) (ht _ tw_498) (fun _ h9 => h9) rfl dX2_changeBy_6 ?_
    refine lv_bipush (v := 10) hx hb dX2_changeBy_9 (by decide) ?_
    refine lv_iconst (v := 0) hx hb dX2_changeBy_11 (by decide) ?_
    refine lv_iconst (v := 0) hx hb dX2_changeBy_12 (by decide) ?_
    refine cu_v (rn_Vk (n := 3) (As := [.int 10, .int 0, .int 0]) (rest := []) hx hb hml hown ht hKK hFx hP hD hS hA (c_x_X1_add l dC dI cI cB cZ cJ cR tb s.heap.size ad pr N L1 L2 v (10 : Int32) (0 : Int32) (0 : Int32) ps (show 0 ≤ (v.1 0 381).toInt ∧ (v.1 0 381).toInt ≤ 3008 from (om_c54267d4e2 z305 z326 z381 zd)) (show pr ps = ad 908 from hps) (show (v.1 0 310) = ps from es310) (show (v.1 0 381).toInt < 3008 from (om_5c50e82617 z305 z326 zd))) tw_499 tw_500 (by decide +kernel) rfl rfl ⟨show 0 + 1 ≤ 8 * n + 21 from om_a43f662a07, show 8 + (5 + 11) + 0 ≤ 28 * (8 * n + 21) from om_78af4e5b79⟩ (List.range (cW ad pr N cI cR L1 L2 v).length) (rg_map _) (nd_range _) 1 rfl rfl rfl rfl hl.1 rfl (Nat.le_of_ble_eq_true rfl) dX2_changeBy_13 ⟨Nat.le_of_ble_eq_true rfl, Nat.le_of_ble_eq_true rfl⟩) hP hD hS hA (fun u41 H locs hw40 hP hD hS => ?_)
    obtain ⟨fr40, ex40, i38140, pd40, rs40⟩ := hw40
    refine W.widen (k := 0) (n := 0) (Nat.le_refl _) (Nat.le_refl _) ?_
    refine lv_goto (tgt := 25) hx hb dX2_changeBy_16 (by decide) ?_
    refine lv_aload_n hx hb dX2_changeBy_25 rfl (lv_at hl 0 rfl) ?_
    refine va_get (D := (dC, dI)) (ci := 6) (fs := oF_X2 ad pr u41) (v := .ref (ad 901)) (C := RX2) (T := TX2) (N := 5) hx hb ht itX2 hown hK hP 2 rfl rfl 1 (by decide) (ht _ tw_498) (fun _ h9 => h9) rfl dX2_changeBy_26 ?_
    have q43 : (u41.1 0 312).toInt = (v.1 0 312).toInt := congrArg Int32.toInt ((fr40.2.1 312 (by decide)).trans (show v.1 0 312 = (v.1 0 312) by rfl))
    refine cu_i (rn_Vk (n := 0) (As := []) (rest := []) hx hb hml hown ht hKK hFx hP hD hS hA (c_x_X1_nextSlot l dC dI cI cB cZ cJ cR tb H.size ad pr N L1 L2 u41  (show 0 ≤ (u41.1 0 312).toInt ∧ (u41.1 0 312).toInt ≤ 500 from (om_f8376ff89c z312 q43))) tw_505 tw_506 (by decide +kernel) rfl rfl ⟨show 0 + 1 ≤ 8 * n + 21 from om_a43f662a07, show 8 + (1 + 11) + 0 ≤ 28 * (8 * n + 21) from om_9f2e4fbaf3⟩ (List.range (cW ad pr N cI cR L1 L2 u41).length) (rg_map _) (nd_range _) 1 rfl rfl rfl rfl hl.1 rfl (Nat.le_of_ble_eq_true rfl) dX2_changeBy_29 ⟨Nat.le_of_ble_eq_true rfl, Nat.le_of_ble_eq_true rfl⟩) hP hD hS hA (fun r46 u45 H locs hw44 hP hD hS => ?_)
    obtain ⟨rfl, ex44⟩ := hw44
    refine W.widen (k := 0) (n := 0) (Nat.le_refl _) (Nat.le_refl _) ?_
    refine lv_istore (lv' := [(5, .int r46), (0, .ref (ad 902)), (1, .int pa), (2, .int pb), (3, .int pc1), (4, .int pd)]) hx hb dX2_changeBy_32 hl (by decide) rfl (fun ls hl => ?_)
    refine lv_aload_n hx hb dX2_changeBy_34 rfl (lv_at hl 1 rfl) ?_
    refine va_get (D := (dC, dI)) (ci := 6) (fs := oF_X2 ad pr u41) (v := .ref (ad 901)) (C := RX2) (T := TX2) (N := 5) hx hb ht itX2 hown hK hP 2 rfl rfl 1 (by decide) (ht _ tw_498) (fun _ h9 => h9) rfl dX2_changeBy_35 ?_
    refine lv_iconst (v := 4) hx hb dX2_changeBy_38 (by decide) ?_
    refine lv_iload hx hb dX2_changeBy_39 (lv_at hl 0 rfl) ?_
    refine lv_iconst (v := 0) hx hb dX2_changeBy_41 (by decide) ?_
    refine cu_v (rn_Vk (n := 3) (As := [.int 4, .int r46, .int 0]) (rest := []) hx hb hml hown ht hKK hFx hP hD hS hA (c_x_X1_add l dC dI cI cB cZ cJ cR tb H.size ad pr N L1 L2 u41 (4 : Int32) r46 (0 : Int32) ps (show 0 ≤ (u41.1 0 381).toInt ∧ (u41.1 0 381).toInt ≤ 3008 from (om_7b41333319 z305 z326 z381 zd pd40)) (show pr ps = ad 908 from hps) (show (u41.1 0 310) = ps from (Eq.trans (fr40.2.1 310 (by decide)) es310)) (show (u41.1 0 381).toInt < 3008 from (om_bc5105acb9 z305 z326 zd pd40))) tw_499 tw_500 (by decide +kernel) rfl rfl ⟨show 0 + 1 ≤ 8 * n + 21 from om_a43f662a07, show 8 + (5 + 11) + 0 ≤ 28 * (8 * n + 21) from om_78af4e5b79⟩ (List.range (cW ad pr N cI cR L1 L2 u41).length) (rg_map _) (nd_range _) 1 rfl rfl rfl rfl hl.1 rfl (Nat.le_of_ble_eq_true rfl) dX2_changeBy_42 ⟨Nat.le_of_ble_eq_true rfl, Nat.le_of_ble_eq_true rfl⟩) hP hD hS hA (fun u48 H locs hw47 hP hD hS => ?_)
    obtain ⟨fr47, ex47, i38147, pd47, rs47⟩ := hw47
    have i38147 : 0 ≤ (u48.1 0 381).toInt ∧ (u48.1 0 381).toInt ≤ 3008 := i38147
    have pd47 : (u48.1 0 381).toInt = (u41.1 0 381).toInt + 1 := pd47
    have rs47 : RS u41 u48 := rs47
    refine W.widen (k := 0) (n := 0) (Nat.le_refl _) (Nat.le_refl _) ?_
    refine lv_aload_n hx hb dX2_changeBy_45 rfl (lv_at hl 1 rfl) ?_
    refine va_get (D := (dC, dI)) (ci := 6) (fs := oF_X2 ad pr u48) (v := .ref (ad 901)) (C := RX2) (T := TX2) (N := 5) hx hb ht itX2 hown hK hP 2 rfl rfl 1 (by decide) (ht _ tw_498) (fun _ h9 => h9) rfl dX2_changeBy_46 ?_
    refine lv_dup hx hb dX2_changeBy_49 rfl ?_
    refine va_getN (D := (dC, dI)) (ci := 5) (fs := oF_X1 ad pr u48) (v := .int (u48.1 0 314)) (C := RX1) (T := TX1) (N := 12) hx hb ht itX1 hown hK hP 1 rfl rfl 4 (by decide) (hKK.fl2 6 rfl) (fun _ h9 => h9) rfl dX2_changeBy_50 ?_
    refine lv_iconst (v := 1) hx hb dX2_changeBy_53 (by decide) ?_
    refine lv_iadd hx hb dX2_changeBy_54 ?_
    refine va_putN (D := (dC, dI)) (ci := 5) (fs := oF_X1 ad pr u48) (v := .int ((u48.1 0 314) + (1 : Int32))) (ty := .int) (C := RX1) (T := TX1) (N := 12) hx hb ht itX1 tyX1 tyX1_ok nmX1 hown hK hP hD hS 1 rfl rfl 4 (by decide) (hKK.fl2 6 rfl) (fun _ h9 => h9) rfl (by decide +kernel) rfl rfl (Nat.le_of_ble_eq_true rfl) dX2_changeBy_55 (fun H locs hP hD hS => ?_)
    have hP := cP_ (cw_314 ad pr N cI cR L1 L2 u48 ((u48.1 0 314) + (1 : Int32))) hP
    have hD := cD_ (cw_314 ad pr N cI cR L1 L2 u48 ((u48.1 0 314) + (1 : Int32))) hD
    refine lv_aload_n hx hb dX2_changeBy_58 rfl (lv_at hl 1 rfl) ?_
    refine lv_iconst (v := 1) hx hb dX2_changeBy_59 (by decide) ?_
    have q50 : (u41.1 0 304).toInt = (v.1 0 304).toInt := congrArg Int32.toInt ((fr40.2.1 304 (by decide)).trans (show v.1 0 304 = (v.1 0 304) by rfl))
    have q51 : (u48.1 0 304).toInt = (u41.1 0 304).toInt := congrArg Int32.toInt ((fr47.2.1 304 (by decide)).trans (show u41.1 0 304 = (u41.1 0 304) by rfl))
    have q52 : (u41.1 0 305).toInt = (v.1 0 305).toInt := congrArg Int32.toInt ((fr40.2.1 305 (by decide)).trans (show v.1 0 305 = (v.1 0 305) by rfl))
    have q53 : (u48.1 0 305).toInt = (u41.1 0 305).toInt := congrArg Int32.toInt ((fr47.2.1 305 (by decide)).trans (show u41.1 0 305 = (u41.1 0 305) by rfl))
    have q54 : (u41.1 0 306).toInt = (v.1 0 306).toInt := congrArg Int32.toInt ((fr40.2.1 306 (by decide)).trans (show v.1 0 306 = (v.1 0 306) by rfl))
    have q55 : (u48.1 0 306).toInt = (u41.1 0 306).toInt := congrArg Int32.toInt ((fr47.2.1 306 (by decide)).trans (show u41.1 0 306 = (u41.1 0 306) by rfl))
    have q56 : (u48.1 0 312).toInt = (u41.1 0 312).toInt := congrArg Int32.toInt ((fr47.2.1 312 (by decide)).trans (show u41.1 0 312 = (u41.1 0 312) by rfl))
    have q57 : (u41.1 0 321).toInt = (v.1 0 321).toInt := congrArg Int32.toInt ((fr40.2.1 321 (by decide)).trans (show v.1 0 321 = (v.1 0 321) by rfl))
    have q58 : (u48.1 0 321).toInt = (u41.1 0 321).toInt := congrArg Int32.toInt ((fr47.2.1 321 (by decide)).trans (show u41.1 0 321 = (u41.1 0 321) by rfl))
    have q59 : (u41.1 0 326).toInt = (v.1 0 326).toInt := congrArg Int32.toInt ((fr40.2.1 326 (by decide)).trans (show v.1 0 326 = (v.1 0 326) by rfl))
    have q60 : (u48.1 0 326).toInt = (u41.1 0 326).toInt := congrArg Int32.toInt ((fr47.2.1 326 (by decide)).trans (show u41.1 0 326 = (u41.1 0 326) by rfl))
    have q61 : (u41.1 0 373).toInt = (v.1 0 373).toInt := congrArg Int32.toInt ((fr40.2.1 373 (by decide)).trans (show v.1 0 373 = (v.1 0 373) by rfl))
    have q62 : (u48.1 0 373).toInt = (u41.1 0 373).toInt := congrArg Int32.toInt ((fr47.2.1 373 (by decide)).trans (show u41.1 0 373 = (u41.1 0 373) by rfl))
    have q63 : (u41.1 0 317).toInt = (v.1 0 317).toInt := congrArg Int32.toInt ((fr40.2.1 317 (by decide)).trans (show v.1 0 317 = (v.1 0 317) by rfl))
    have q64 : (u48.1 0 317).toInt = (u41.1 0 317).toInt := congrArg Int32.toInt ((fr47.2.1 317 (by decide)).trans (show u41.1 0 317 = (u41.1 0 317) by rfl))
    refine W.sz (fun hz9 => ?_)
    refine czx_v (rx_Vk (n := 1) (As := [.int 1]) (rest := []) hx hb hml hown ht hKK hFx hP hD hS hA (E dC dI cI cB cZ cJ cR tb H.size ad pr N L1 L2 (wA u48 0 314 ((u48.1 0 314) + (1 : Int32))) (1 : Int32) ps (show 0 ≤ (u48.1 0 304).toInt ∧ (u48.1 0 304).toInt ≤ 1503 from (om_dd87ee851a z304 q50 q51)) (show 0 ≤ (u48.1 0 305).toInt ∧ (u48.1 0 305).toInt ≤ 1500 from (om_63224301dd z305 z326 z381 zd q52 q53)) (show 0 ≤ (u48.1 0 306).toInt ∧ (u48.1 0 306).toInt ≤ 40 from (om_68f540929a z306 q54 q55)) (show 0 ≤ (u48.1 0 312).toInt ∧ (u48.1 0 312).toInt ≤ 500 from (om_8a5975ec21 z312 q43 q56)) (show 0 ≤ (u48.1 0 321).toInt ∧ (u48.1 0 321).toInt ≤ 501 from (om_4dfa815534 z321 q57 q58)) (show 0 ≤ (u48.1 0 326).toInt ∧ (u48.1 0 326).toInt ≤ 420 from (om_9591dea625 z326 q59 q60)) (show 0 ≤ (u48.1 0 373).toInt ∧ (u48.1 0 373).toInt ≤ 4000 from (om_03cd8767ac z373 q61 q62)) (show 0 ≤ (u48.1 0 381).toInt ∧ (u48.1 0 381).toInt ≤ 3008 from (om_3ae92c2de1 z305 z326 z381 zd pd40 pd47)) (show L1.length = 40 from hL1) (show L2.length = 60 from hL2) (show RP (wA u48 0 314 ((u48.1 0 314) + (1 : Int32))) from ((show FC [305, 306, 307, 314, 315, 317, 321, 326, 381] [0, 316, 318, 319, 320, 324, 325, 378, 379, 380] v (wA u48 0 314 ((u48.1 0 314) + (1 : Int32))) from (FC.f (FC.tr (FC.tr (FC.rf _) (FC.up fr40 (by decide) (by decide))) (FC.up fr47 (by decide) (by decide))) ((u48.1 0 314) + (1 : Int32)) (by decide))).1 rp)) (show pr ps = ad 908 from hps) (show (u48.1 0 300) = ps from (Eq.trans (fr47.2.1 300 (by decide)) (Eq.trans (fr40.2.1 300 (by decide)) es300))) (show (u48.1 0 310) = ps from (Eq.trans (fr47.2.1 310 (by decide)) (Eq.trans (fr40.2.1 310 (by decide)) es310))) (show l.stackTraces = false from hst) (show (u48.1 0 381).toInt + (u48.1 0 326).toInt - 2 * (u48.1 0 305).toInt ≤ 0 from (om_a6525b88b9 zd q52 q59 pd40 q53 q60 pd47)) (show 0 ≤ (u48.1 0 317).toInt ∧ (u48.1 0 317).toInt - 4 * (u48.1 0 305).toInt ≤ 8 from (om_afcbeb2a1d zlb q52 q63 q53 q64)) (show 40 ≤ (u48.1 0 306).toInt + (n : Int) from (om_ec198adb23 zn q54 q55))) tw_520 tw_521 (by decide +kernel) rfl rfl ⟨show (8 * n + 20) + 1 ≤ 8 * n + 21 from om_12a3a4432e, show 8 + (5 + 11) + 28 * (8 * n + 20) ≤ 28 * (8 * n + 21) from om_daa41a5b32⟩ (List.range (cW ad pr N cI cR L1 L2 (wA u48 0 314 ((u48.1 0 314) + (1 : Int32)))).length) (rg_map _) (nd_range _) 2 rfl rfl rfl rfl hl.1 rfl (Nat.le_of_ble_eq_true rfl) dX2_changeBy_60 ⟨Nat.le_of_ble_eq_true rfl, Nat.le_of_ble_eq_true rfl⟩) hP hD hS hA (fun u9 ce9 q9 H locs hx9 hP hD hS hc9 hv9 hf9 => ?_) (fun u66 H locs hw65 hP hD hS hz8 => ?_)
    · exact vx_out (fun x h9 => (hnt x h9).elim) hlocks hc9 hv9 hf9 (fun t9 ht9 hv8 => ⟨u9, ⟨FC.tr (FC.f (FC.tr (FC.tr (FC.rf _) (FC.up fr40 (by decide) (by decide))) (FC.up fr47 (by decide) (by decide))) ((u48.1 0 314) + (1 : Int32)) (by decide)) hx9.1, hx9.2.1, ⟨z304, z305, z306, z312, z321, z326, z373, z381, zd, zlb, (Or.inr (⟨z39, u41, ex40, ⟨fr40, i38140, pd40, rs40⟩, r46, ex44, u48, ex47, ⟨fr47, i38147, pd47, rs47⟩, (Or.inl ⟨u9, hx9.2.2, rfl, rfl⟩)⟩))⟩⟩, ⟨rfl, by rw [ht9]; exact hP, hD⟩, hS.F ht9⟩) hS.2.2 (Nat.le_refl _) (Nat.le_refl _)
    refine W.shrink (hz8.trans hz9) ?_
    obtain ⟨fr65, ex65, i30565, i30665, i32165, i32665, i38165, pd65, pt65, plb65, po65, rs65⟩ := hw65
    have i30565 : 0 ≤ (u66.1 0 305).toInt ∧ (u66.1 0 305).toInt ≤ 1500 := i30565
    have i30665 : 0 ≤ (u66.1 0 306).toInt ∧ (u66.1 0 306).toInt ≤ 40 := i30665
    have i32165 : 0 ≤ (u66.1 0 321).toInt ∧ (u66.1 0 321).toInt ≤ 501 := i32165
    have i32665 : 0 ≤ (u66.1 0 326).toInt ∧ (u66.1 0 326).toInt ≤ 420 := i32665
    have i38165 : 0 ≤ (u66.1 0 381).toInt ∧ (u66.1 0 381).toInt ≤ 3008 := i38165
    have pd65 : (u66.1 0 381).toInt + (u66.1 0 326).toInt - 2 * (u66.1 0 305).toInt + (1) ≤ (u48.1 0 381).toInt + (u48.1 0 326).toInt - 2 * (u48.1 0 305).toInt := pd65
    have pt65 : (u48.1 0 305).toInt + 1 ≤ (u66.1 0 305).toInt := pt65
    have plb65 : (u48.1 0 317).toInt ≤ (u66.1 0 317).toInt ∧ (u66.1 0 317).toInt - 4 * (u66.1 0 305).toInt ≤ (u48.1 0 317).toInt - 4 * (u48.1 0 305).toInt + 0 := plb65
    have po65 : (u66.1 0 306).toInt = (u48.1 0 306).toInt := po65
    have rs65 : RS (wA u48 0 314 ((u48.1 0 314) + (1 : Int32))) u66 := rs65
    refine lv_aload_n hx hb dX2_changeBy_63 rfl (lv_at hl 1 rfl) ?_
    refine va_get (D := (dC, dI)) (ci := 6) (fs := oF_X2 ad pr u66) (v := .ref (ad 901)) (C := RX2) (T := TX2) (N := 5) hx hb ht itX2 hown hK hP 2 rfl rfl 1 (by decide) (ht _ tw_498) (fun _ h9 => h9) rfl dX2_changeBy_64 ?_
    refine lv_dup hx hb dX2_changeBy_67 rfl ?_
    refine va_getN (D := (dC, dI)) (ci := 5) (fs := oF_X1 ad pr u66) (v := .int (u66.1 0 314)) (C := RX1) (T := TX1) (N := 12) hx hb ht itX1 hown hK hP 1 rfl rfl 4 (by decide) (hKK.fl2 6 rfl) (fun _ h9 => h9) rfl dX2_changeBy_68 ?_
    refine lv_iconst (v := 1) hx hb dX2_changeBy_71 (by decide) ?_
    refine lv_isub hx hb dX2_changeBy_72 ?_
    refine va_putN (D := (dC, dI)) (ci := 5) (fs := oF_X1 ad pr u66) (v := .int ((u66.1 0 314) - (1 : Int32))) (ty := .int) (C := RX1) (T := TX1) (N := 12) hx hb ht itX1 tyX1 tyX1_ok nmX1 hown hK hP hD hS 1 rfl rfl 4 (by decide) (hKK.fl2 6 rfl) (fun _ h9 => h9) rfl (by decide +kernel) rfl rfl (Nat.le_of_ble_eq_true rfl) dX2_changeBy_73 (fun H locs hP hD hS => ?_)
    have hP := cP_ (cw_314 ad pr N cI cR L1 L2 u66 ((u66.1 0 314) - (1 : Int32))) hP
    have hD := cD_ (cw_314 ad pr N cI cR L1 L2 u66 ((u66.1 0 314) - (1 : Int32))) hD
    refine lv_aload_n hx hb dX2_changeBy_76 rfl (lv_at hl 1 rfl) ?_
    refine va_get (D := (dC, dI)) (ci := 6) (fs := oF_X2 ad pr (wA u66 0 314 ((u66.1 0 314) - (1 : Int32)))) (v := .ref (ad 901)) (C := RX2) (T := TX2) (N := 5) hx hb ht itX2 hown hK hP 2 rfl rfl 1 (by decide) (ht _ tw_498) (fun _ h9 => h9) rfl dX2_changeBy_77 ?_
    refine lv_bipush (v := 20) hx hb dX2_changeBy_80 (by decide) ?_
    refine lv_iload_n hx hb dX2_changeBy_82 rfl (lv_at hl 2 rfl) ?_
    refine lv_iload hx hb dX2_changeBy_83 (lv_at hl 0 rfl) ?_
    refine cu_v (rn_Vk (n := 3) (As := [.int 20, .int pa, .int r46]) (rest := []) hx hb hml hown ht hKK hFx hP hD hS hA (c_x_X1_add l dC dI cI cB cZ cJ cR tb H.size ad pr N L1 L2 (wA u66 0 314 ((u66.1 0 314) - (1 : Int32))) (20 : Int32) pa r46 ps (show 0 ≤ (u66.1 0 381).toInt ∧ (u66.1 0 381).toInt ≤ 3008 from (om_e78eec72e1 i38165)) (show pr ps = ad 908 from hps) (show (u66.1 0 310) = ps from (Eq.trans (fr65.2.1 310 (by decide)) (Eq.trans (fr47.2.1 310 (by decide)) (Eq.trans (fr40.2.1 310 (by decide)) es310)))) (show (u66.1 0 381).toInt < 3008 from (om_05f509d900 zd q52 q59 pd40 q53 q60 pd47 i30565 i32665 pd65))) tw_499 tw_500 (by decide +kernel) rfl rfl ⟨show 0 + 1 ≤ 8 * n + 21 from om_a43f662a07, show 8 + (5 + 11) + 0 ≤ 28 * (8 * n + 21) from om_78af4e5b79⟩ (List.range (cW ad pr N cI cR L1 L2 (wA u66 0 314 ((u66.1 0 314) - (1 : Int32)))).length) (rg_map _) (nd_range _) 1 rfl rfl rfl rfl hl.1 rfl (Nat.le_of_ble_eq_true rfl) dX2_changeBy_85 ⟨Nat.le_of_ble_eq_true rfl, Nat.le_of_ble_eq_true rfl⟩) hP hD hS hA (fun u69 H locs hw68 hP hD hS => ?_)
    obtain ⟨fr68, ex68, i38168, pd68, rs68⟩ := hw68
    have i38168 : 0 ≤ (u69.1 0 381).toInt ∧ (u69.1 0 381).toInt ≤ 3008 := i38168
    have pd68 : (u69.1 0 381).toInt = (u66.1 0 381).toInt + 1 := pd68
    have rs68 : RS (wA u66 0 314 ((u66.1 0 314) - (1 : Int32))) u69 := rs68
    refine W.widen (k := 0) (n := 0) (Nat.le_refl _) (Nat.le_refl _) ?_
    have q71 : (u69.1 0 305).toInt = (u66.1 0 305).toInt := congrArg Int32.toInt ((fr68.2.1 305 (by decide)).trans (show (wA u66 0 314 ((u66.1 0 314) - (1 : Int32))).1 0 305 = (u66.1 0 305) by rfl))
    have q72 : (u69.1 0 306).toInt = (u66.1 0 306).toInt := congrArg Int32.toInt ((fr68.2.1 306 (by decide)).trans (show (wA u66 0 314 ((u66.1 0 314) - (1 : Int32))).1 0 306 = (u66.1 0 306) by rfl))
    have q73 : (u69.1 0 321).toInt = (u66.1 0 321).toInt := congrArg Int32.toInt ((fr68.2.1 321 (by decide)).trans (show (wA u66 0 314 ((u66.1 0 314) - (1 : Int32))).1 0 321 = (u66.1 0 321) by rfl))
    have q74 : (u69.1 0 326).toInt = (u66.1 0 326).toInt := congrArg Int32.toInt ((fr68.2.1 326 (by decide)).trans (show (wA u66 0 314 ((u66.1 0 314) - (1 : Int32))).1 0 326 = (u66.1 0 326) by rfl))
    have q75 : (u69.1 0 317).toInt = (u66.1 0 317).toInt := congrArg Int32.toInt ((fr68.2.1 317 (by decide)).trans (show (wA u66 0 314 ((u66.1 0 314) - (1 : Int32))).1 0 317 = (u66.1 0 317) by rfl))
    refine W.sz (fun hz => ?_)
    refine vx_ret ?_
    refine W.widen (k := 1) (n := 6) (Nat.le_of_ble_eq_true rfl) (Nat.le_of_ble_eq_true rfl) ?_
    exact W.vret hx hb hr (fun t ht9 hW => ⟨⟨u69, rfl, ⟨(FC.tr (FC.f (FC.tr (FC.f (FC.tr (FC.tr (FC.rf _) (FC.up fr40 (by decide) (by decide))) (FC.up fr47 (by decide) (by decide))) ((u48.1 0 314) + (1 : Int32)) (by decide)) (FC.up fr65 (by decide) (by decide))) ((u66.1 0 314) - (1 : Int32)) (by decide)) (FC.up fr68 (by decide) (by decide))), ⟨z304, z305, z306, z312, z321, z326, z373, z381, zd, zlb, (Or.inr (⟨z39, u41, ex40, ⟨fr40, i38140, pd40, rs40⟩, r46, ex44, u48, ex47, ⟨fr47, i38147, pd47, rs47⟩, (Or.inr (⟨u66, ex65, ⟨fr65, i30565, i30665, i32165, i32665, i38165, pd65, pt65, plb65, po65, rs65⟩, u69, ex68, ⟨fr68, i38168, pd68, rs68⟩, rfl, rfl⟩))⟩))⟩, (show 0 ≤ (u69.1 0 305).toInt ∧ (u69.1 0 305).toInt ≤ 1500 from (om_dcb76ccbff z326 z381 zd q52 q53 i30565 pt65 q71)), (show 0 ≤ (u69.1 0 306).toInt ∧ (u69.1 0 306).toInt ≤ 40 from (om_99e115f631 i30665 q72)), (show 0 ≤ (u69.1 0 321).toInt ∧ (u69.1 0 321).toInt ≤ 501 from (om_ff27494c0e i32165 q73)), (show 0 ≤ (u69.1 0 326).toInt ∧ (u69.1 0 326).toInt ≤ 420 from (om_8ed0dedb19 i32665 q74)), (show 0 ≤ (u69.1 0 381).toInt ∧ (u69.1 0 381).toInt ≤ 3008 from (om_12396814f2 i38165 i38168 pd68)), (show (u69.1 0 381).toInt + (u69.1 0 326).toInt - 2 * (u69.1 0 305).toInt + (-2) ≤ (v.1 0 381).toInt + (v.1 0 326).toInt - 2 * (v.1 0 305).toInt from (om_5183cd35aa q52 q59 pd40 q53 q60 pd47 pd65 q71 q74 pd68)), (show (v.1 0 305).toInt + 1 ≤ (u69.1 0 305).toInt from (om_1bbbe64f35 q52 q53 pt65 q71)), (show (v.1 0 317).toInt ≤ (u69.1 0 317).toInt ∧ (u69.1 0 317).toInt - 4 * (u69.1 0 305).toInt ≤ (v.1 0 317).toInt - 4 * (v.1 0 305).toInt + 0 from (om_44bdb4aeba q52 q63 q53 q64 plb65 q71 q75)), (show (u69.1 0 306).toInt = (v.1 0 306).toInt from (om_42b828193d q54 q55 po65 q72)), (RS.tr (RS.w0 (RS.tr (RS.w0 (RS.tr (RS.tr RS.rf rs40) rs47) (by decide)) rs65) (by decide)) rs68)⟩, ⟨by rw [ht9]; exact hP, hD⟩, by rw [ht9]; exact hz⟩, hS.F ht9⟩) hS.2.2 dX2_changeBy_88
theorem om_85a0e570e6 {x0 x1 : Int} (h0 : 0 ≤ x0 ∧ x0 - 4 * x1 ≤ 8) : 0 ≤ x0 ∧ x0 - 4 * x1 ≤ 16 := by omega
theorem om_2d92e09058 {n0 : Nat} : 0 + 1 ≤ 8 * n0 + 14 := by omega
theorem om_289622e6d2 {n0 : Nat} : 8 + (1 + 11) + 0 ≤ 28 * (8 * n0 + 14) := by omega
theorem om_2b3fc04500 {x0 x1 x2 x3 : Int} (h0 : 0 ≤ x0 ∧ x0 - 4 * x1 ≤ 8) (h1 : x0 ≤ x2 ∧ x2 - 4 * x3 ≤ x0 - 4 * x1 + 1) : 0 ≤ x2 ∧ x2 - 4 * x3 ≤ 16 := by omega
theorem om_46126d3ba0 {n0 : Nat} : 7 + 1 ≤ 8 * n0 + 14 := by omega
theorem om_6017b980b8 {n0 : Nat} : 8 + (1 + 11) + 104 ≤ 28 * (8 * n0 + 14) := by omega
theorem om_9115d0bf9b {x0 x1 x2 x3 x4 x5 : Int} (h0 : 0 ≤ x0 ∧ x0 ≤ 1500) (h1 : 0 ≤ x1 ∧ x1 ≤ 420) (h2 : 0 ≤ x2 ∧ x2 ≤ 3008) (h3 : x2 + x1 - 2 * x0 ≤ 1) (h4 : x3 = x2) (h5 : x4 = x3) (h6 : x5 = x4) : 0 ≤ x5 ∧ x5 ≤ 3008 := by omega
theorem om_53130810e3 {x0 x1 x2 x3 x4 x5 : Int} (h0 : 0 ≤ x0 ∧ x0 ≤ 1500) (h1 : 0 ≤ x1 ∧ x1 ≤ 420) (h2 : x2 + x1 - 2 * x0 ≤ 1) (h3 : x3 = x2) (h4 : x4 = x3) (h5 : x5 = x4) : x5 < 3008 := by omega
theorem om_f68798533e {n0 : Nat} : 8 + (5 + 11) + 0 ≤ 28 * (8 * n0 + 14) := by omega
theorem om_73f0efed2d {x0 x2 x3 x4 : Int} {n1 : Nat} (h0 : 40 ≤ x0 + (n1 : Int)) (h1 : x2 = x0) (h2 : x3 = x2) (h3 : 0 ≤ x4 ∧ x4 ≤ 40) (h4 : x4 = x3 + 1) : 1 ≤ (n1 : Int) := by omega
theorem om_8044691ca6 {x0 x1 x2 x3 x4 : Int} (h0 : 0 ≤ x0 ∧ x0 ≤ 1503) (h1 : x1 = x0) (h2 : x2 = x1) (h3 : x3 = x2) (h4 : x4 = x3) : 0 ≤ x4 ∧ x4 ≤ 1503 := by omega
theorem om_404ac90bf6 {x0 x1 x2 x3 x4 : Int} (h0 : 0 ≤ x0 ∧ x0 ≤ 501) (h1 : x1 = x0) (h2 : x2 = x1) (h3 : x3 = x2) (h4 : x4 = x3) : 0 ≤ x4 ∧ x4 ≤ 501 := by omega
theorem om_73f5be2f84 {x0 x1 x2 x3 x4 : Int} (h0 : 0 ≤ x0 ∧ x0 ≤ 420) (h1 : x1 = x0) (h2 : x2 = x1) (h3 : x3 = x2) (h4 : x4 = x3) : 0 ≤ x4 ∧ x4 ≤ 420 := by omega
theorem om_fdcbb58227 {x0 x1 x2 x3 x4 : Int} (h0 : 0 ≤ x0 ∧ x0 ≤ 4000) (h1 : x1 = x0) (h2 : x2 = x1) (h3 : x3 = x2) (h4 : x4 = x3) : 0 ≤ x4 ∧ x4 ≤ 4000 := by omega
theorem om_49b666da6a {x0 x1 x2 x3 x4 x5 x6 x7 x8 x9 x10 x11 x12 x13 x14 : Int} (h0 : x0 + x1 - 2 * x2 ≤ 1) (h1 : x3 = x2) (h2 : x4 = x1) (h3 : x5 = x0) (h4 : x6 = x3) (h5 : x7 = x4) (h6 : x8 = x5) (h7 : x9 = x7) (h8 : x10 = x8) (h9 : x11 = x6 + 1) (h10 : x12 = x11) (h11 : x13 = x9) (h12 : x14 = x10 + 1) : x14 + x13 - 2 * x12 ≤ 0 := by omega
theorem om_3cc666395b {x0 x1 x2 x3 x4 x5 x6 x7 x8 x9 : Int} (h0 : 0 ≤ x0 ∧ x0 - 4 * x1 ≤ 8) (h1 : x0 ≤ x2 ∧ x2 - 4 * x3 ≤ x0 - 4 * x1 + 1) (h2 : x2 ≤ x4 ∧ x4 - 4 * x5 ≤ x2 - 4 * x3 + 1) (h3 : x6 = x4) (h4 : x7 = x5 + 1) (h5 : x8 = x7) (h6 : x9 = x6) : 0 ≤ x9 ∧ x9 - 4 * x8 ≤ 8 := by omega
theorem om_99b762d8f4 {x0 x2 x3 x4 x5 : Int} {n1 n6 : Nat} (h0 : 40 ≤ x0 + (n1 : Int)) (h1 : x2 = x0) (h2 : x3 = x2) (h3 : x4 = x3 + 1) (h4 : x5 = x4) (h5 : n1 = n6 + 1) : 40 ≤ x5 + (n6 : Int) := by omega
theorem om_74f46d92b7 {n0 n1 : Nat} (h0 : n0 = n1 + 1) : (8 * n1 + 20) + 1 ≤ 8 * n0 + 14 := by omega
theorem om_a843c7c5cc {n0 n1 : Nat} (h0 : n0 = n1 + 1) : 8 + (5 + 11) + 28 * (8 * n1 + 20) ≤ 28 * (8 * n0 + 14) := by omega
theorem om_303b0e9f26 {x0 x1 x2 x3 x4 x5 : Int} (h0 : 0 ≤ x0 ∧ x0 ≤ 1503) (h1 : x1 = x0) (h2 : x2 = x1) (h3 : x3 = x2) (h4 : x4 = x3) (h5 : x5 = x4) : 0 ≤ x5 ∧ x5 ≤ 1503 := by omega
theorem om_d59e6e0f1e {x0 x1 x2 x3 x4 x5 : Int} (h0 : 0 ≤ x0 ∧ x0 ≤ 4000) (h1 : x1 = x0) (h2 : x2 = x1) (h3 : x3 = x2) (h4 : x4 = x3) (h5 : x5 = x4) : 0 ≤ x5 ∧ x5 ≤ 4000 := by omega
theorem om_2d7c913608 {n0 : Nat} : 8 + (2 + 11) + 104 ≤ 28 * (8 * n0 + 14) := by omega
theorem om_b5309c0358 {x0 x1 x2 x3 x4 x5 x6 x7 x8 x9 x10 x11 x12 x13 x14 x15 x16 x17 x18 x19 : Int} (h0 : x0 + x1 - 2 * x2 ≤ 1) (h1 : x3 = x2) (h2 : x4 = x1) (h3 : x5 = x0) (h4 : x6 = x3) (h5 : x7 = x4) (h6 : x8 = x5) (h7 : x9 = x7) (h8 : x10 = x8) (h9 : x11 = x6 + 1) (h10 : x12 = x11) (h11 : x13 = x9) (h12 : x14 = x10 + 1) (h13 : 0 ≤ x15 ∧ x15 ≤ 420) (h14 : 0 ≤ x16 ∧ x16 ≤ 3008) (h15 : x16 + x15 - 2 * x17 + (1) ≤ x14 + x13 - 2 * x12) (h16 : x18 = x16) (h17 : 0 ≤ x19 ∧ x19 ≤ 1500) (h18 : x19 = x17 + 1) : 0 ≤ x18 ∧ x18 ≤ 3008 := by omega
theorem om_b43ca7a9b0 {x0 x1 x2 x3 x4 x5 x6 x7 x8 x9 x10 x11 x12 x13 x14 x15 x16 x17 x18 x19 : Int} (h0 : x0 + x1 - 2 * x2 ≤ 1) (h1 : x3 = x2) (h2 : x4 = x1) (h3 : x5 = x0) (h4 : x6 = x3) (h5 : x7 = x4) (h6 : x8 = x5) (h7 : x9 = x7) (h8 : x10 = x8) (h9 : x11 = x6 + 1) (h10 : x12 = x11) (h11 : x13 = x9) (h12 : x14 = x10 + 1) (h13 : 0 ≤ x15 ∧ x15 ≤ 420) (h14 : x16 + x15 - 2 * x17 + (1) ≤ x14 + x13 - 2 * x12) (h15 : x18 = x16) (h16 : 0 ≤ x19 ∧ x19 ≤ 1500) (h17 : x19 = x17 + 1) : x18 < 3008 := by omega
theorem om_e2ebc40cf4 {n0 : Nat} : 8 + (2 + 11) + 0 ≤ 28 * (8 * n0 + 14) := by omega
theorem om_003b4c170d {x0 x1 x2 x3 x4 x5 x6 x7 x8 : Int} (h0 : 0 ≤ x0 ∧ x0 ≤ 1503) (h1 : x1 = x0) (h2 : x2 = x1) (h3 : x3 = x2) (h4 : x4 = x3) (h5 : x5 = x4) (h6 : x6 = x5) (h7 : x7 = x6) (h8 : x8 = x7) : 0 ≤ x8 ∧ x8 ≤ 1503 := by omega
theorem om_569a1bd309 {x0 x1 x2 x3 x4 x5 : Int} (h0 : 0 ≤ x0 ∧ x0 ≤ 1500) (h1 : x1 = x0) (h2 : x1 + 1 ≤ x2) (h3 : 0 ≤ x3 ∧ x3 ≤ 1500) (h4 : x3 = x2 + 1) (h5 : x4 = x3) (h6 : x5 = x4) : 0 ≤ x5 ∧ x5 ≤ 1500 := by omega
theorem om_d466fad2f2 {x0 x1 x2 x3 x4 x5 x6 x7 x8 : Int} (h0 : 0 ≤ x0 ∧ x0 ≤ 500) (h1 : x1 = x0) (h2 : x2 = x1) (h3 : x3 = x2) (h4 : x4 = x3) (h5 : x5 = x4) (h6 : x6 = x5) (h7 : x7 = x6) (h8 : x8 = x7) : 0 ≤ x8 ∧ x8 ≤ 500 := by omega
theorem om_40c7802ef9 {x0 x1 x2 x3 x4 x5 x6 x7 x8 : Int} (h0 : 0 ≤ x0 ∧ x0 ≤ 4000) (h1 : x1 = x0) (h2 : x2 = x1) (h3 : x3 = x2) (h4 : x4 = x3) (h5 : x5 = x4) (h6 : x6 = x5) (h7 : x7 = x6) (h8 : x8 = x7) : 0 ≤ x8 ∧ x8 ≤ 4000 := by omega
theorem om_3ab0c90be7 {x0 x1 x2 x3 : Int} (h0 : 0 ≤ x0 ∧ x0 ≤ 3008) (h1 : x1 = x0) (h2 : 0 ≤ x2 ∧ x2 ≤ 3008) (h3 : x2 = x1 + 1) (h4 : x3 = x2) : 0 ≤ x3 ∧ x3 ≤ 3008 := by omega
theorem om_3bbeab2bab {x0 x1 x2 x3 x4 x5 x6 x7 x8 x9 x10 x11 x12 x13 x14 x15 x16 x17 x18 x19 x20 x21 x22 x23 x24 x25 x26 : Int} (h0 : x0 + x1 - 2 * x2 ≤ 1) (h1 : x3 = x2) (h2 : x4 = x1) (h3 : x5 = x0) (h4 : x6 = x3) (h5 : x7 = x4) (h6 : x8 = x5) (h7 : x9 = x7) (h8 : x10 = x8) (h9 : x11 = x6 + 1) (h10 : x12 = x11) (h11 : x13 = x9) (h12 : x14 = x10 + 1) (h13 : x15 + x16 - 2 * x17 + (1) ≤ x14 + x13 - 2 * x12) (h14 : x18 = x16) (h15 : x19 = x15) (h16 : x20 = x17 + 1) (h17 : x21 = x20) (h18 : x22 = x18) (h19 : x23 = x19 + 1) (h20 : x24 = x21) (h21 : x25 = x22) (h22 : x26 = x23) : x26 + x25 - 2 * x24 ≤ 0 := by omega
theorem om_d396c192b7 {x0 x1 x2 x3 x4 x5 x6 x7 x8 x9 x10 x11 x12 x13 x14 x15 x16 x17 : Int} (h0 : 0 ≤ x0 ∧ x0 - 4 * x1 ≤ 8) (h1 : x0 ≤ x2 ∧ x2 - 4 * x3 ≤ x0 - 4 * x1 + 1) (h2 : x2 ≤ x4 ∧ x4 - 4 * x5 ≤ x2 - 4 * x3 + 1) (h3 : x6 = x4) (h4 : x7 = x5 + 1) (h5 : x8 = x7) (h6 : x9 = x6) (h7 : x9 ≤ x10 ∧ x10 - 4 * x11 ≤ x9 - 4 * x8 + 0) (h8 : x12 = x10) (h9 : x13 = x11 + 1) (h10 : x14 = x13) (h11 : x15 = x12) (h12 : x16 = x14) (h13 : x17 = x15) : 0 ≤ x17 ∧ x17 - 4 * x16 ≤ 8 := by omega
theorem om_939fe17646 {x0 x2 x3 x4 x5 x6 x7 x8 x9 : Int} {n1 n10 : Nat} (h0 : 40 ≤ x0 + (n1 : Int)) (h1 : x2 = x0) (h2 : x3 = x2) (h3 : x4 = x3 + 1) (h4 : x5 = x4) (h5 : x6 = x5) (h6 : x7 = x6) (h7 : x8 = x7) (h8 : x9 = x8) (h9 : n1 = n10 + 1) : 40 ≤ x9 + (n10 : Int) := by omega
theorem om_5eb67ef455 {x0 x1 x2 x3 x4 x5 x6 x7 x8 x9 x10 : Int} (h0 : 0 ≤ x0 ∧ x0 ≤ 40) (h1 : x1 = x0) (h2 : x2 = x1) (h3 : x3 = x2 + 1) (h4 : x4 = x3) (h5 : x5 = x4) (h6 : x6 = x5) (h7 : x7 = x6) (h8 : x8 = x7) (h9 : x9 = x8) (h10 : x10 = x9) : 1 ≤ x10 := by omega
theorem om_e5abdba0e1 {x0 x1 x2 x3 x4 x5 x6 x7 x8 : Int} (h0 : 0 ≤ x0 ∧ x0 ≤ 1500) (h1 : x1 = x0) (h2 : x1 + 1 ≤ x2) (h3 : x3 = x2 + 1) (h4 : x4 = x3) (h5 : x5 = x4) (h6 : 0 ≤ x6 ∧ x6 ≤ 1500) (h7 : x5 + 1 ≤ x6) (h8 : x7 = x6) (h9 : x8 = x7) : 0 ≤ x8 ∧ x8 ≤ 1500 := by omega
theorem om_0b0726617c {x0 x1 x2 x3 x4 x5 x6 x7 x8 x9 x10 x11 x12 x13 x14 x15 x16 x17 x18 x19 x20 x21 x22 x23 x24 x25 x26 x27 x28 x29 x30 x31 : Int} (h0 : x0 + x1 - 2 * x2 ≤ 1) (h1 : x3 = x2) (h2 : x4 = x1) (h3 : x5 = x0) (h4 : x6 = x3) (h5 : x7 = x4) (h6 : x8 = x5) (h7 : x9 = x7) (h8 : x10 = x8) (h9 : x11 = x6 + 1) (h10 : x12 = x11) (h11 : x13 = x9) (h12 : x14 = x10 + 1) (h13 : x15 + x16 - 2 * x17 + (1) ≤ x14 + x13 - 2 * x12) (h14 : x18 = x16) (h15 : x19 = x15) (h16 : x20 = x17 + 1) (h17 : x21 = x20) (h18 : x22 = x18) (h19 : x23 = x19 + 1) (h20 : x24 = x21) (h21 : x25 = x22) (h22 : x26 = x23) (h23 : 0 ≤ x27 ∧ x27 ≤ 1500) (h24 : 0 ≤ x28 ∧ x28 ≤ 420) (h25 : 0 ≤ x29 ∧ x29 ≤ 3008) (h26 : x29 + x28 - 2 * x27 + (1) ≤ x26 + x25 - 2 * x24) (h27 : x30 = x29) (h28 : x31 = x30) : 0 ≤ x31 ∧ x31 ≤ 3008 := by omega
theorem om_468aede317 {x0 x1 x2 x3 x4 x5 x6 x7 x8 x9 x10 x11 x12 x13 x14 x15 x16 x17 x18 x19 x20 x21 x22 x23 x24 x25 x26 x27 x28 x29 x30 x31 x32 x33 x34 x35 : Int} (h0 : x0 = x1) (h1 : x2 = x3) (h2 : x4 = x5) (h3 : x6 = x0) (h4 : x7 = x2) (h5 : x8 = x4) (h6 : x9 = x7) (h7 : x10 = x8) (h8 : x11 = x6 + 1) (h9 : x12 = x11) (h10 : x13 = x9) (h11 : x14 = x10 + 1) (h12 : x15 + x16 - 2 * x17 + (1) ≤ x14 + x13 - 2 * x12) (h13 : x18 = x16) (h14 : x19 = x15) (h15 : x20 = x17 + 1) (h16 : x21 = x20) (h17 : x22 = x18) (h18 : x23 = x19 + 1) (h19 : x24 = x21) (h20 : x25 = x22) (h21 : x26 = x23) (h22 : x27 + x28 - 2 * x29 + (1) ≤ x26 + x25 - 2 * x24) (h23 : x30 = x29) (h24 : x31 = x28) (h25 : x32 = x27) (h26 : x33 = x30) (h27 : x34 = x31) (h28 : x35 = x32) : x35 + x34 - 2 * x33 + (4) ≤ x5 + x3 - 2 * x1 := by omega
theorem om_5c09bbc391 {x0 x1 x2 x3 x4 x5 x6 x7 x8 x9 x10 x11 : Int} (h0 : x0 = x1) (h1 : x2 = x0) (h2 : x3 = x2 + 1) (h3 : x4 = x3) (h4 : x4 + 1 ≤ x5) (h5 : x6 = x5 + 1) (h6 : x7 = x6) (h7 : x8 = x7) (h8 : x8 + 1 ≤ x9) (h9 : x10 = x9) (h10 : x11 = x10) : x1 + 4 ≤ x11 := by omega
theorem om_189560213e {x0 x1 x2 x3 x4 x5 x6 x7 x8 x9 x10 x11 x12 x13 x14 x15 x16 x17 x18 x19 x20 x21 x22 x23 : Int} (h0 : x0 ≤ x1 ∧ x1 - 4 * x2 ≤ x0 - 4 * x3 + 1) (h1 : x1 ≤ x4 ∧ x4 - 4 * x5 ≤ x1 - 4 * x2 + 1) (h2 : x6 = x4) (h3 : x7 = x5 + 1) (h4 : x8 = x7) (h5 : x9 = x6) (h6 : x9 ≤ x10 ∧ x10 - 4 * x11 ≤ x9 - 4 * x8 + 0) (h7 : x12 = x10) (h8 : x13 = x11 + 1) (h9 : x14 = x13) (h10 : x15 = x12) (h11 : x16 = x14) (h12 : x17 = x15) (h13 : x17 ≤ x18 ∧ x18 - 4 * x19 ≤ x17 - 4 * x16 + 0) (h14 : x20 = x19) (h15 : x21 = x18) (h16 : x22 = x20) (h17 : x23 = x21) : x0 ≤ x23 ∧ x23 - 4 * x22 ≤ x0 - 4 * x3 + 0 := by omega
theorem om_33d142c5bd {x0 x1 x2 x3 x4 x5 x6 x7 x8 x9 x10 x11 : Int} (h0 : x0 = x1) (h1 : x2 = x0) (h2 : x3 = x2 + 1) (h3 : x4 = x3) (h4 : x5 = x4) (h5 : x6 = x5) (h6 : x7 = x6) (h7 : x8 = x7) (h8 : x9 = x8) (h9 : x10 = x9) (h10 : x11 = x10 - 1) : x11 = x1 := by omega
set_option maxHeartbeats 16000000 in
set_option maxRecDepth 100000 in
theorem c_x_X2_choice (l : Launch) (n : Nat) (ihE : ∀ m, n = m + 1 → Cq_expression l m) (dC : Nat → ClassId) (dI : Nat → Nat → Nat) (cI cB cZ cJ cR : ClassId) (tb : Nat → Nat) (sz : Nat) (ad : Nat → Nat) (pr : Int32 → Nat) (N : Nat) (L1 L2 : List Nat) (v : MS) (ps : Int32) (z304 : 0 ≤ (v.1 0 304).toInt ∧ (v.1 0 304).toInt ≤ 1503) (z305 : 0 ≤ (v.1 0 305).toInt ∧ (v.1 0 305).toInt ≤ 1500) (z306 : 0 ≤ (v.1 0 306).toInt ∧ (v.1 0 306).toInt ≤ 40) (z312 : 0 ≤ (v.1 0 312).toInt ∧ (v.1 0 312).toInt ≤ 500) (z321 : 0 ≤ (v.1 0 321).toInt ∧ (v.1 0 321).toInt ≤ 501) (z326 : 0 ≤ (v.1 0 326).toInt ∧ (v.1 0 326).toInt ≤ 420) (z373 : 0 ≤ (v.1 0 373).toInt ∧ (v.1 0 373).toInt ≤ 4000) (z381 : 0 ≤ (v.1 0 381).toInt ∧ (v.1 0 381).toInt ≤ 3008) (hL1 : L1.length = 40) (hL2 : L2.length = 60) (rp : RP v) (hps : pr ps = ad 908) (es300 : (v.1 0 300) = ps) (es310 : (v.1 0 310) = ps) (hst : l.stackTraces = false) (zd : (v.1 0 381).toInt + (v.1 0 326).toInt - 2 * (v.1 0 305).toInt ≤ 1) (zlb : 0 ≤ (v.1 0 317).toInt ∧ (v.1 0 317).toInt - 4 * (v.1 0 305).toInt ≤ 8) (zn : 40 ≤ (v.1 0 306).toInt + (n : Int)) : vx_Met l yX2_choice (Cond.code yX2_choice cX2_choice 3 none :: tw_W) ({ frames := 8 * n + 14, cells := 1, slots := 6, locals := 28 * (8 * n + 14) }) (pc_ (dC, dI) (tyS cI cB cZ cJ cR) tb (cW ad pr N cI cR L1 L2 v) sz [.ref (ad 902)]) (qvz_ (dC, dI) (cW ad pr N cI cR L1 L2 v) sz (fun (u : MS) => FC [305, 306, 307, 314, 315, 317, 321, 326, 381] [0, 316, 318, 319, 320, 324, 325, 378, 379, 380] v u ∧ (Q_x_X2_choice L1 L2 (pE L1 L2 n) v false u) ∧ (0 ≤ (u.1 0 305).toInt ∧ (u.1 0 305).toInt ≤ 1500) ∧ (0 ≤ (u.1 0 306).toInt ∧ (u.1 0 306).toInt ≤ 40) ∧ (0 ≤ (u.1 0 321).toInt ∧ (u.1 0 321).toInt ≤ 501) ∧ (0 ≤ (u.1 0 326).toInt ∧ (u.1 0 326).toInt ≤ 420) ∧ (0 ≤ (u.1 0 381).toInt ∧ (u.1 0 381).toInt ≤ 3008) ∧ ((u.1 0 381).toInt + (u.1 0 326).toInt - 2 * (u.1 0 305).toInt + (4) ≤ (v.1 0 381).toInt + (v.1 0 326).toInt - 2 * (v.1 0 305).toInt) ∧ ((v.1 0 305).toInt + 4 ≤ (u.1 0 305).toInt) ∧ ((v.1 0 317).toInt ≤ (u.1 0 317).toInt ∧ (u.1 0 317).toInt - 4 * (u.1 0 305).toInt ≤ (v.1 0 317).toInt - 4 * (v.1 0 305).toInt + 0) ∧ ((u.1 0 306).toInt = (v.1 0 306).toInt) ∧ (RS v u)) (fun (u : MS) => (cW ad pr N cI cR L1 L2 u))) (qxc (dC, dI) (cW ad pr N cI cR L1 L2 v) sz (fun (u : MS) => (cW ad pr N cI cR L1 L2 u)) (fun (u : MS) => FC xfl xal v u ∧ (u.1 0 308).toInt ≠ 0 ∧ (Q_x_X2_choice L1 L2 (pE L1 L2 n) v true u))) 1 6 (va_A (cW ad pr N cI cR L1 L2 v) sz) := by
  refine vx_ofW (cc := cX2_choice) (maxL := 3) (ret := none) (by decide) rfl ?_
  intro p e s m args below meth c s₁ B hml hnt hv
  obtain ⟨rfl, hsz, hP, hKK, hD0, hFx⟩ := hv
  have hK := hKK.1
  have hx := B.exec
  have hb := B.bytes
  have hr := B.returns
  have ht : ∀ w ∈ tw_W, w.before _ s = true := fun w h => atoms_spec (ws := Cond.code yX2_choice cX2_choice 3 none :: tw_W) B.pre w (List.mem_cons_of_mem _ h)
  have hown : s.vm.findClass RX2 = some m.cls := findClass_of_methodNamed B.named
  have hlocks := B.notSynchronized
  subst hsz
  unfold qvz_ qxc
  have hD := hD0.self (sz := s.heap.size)
  generalize hAe : va_A (cW ad pr N cI cR L1 L2 v) s.heap.size = A at hD hFx ⊢
  have hA : ∀ q : Nat, s.heap.size ≤ q → A q := fun q h => by rw [← hAe]; exact Or.inr h
  have hS : va_S A s.heap s.heap [] := va_S.rf
  have hl := lv_entry ([.ref (ad 902)]) (n := 3) (Nat.le_of_ble_eq_true rfl)
  rw [lg_entry_eq]
  generalize (lg_sl ([.ref (ad 902)]) ++ List.replicate (3 - (lg_sl ([.ref (ad 902)])).length) Slot.unset).toArray = ls at hl ⊢
  have hl : lv_has ls 3 [(0, .ref (ad 902))] := hl
  refine lv_aload_n hx hb dX2_choice_0 rfl (lv_at hl 0 rfl) ?_
  refine va_get (D := (dC, dI)) (ci := 6) (fs := oF_X2 ad pr v) (v := .ref (ad 901)) (C := RX2) (T := TX2) (N := 5) hx hb ht itX2 hown hK hP 2 rfl rfl 1 (by decide) (ht _ tw_498) (fun _ h9 => h9) rfl dX2_choice_1 ?_
  refine cu_i (rn_Vk (n := 0) (As := []) (rest := []) hx hb hml hown ht hKK hFx hP hD hS hA (c_x_X1_newLabel l dC dI cI cB cZ cJ cR tb s.heap.size ad pr N L1 L2 v  (show 0 ≤ (v.1 0 305).toInt ∧ (v.1 0 305).toInt ≤ 1500 from (om_7897b4ccef z305)) (show 0 ≤ (v.1 0 317).toInt ∧ (v.1 0 317).toInt - 4 * (v.1 0 305).toInt ≤ 16 from (om_85a0e570e6 zlb))) tw_501 tw_502 (by decide +kernel) rfl rfl ⟨show 0 + 1 ≤ 8 * n + 14 from om_2d92e09058, show 8 + (1 + 11) + 0 ≤ 28 * (8 * n + 14) from om_289622e6d2⟩ (List.range (cW ad pr N cI cR L1 L2 v).length) (rg_map _) (nd_range _) 1 rfl rfl rfl rfl hl.1 rfl (Nat.le_of_ble_eq_true rfl) dX2_choice_4 ⟨Nat.le_of_ble_eq_true rfl, Nat.le_of_ble_eq_true rfl⟩) hP hD hS hA (fun r3 u2 H locs hw1 hP hD hS => ?_)
  obtain ⟨fr1, ex1, plb1, rs1⟩ := hw1
  refine W.widen (k := 0) (n := 0) (Nat.le_refl _) (Nat.le_refl _) ?_
  refine lv_istore_n (lv' := [(1, .int r3), (0, .ref (ad 902))]) hx hb dX2_choice_7 rfl hl (by decide) rfl (fun ls hl => ?_)
  refine lv_aload_n hx hb dX2_choice_8 rfl (lv_at hl 1 rfl) ?_
  refine va_get (D := (dC, dI)) (ci := 6) (fs := oF_X2 ad pr u2) (v := .ref (ad 901)) (C := RX2) (T := TX2) (N := 5) hx hb ht itX2 hown hK hP 2 rfl rfl 1 (by decide) (ht _ tw_498) (fun _ h9 => h9) rfl dX2_choice_9 ?_
  have q4 : (u2.1 0 305).toInt = (v.1 0 305).toInt := congrArg Int32.toInt ((fr1.2.1 305 (by decide)).trans (show v.1 0 305 = (v.1 0 305) by rfl))
  refine cu_i (rn_Vk (n := 0) (As := []) (rest := []) hx hb hml hown ht hKK hFx hP hD hS hA (c_x_X1_newLabel l dC dI cI cB cZ cJ cR tb H.size ad pr N L1 L2 u2  (show 0 ≤ (u2.1 0 305).toInt ∧ (u2.1 0 305).toInt ≤ 1500 from (om_c93ca3468d z305 q4)) (show 0 ≤ (u2.1 0 317).toInt ∧ (u2.1 0 317).toInt - 4 * (u2.1 0 305).toInt ≤ 16 from (om_2b3fc04500 zlb plb1))) tw_501 tw_502 (by decide +kernel) rfl rfl ⟨show 0 + 1 ≤ 8 * n + 14 from om_2d92e09058, show 8 + (1 + 11) + 0 ≤ 28 * (8 * n + 14) from om_289622e6d2⟩ (List.range (cW ad pr N cI cR L1 L2 u2).length) (rg_map _) (nd_range _) 1 rfl rfl rfl rfl hl.1 rfl (Nat.le_of_ble_eq_true rfl) dX2_choice_12 ⟨Nat.le_of_ble_eq_true rfl, Nat.le_of_ble_eq_true rfl⟩) hP hD hS hA (fun r7 u6 H locs hw5 hP hD hS => ?_)
  obtain ⟨fr5, ex5, plb5, rs5⟩ := hw5
  have plb5 : (u2.1 0 317).toInt ≤ (u6.1 0 317).toInt ∧ (u6.1 0 317).toInt - 4 * (u6.1 0 305).toInt ≤ (u2.1 0 317).toInt - 4 * (u2.1 0 305).toInt + 1 := plb5
  have rs5 : RS u2 u6 := rs5
  refine W.widen (k := 0) (n := 0) (Nat.le_refl _) (Nat.le_refl _) ?_
  refine lv_istore_n (lv' := [(2, .int r7), (1, .int r3), (0, .ref (ad 902))]) hx hb dX2_choice_15 rfl hl (by decide) rfl (fun ls hl => ?_)
  refine lv_aload_n hx hb dX2_choice_16 rfl (lv_at hl 2 rfl) ?_
  refine va_get (D := (dC, dI)) (ci := 6) (fs := oF_X2 ad pr u6) (v := .ref (ad 900)) (C := RX2) (T := TX2) (N := 5) hx hb ht itX2 hown hK hP 2 rfl rfl 0 (by decide) (ht _ tw_509) (fun _ h9 => h9) rfl dX2_choice_17 ?_
  have q8 : (u2.1 0 304).toInt = (v.1 0 304).toInt := congrArg Int32.toInt ((fr1.2.1 304 (by decide)).trans (show v.1 0 304 = (v.1 0 304) by rfl))
  have q10 : (u6.1 0 304).toInt = (u2.1 0 304).toInt := congrArg Int32.toInt ((fr5.2.1 304 (by decide)).trans (show u2.1 0 304 = (u2.1 0 304) by rfl))
  have q11 : (u6.1 0 305).toInt = (u2.1 0 305).toInt := congrArg Int32.toInt ((fr5.2.1 305 (by decide)).trans (show u2.1 0 305 = (u2.1 0 305) by rfl))
  have q12 : (u2.1 0 306).toInt = (v.1 0 306).toInt := congrArg Int32.toInt ((fr1.2.1 306 (by decide)).trans (show v.1 0 306 = (v.1 0 306) by rfl))
  have q13 : (u6.1 0 306).toInt = (u2.1 0 306).toInt := congrArg Int32.toInt ((fr5.2.1 306 (by decide)).trans (show u2.1 0 306 = (u2.1 0 306) by rfl))
  have q14 : (u2.1 0 373).toInt = (v.1 0 373).toInt := congrArg Int32.toInt ((fr1.2.1 373 (by decide)).trans (show v.1 0 373 = (v.1 0 373) by rfl))
  have q15 : (u6.1 0 373).toInt = (u2.1 0 373).toInt := congrArg Int32.toInt ((fr5.2.1 373 (by decide)).trans (show u2.1 0 373 = (u2.1 0 373) by rfl))
  refine W.sz (fun hz9 => ?_)
  refine czx_v (rx_Vk (n := 0) (As := []) (rest := []) hx hb hml hown ht hKK hFx hP hD hS hA (c_x_X9_open l dC dI cI cB cZ cJ cR tb H.size ad pr N L1 L2 u6 ps (show 0 ≤ (u6.1 0 304).toInt ∧ (u6.1 0 304).toInt ≤ 1503 from (om_dd87ee851a z304 q8 q10)) (show 0 ≤ (u6.1 0 305).toInt ∧ (u6.1 0 305).toInt ≤ 1500 from (om_15548f2e10 z305 q4 q11)) (show 0 ≤ (u6.1 0 306).toInt ∧ (u6.1 0 306).toInt ≤ 40 from (om_68f540929a z306 q12 q13)) (show 0 ≤ (u6.1 0 373).toInt ∧ (u6.1 0 373).toInt ≤ 4000 from (om_03cd8767ac z373 q14 q15)) (show pr ps = ad 908 from hps) (show (u6.1 0 300) = ps from (Eq.trans (fr5.2.1 300 (by decide)) (Eq.trans (fr1.2.1 300 (by decide)) es300))) (show l.stackTraces = false from hst)) tw_524 tw_525 (by decide +kernel) rfl rfl ⟨show 7 + 1 ≤ 8 * n + 14 from om_46126d3ba0, show 8 + (1 + 11) + 104 ≤ 28 * (8 * n + 14) from om_6017b980b8⟩ (List.range (cW ad pr N cI cR L1 L2 u6).length) (rg_map _) (nd_range _) 0 rfl rfl rfl rfl hl.1 rfl (Nat.le_of_ble_eq_true rfl) dX2_choice_20 ⟨Nat.le_of_ble_eq_true rfl, Nat.le_of_ble_eq_true rfl⟩) hP hD hS hA (fun u9 ce9 q9 H locs hx9 hP hD hS hc9 hv9 hf9 => ?_) (fun u17 H locs hw16 hP hD hS hz8 => ?_)
  · exact vx_out (fun x h9 => (hnt x h9).elim) hlocks hc9 hv9 hf9 (fun t9 ht9 hv8 => ⟨u9, ⟨FC.tr (FC.tr (FC.tr (FC.rf _) (FC.up fr1 (by decide) (by decide))) (FC.up fr5 (by decide) (by decide))) hx9.1, hx9.2.1, ⟨z304, z305, z306, z312, z321, z326, z373, z381, zd, zlb, r3, u2, ex1, ⟨fr1, plb1, rs1⟩, r7, u6, ex5, ⟨fr5, plb5, rs5⟩, (Or.inl ⟨u9, hx9.2.2, rfl, rfl⟩)⟩⟩, ⟨rfl, by rw [ht9]; exact hP, hD⟩, hS.F ht9⟩) hS.2.2 (Nat.le_refl _) (Nat.le_refl _)
  refine W.shrink (hz8.trans hz9) ?_
  obtain ⟨fr16, ex16, i30516, i30616, pj16, pt16, rs16⟩ := hw16
  have i30516 : 0 ≤ (u17.1 0 305).toInt ∧ (u17.1 0 305).toInt ≤ 1500 := i30516
  have i30616 : 0 ≤ (u17.1 0 306).toInt ∧ (u17.1 0 306).toInt ≤ 40 := i30616
  have pj16 : (u17.1 0 306).toInt = (u6.1 0 306).toInt + 1 := pj16
  have pt16 : (u17.1 0 305).toInt = (u6.1 0 305).toInt + 1 := pt16
  have rs16 : RS u6 u17 := rs16
  refine lv_aload_n hx hb dX2_choice_23 rfl (lv_at hl 2 rfl) ?_
  refine va_get (D := (dC, dI)) (ci := 6) (fs := oF_X2 ad pr u17) (v := .ref (ad 901)) (C := RX2) (T := TX2) (N := 5) hx hb ht itX2 hown hK hP 2 rfl rfl 1 (by decide) (ht _ tw_498) (fun _ h9 => h9) rfl dX2_choice_24 ?_
  refine lv_bipush (v := 16) hx hb dX2_choice_27 (by decide) ?_
  refine lv_iload_n hx hb dX2_choice_29 rfl (lv_at hl 1 rfl) ?_
  refine lv_iconst (v := 0) hx hb dX2_choice_30 (by decide) ?_
  have q19 : (u2.1 0 381).toInt = (v.1 0 381).toInt := congrArg Int32.toInt ((fr1.2.1 381 (by decide)).trans (show v.1 0 381 = (v.1 0 381) by rfl))
  have q20 : (u6.1 0 381).toInt = (u2.1 0 381).toInt := congrArg Int32.toInt ((fr5.2.1 381 (by decide)).trans (show u2.1 0 381 = (u2.1 0 381) by rfl))
  have q21 : (u17.1 0 381).toInt = (u6.1 0 381).toInt := congrArg Int32.toInt ((fr16.2.1 381 (by decide)).trans (show u6.1 0 381 = (u6.1 0 381) by rfl))
  refine cu_v (rn_Vk (n := 3) (As := [.int 16, .int r3, .int 0]) (rest := []) hx hb hml hown ht hKK hFx hP hD hS hA (c_x_X1_add l dC dI cI cB cZ cJ cR tb H.size ad pr N L1 L2 u17 (16 : Int32) r3 (0 : Int32) ps (show 0 ≤ (u17.1 0 381).toInt ∧ (u17.1 0 381).toInt ≤ 3008 from (om_9115d0bf9b z305 z326 z381 zd q19 q20 q21)) (show pr ps = ad 908 from hps) (show (u17.1 0 310) = ps from (Eq.trans (fr16.2.1 310 (by decide)) (Eq.trans (fr5.2.1 310 (by decide)) (Eq.trans (fr1.2.1 310 (by decide)) es310)))) (show (u17.1 0 381).toInt < 3008 from (om_53130810e3 z305 z326 zd q19 q20 q21))) tw_499 tw_500 (by decide +kernel) rfl rfl ⟨show 0 + 1 ≤ 8 * n + 14 from om_2d92e09058, show 8 + (5 + 11) + 0 ≤ 28 * (8 * n + 14) from om_f68798533e⟩ (List.range (cW ad pr N cI cR L1 L2 u17).length) (rg_map _) (nd_range _) 1 rfl rfl rfl rfl hl.1 rfl (Nat.le_of_ble_eq_true rfl) dX2_choice_31 ⟨Nat.le_of_ble_eq_true rfl, Nat.le_of_ble_eq_true rfl⟩) hP hD hS hA (fun u23 H locs hw22 hP hD hS => ?_)
  obtain ⟨fr22, ex22, i38122, pd22, rs22⟩ := hw22
  have i38122 : 0 ≤ (u23.1 0 381).toInt ∧ (u23.1 0 381).toInt ≤ 3008 := i38122
  have pd22 : (u23.1 0 381).toInt = (u17.1 0 381).toInt + 1 := pd22
  have rs22 : RS u17 u23 := rs22
  refine W.widen (k := 0) (n := 0) (Nat.le_refl _) (Nat.le_refl _) ?_
  refine lv_aload_n hx hb dX2_choice_34 rfl (lv_at hl 2 rfl) ?_
  refine lv_iconst (v := 1) hx hb dX2_choice_35 (by decide) ?_
  obtain ⟨n25, hn26⟩ : ∃ m, n = m + 1 := ex_z (om_73f0efed2d zn q12 q13 i30616 pj16)
  have q27 : (u17.1 0 304).toInt = (u6.1 0 304).toInt := congrArg Int32.toInt ((fr16.2.1 304 (by decide)).trans (show u6.1 0 304 = (u6.1 0 304) by rfl))
  have q28 : (u23.1 0 304).toInt = (u17.1 0 304).toInt := congrArg Int32.toInt ((fr22.2.1 304 (by decide)).trans (show u17.1 0 304 = (u17.1 0 304) by rfl))
  have q29 : (u23.1 0 305).toInt = (u17.1 0 305).toInt := congrArg Int32.toInt ((fr22.2.1 305 (by decide)).trans (show u17.1 0 305 = (u17.1 0 305) by rfl))
  have q30 : (u23.1 0 306).toInt = (u17.1 0 306).toInt := congrArg Int32.toInt ((fr22.2.1 306 (by decide)).trans (show u17.1 0 306 = (u17.1 0 306) by rfl))
  have q31 : (u2.1 0 312).toInt = (v.1 0 312).toInt := congrArg Int32.toInt ((fr1.2.1 312 (by decide)).trans (show v.1 0 312 = (v.1 0 312) by rfl))
  have q32 : (u6.1 0 312).toInt = (u2.1 0 312).toInt := congrArg Int32.toInt ((fr5.2.1 312 (by decide)).trans (show u2.1 0 312 = (u2.1 0 312) by rfl))
  have q33 : (u17.1 0 312).toInt = (u6.1 0 312).toInt := congrArg Int32.toInt ((fr16.2.1 312 (by decide)).trans (show u6.1 0 312 = (u6.1 0 312) by rfl))
  have q34 : (u23.1 0 312).toInt = (u17.1 0 312).toInt := congrArg Int32.toInt ((fr22.2.1 312 (by decide)).trans (show u17.1 0 312 = (u17.1 0 312) by rfl))
  have q35 : (u2.1 0 321).toInt = (v.1 0 321).toInt := congrArg Int32.toInt ((fr1.2.1 321 (by decide)).trans (show v.1 0 321 = (v.1 0 321) by rfl))
  have q36 : (u6.1 0 321).toInt = (u2.1 0 321).toInt := congrArg Int32.toInt ((fr5.2.1 321 (by decide)).trans (show u2.1 0 321 = (u2.1 0 321) by rfl))
  have q37 : (u17.1 0 321).toInt = (u6.1 0 321).toInt := congrArg Int32.toInt ((fr16.2.1 321 (by decide)).trans (show u6.1 0 321 = (u6.1 0 321) by rfl))
  have q38 : (u23.1 0 321).toInt = (u17.1 0 321).toInt := congrArg Int32.toInt ((fr22.2.1 321 (by decide)).trans (show u17.1 0 321 = (u17.1 0 321) by rfl))
  have q39 : (u2.1 0 326).toInt = (v.1 0 326).toInt := congrArg Int32.toInt ((fr1.2.1 326 (by decide)).trans (show v.1 0 326 = (v.1 0 326) by rfl))
  have q40 : (u6.1 0 326).toInt = (u2.1 0 326).toInt := congrArg Int32.toInt ((fr5.2.1 326 (by decide)).trans (show u2.1 0 326 = (u2.1 0 326) by rfl))
  have q41 : (u17.1 0 326).toInt = (u6.1 0 326).toInt := congrArg Int32.toInt ((fr16.2.1 326 (by decide)).trans (show u6.1 0 326 = (u6.1 0 326) by rfl))
  have q42 : (u23.1 0 326).toInt = (u17.1 0 326).toInt := congrArg Int32.toInt ((fr22.2.1 326 (by decide)).trans (show u17.1 0 326 = (u17.1 0 326) by rfl))
  have q43 : (u17.1 0 373).toInt = (u6.1 0 373).toInt := congrArg Int32.toInt ((fr16.2.1 373 (by decide)).trans (show u6.1 0 373 = (u6.1 0 373) by rfl))
  have q44 : (u23.1 0 373).toInt = (u17.1 0 373).toInt := congrArg Int32.toInt ((fr22.2.1 373 (by decide)).trans (show u17.1 0 373 = (u17.1 0 373) by rfl))
  have q45 : (u17.1 0 317).toInt = (u6.1 0 317).toInt := congrArg Int32.toInt ((fr16.2.1 317 (by decide)).trans (show u6.1 0 317 = (u6.1 0 317) by rfl))
  have q46 : (u23.1 0 317).toInt = (u17.1 0 317).toInt := congrArg Int32.toInt ((fr22.2.1 317 (by decide)).trans (show u17.1 0 317 = (u17.1 0 317) by rfl))
  refine W.sz (fun hz9 => ?_)
  refine czx_v (rx_Vk (n := 1) (As := [.int 1]) (rest := []) hx hb hml hown ht hKK hFx hP hD hS hA (ihE n25 hn26 dC dI cI cB cZ cJ cR tb H.size ad pr N L1 L2 u23 (1 : Int32) ps (show 0 ≤ (u23.1 0 304).toInt ∧ (u23.1 0 304).toInt ≤ 1503 from (om_8044691ca6 z304 q8 q10 q27 q28)) (show 0 ≤ (u23.1 0 305).toInt ∧ (u23.1 0 305).toInt ≤ 1500 from (om_c93ca3468d i30516 q29)) (show 0 ≤ (u23.1 0 306).toInt ∧ (u23.1 0 306).toInt ≤ 40 from (om_99e115f631 i30616 q30)) (show 0 ≤ (u23.1 0 312).toInt ∧ (u23.1 0 312).toInt ≤ 500 from (om_31e0c91fb9 z312 q31 q32 q33 q34)) (show 0 ≤ (u23.1 0 321).toInt ∧ (u23.1 0 321).toInt ≤ 501 from (om_404ac90bf6 z321 q35 q36 q37 q38)) (show 0 ≤ (u23.1 0 326).toInt ∧ (u23.1 0 326).toInt ≤ 420 from (om_73f5be2f84 z326 q39 q40 q41 q42)) (show 0 ≤ (u23.1 0 373).toInt ∧ (u23.1 0 373).toInt ≤ 4000 from (om_fdcbb58227 z373 q14 q15 q43 q44)) (show 0 ≤ (u23.1 0 381).toInt ∧ (u23.1 0 381).toInt ≤ 3008 from (om_e78eec72e1 i38122)) (show L1.length = 40 from hL1) (show L2.length = 60 from hL2) (show RP u23 from ((show FC [305, 306, 307, 314, 315, 317, 321, 326, 381] [0, 316, 318, 319, 320, 324, 325, 378, 379, 380] v u23 from (FC.tr (FC.tr (FC.tr (FC.tr (FC.rf _) (FC.up fr1 (by decide) (by decide))) (FC.up fr5 (by decide) (by decide))) (FC.up fr16 (by decide) (by decide))) (FC.up fr22 (by decide) (by decide)))).1 rp)) (show pr ps = ad 908 from hps) (show (u23.1 0 300) = ps from (Eq.trans (fr22.2.1 300 (by decide)) (Eq.trans (fr16.2.1 300 (by decide)) (Eq.trans (fr5.2.1 300 (by decide)) (Eq.trans (fr1.2.1 300 (by decide)) es300))))) (show (u23.1 0 310) = ps from (Eq.trans (fr22.2.1 310 (by decide)) (Eq.trans (fr16.2.1 310 (by decide)) (Eq.trans (fr5.2.1 310 (by decide)) (Eq.trans (fr1.2.1 310 (by decide)) es310))))) (show l.stackTraces = false from hst) (show (u23.1 0 381).toInt + (u23.1 0 326).toInt - 2 * (u23.1 0 305).toInt ≤ 0 from (om_49b666da6a zd q4 q39 q19 q11 q40 q20 q41 q21 pt16 q29 q42 pd22)) (show 0 ≤ (u23.1 0 317).toInt ∧ (u23.1 0 317).toInt - 4 * (u23.1 0 305).toInt ≤ 8 from (om_3cc666395b zlb plb1 plb5 q45 pt16 q29 q46)) (show 40 ≤ (u23.1 0 306).toInt + (n25 : Int) from (om_99b762d8f4 zn q12 q13 pj16 q30 hn26))) tw_520 tw_521 (by decide +kernel) rfl rfl ⟨show (8 * n25 + 20) + 1 ≤ 8 * n + 14 from (om_74f46d92b7 hn26), show 8 + (5 + 11) + 28 * (8 * n25 + 20) ≤ 28 * (8 * n + 14) from (om_a843c7c5cc hn26)⟩ (List.range (cW ad pr N cI cR L1 L2 u23).length) (rg_map _) (nd_range _) 2 rfl rfl rfl rfl hl.1 rfl (Nat.le_of_ble_eq_true rfl) dX2_choice_36 ⟨Nat.le_of_ble_eq_true rfl, Nat.le_of_ble_eq_true rfl⟩) hP hD hS hA (fun u9 ce9 q9 H locs hx9 hP hD hS hc9 hv9 hf9 => ?_) (fun u48 H locs hw47 hP hD hS hz8 => ?_)
  · exact vx_out (fun x h9 => (hnt x h9).elim) hlocks hc9 hv9 hf9 (fun t9 ht9 hv8 => ⟨u9, ⟨FC.tr (FC.tr (FC.tr (FC.tr (FC.tr (FC.rf _) (FC.up fr1 (by decide) (by decide))) (FC.up fr5 (by decide) (by decide))) (FC.up fr16 (by decide) (by decide))) (FC.up fr22 (by decide) (by decide))) hx9.1, hx9.2.1, ⟨z304, z305, z306, z312, z321, z326, z373, z381, zd, zlb, r3, u2, ex1, ⟨fr1, plb1, rs1⟩, r7, u6, ex5, ⟨fr5, plb5, rs5⟩, (Or.inr (⟨u17, ex16, ⟨fr16, i30516, i30616, pj16, pt16, rs16⟩, u23, ex22, ⟨fr22, i38122, pd22, rs22⟩, (Or.inl ⟨u9, (by rw [hn26]; exact hx9.2.2), rfl, rfl⟩)⟩))⟩⟩, ⟨rfl, by rw [ht9]; exact hP, hD⟩, hS.F ht9⟩) hS.2.2 (Nat.le_refl _) (Nat.le_refl _)
  refine W.shrink (hz8.trans hz9) ?_
  obtain ⟨fr47, ex47, i30547, i30647, i32147, i32647, i38147, pd47, pt47, plb47, po47, rs47⟩ := hw47
  have i30547 : 0 ≤ (u48.1 0 305).toInt ∧ (u48.1 0 305).toInt ≤ 1500 := i30547
  have i30647 : 0 ≤ (u48.1 0 306).toInt ∧ (u48.1 0 306).toInt ≤ 40 := i30647
  have i32147 : 0 ≤ (u48.1 0 321).toInt ∧ (u48.1 0 321).toInt ≤ 501 := i32147
  have i32647 : 0 ≤ (u48.1 0 326).toInt ∧ (u48.1 0 326).toInt ≤ 420 := i32647
  have i38147 : 0 ≤ (u48.1 0 381).toInt ∧ (u48.1 0 381).toInt ≤ 3008 := i38147
  have pd47 : (u48.1 0 381).toInt + (u48.1 0 326).toInt - 2 * (u48.1 0 305).toInt + (1) ≤ (u23.1 0 381).toInt + (u23.1 0 326).toInt - 2 * (u23.1 0 305).toInt := pd47
  have pt47 : (u23.1 0 305).toInt + 1 ≤ (u48.1 0 305).toInt := pt47
  have plb47 : (u23.1 0 317).toInt ≤ (u48.1 0 317).toInt ∧ (u48.1 0 317).toInt - 4 * (u48.1 0 305).toInt ≤ (u23.1 0 317).toInt - 4 * (u23.1 0 305).toInt + 0 := plb47
  have po47 : (u48.1 0 306).toInt = (u23.1 0 306).toInt := po47
  have rs47 : RS u23 u48 := rs47
  refine lv_aload_n hx hb dX2_choice_39 rfl (lv_at hl 2 rfl) ?_
  refine va_get (D := (dC, dI)) (ci := 6) (fs := oF_X2 ad pr u48) (v := .ref (ad 900)) (C := RX2) (T := TX2) (N := 5) hx hb ht itX2 hown hK hP 2 rfl rfl 0 (by decide) (ht _ tw_509) (fun _ h9 => h9) rfl dX2_choice_40 ?_
  refine lv_bipush (v := 39) hx hb dX2_choice_43 (by decide) ?_
  have q50 : (u48.1 0 304).toInt = (u23.1 0 304).toInt := congrArg Int32.toInt ((fr47.2.1 304 (by decide)).trans (show u23.1 0 304 = (u23.1 0 304) by rfl))
  have q51 : (u48.1 0 373).toInt = (u23.1 0 373).toInt := congrArg Int32.toInt ((fr47.2.1 373 (by decide)).trans (show u23.1 0 373 = (u23.1 0 373) by rfl))
  refine W.sz (fun hz9 => ?_)
  refine czx_v (rx_Vk (n := 1) (As := [.int 39]) (rest := []) hx hb hml hown ht hKK hFx hP hD hS hA (c_x_X9_expect l dC dI cI cB cZ cJ cR tb H.size ad pr N L1 L2 u48 (39 : Int32) ps (show 0 ≤ (u48.1 0 304).toInt ∧ (u48.1 0 304).toInt ≤ 1503 from (om_303b0e9f26 z304 q8 q10 q27 q28 q50)) (show 0 ≤ (u48.1 0 305).toInt ∧ (u48.1 0 305).toInt ≤ 1500 from (om_7897b4ccef i30547)) (show 0 ≤ (u48.1 0 373).toInt ∧ (u48.1 0 373).toInt ≤ 4000 from (om_d59e6e0f1e z373 q14 q15 q43 q44 q51)) (show pr ps = ad 908 from hps) (show (u48.1 0 300) = ps from (Eq.trans (fr47.2.1 300 (by decide)) (Eq.trans (fr22.2.1 300 (by decide)) (Eq.trans (fr16.2.1 300 (by decide)) (Eq.trans (fr5.2.1 300 (by decide)) (Eq.trans (fr1.2.1 300 (by decide)) es300)))))) (show l.stackTraces = false from hst)) tw_526 tw_527 (by decide +kernel) rfl rfl ⟨show 7 + 1 ≤ 8 * n + 14 from om_46126d3ba0, show 8 + (2 + 11) + 104 ≤ 28 * (8 * n + 14) from om_2d7c913608⟩ (List.range (cW ad pr N cI cR L1 L2 u48).length) (rg_map _) (nd_range _) 0 rfl rfl rfl rfl hl.1 rfl (Nat.le_of_ble_eq_true rfl) dX2_choice_45 ⟨Nat.le_of_ble_eq_true rfl, Nat.le_of_ble_eq_true rfl⟩) hP hD hS hA (fun u9 ce9 q9 H locs hx9 hP hD hS hc9 hv9 hf9 => ?_) (fun u53 H locs hw52 hP hD hS hz8 => ?_)
  · exact vx_out (fun x h9 => (hnt x h9).elim) hlocks hc9 hv9 hf9 (fun t9 ht9 hv8 => ⟨u9, ⟨FC.tr (FC.tr (FC.tr (FC.tr (FC.tr (FC.tr (FC.rf _) (FC.up fr1 (by decide) (by decide))) (FC.up fr5 (by decide) (by decide))) (FC.up fr16 (by decide) (by decide))) (FC.up fr22 (by decide) (by decide))) (FC.up fr47 (by decide) (by decide))) hx9.1, hx9.2.1, ⟨z304, z305, z306, z312, z321, z326, z373, z381, zd, zlb, r3, u2, ex1, ⟨fr1, plb1, rs1⟩, r7, u6, ex5, ⟨fr5, plb5, rs5⟩, (Or.inr (⟨u17, ex16, ⟨fr16, i30516, i30616, pj16, pt16, rs16⟩, u23, ex22, ⟨fr22, i38122, pd22, rs22⟩, (Or.inr (⟨u48, (by rw [hn26]; exact ex47), ⟨fr47, i30547, i30647, i32147, i32647, i38147, pd47, pt47, plb47, po47, rs47⟩, (Or.inl ⟨u9, hx9.2.2, rfl, rfl⟩)⟩))⟩))⟩⟩, ⟨rfl, by rw [ht9]; exact hP, hD⟩, hS.F ht9⟩) hS.2.2 (Nat.le_refl _) (Nat.le_refl _)
  refine W.shrink (hz8.trans hz9) ?_
  obtain ⟨fr52, ex52, i30552, pt52, rs52⟩ := hw52
  have i30552 : 0 ≤ (u53.1 0 305).toInt ∧ (u53.1 0 305).toInt ≤ 1500 := i30552
  have pt52 : (u53.1 0 305).toInt = (u48.1 0 305).toInt + 1 := pt52
  have rs52 : RS u48 u53 := rs52
  refine lv_aload_n hx hb dX2_choice_48 rfl (lv_at hl 2 rfl) ?_
  refine va_get (D := (dC, dI)) (ci := 6) (fs := oF_X2 ad pr u53) (v := .ref (ad 901)) (C := RX2) (T := TX2) (N := 5) hx hb ht itX2 hown hK hP 2 rfl rfl 1 (by decide) (ht _ tw_498) (fun _ h9 => h9) rfl dX2_choice_49 ?_
  refine lv_bipush (v := 19) hx hb dX2_choice_52 (by decide) ?_
  refine lv_iload_n hx hb dX2_choice_54 rfl (lv_at hl 0 rfl) ?_
  refine lv_iconst (v := 0) hx hb dX2_choice_55 (by decide) ?_
  have q55 : (u53.1 0 381).toInt = (u48.1 0 381).toInt := congrArg Int32.toInt ((fr52.2.1 381 (by decide)).trans (show u48.1 0 381 = (u48.1 0 381) by rfl))
  refine cu_v (rn_Vk (n := 3) (As := [.int 19, .int r7, .int 0]) (rest := []) hx hb hml hown ht hKK hFx hP hD hS hA (c_x_X1_add l dC dI cI cB cZ cJ cR tb H.size ad pr N L1 L2 u53 (19 : Int32) r7 (0 : Int32) ps (show 0 ≤ (u53.1 0 381).toInt ∧ (u53.1 0 381).toInt ≤ 3008 from (om_b5309c0358 zd q4 q39 q19 q11 q40 q20 q41 q21 pt16 q29 q42 pd22 i32647 i38147 pd47 q55 i30552 pt52)) (show pr ps = ad 908 from hps) (show (u53.1 0 310) = ps from (Eq.trans (fr52.2.1 310 (by decide)) (Eq.trans (fr47.2.1 310 (by decide)) (Eq.trans (fr22.2.1 310 (by decide)) (Eq.trans (fr16.2.1 310 (by decide)) (Eq.trans (fr5.2.1 310 (by decide)) (Eq.trans (fr1.2.1 310 (by decide)) es310))))))) (show (u53.1 0 381).toInt < 3008 from (om_b43ca7a9b0 zd q4 q39 q19 q11 q40 q20 q41 q21 pt16 q29 q42 pd22 i32647 pd47 q55 i30552 pt52))) tw_499 tw_500 (by decide +kernel) rfl rfl ⟨show 0 + 1 ≤ 8 * n + 14 from om_2d92e09058, show 8 + (5 + 11) + 0 ≤ 28 * (8 * n + 14) from om_f68798533e⟩ (List.range (cW ad pr N cI cR L1 L2 u53).length) (rg_map _) (nd_range _) 1 rfl rfl rfl rfl hl.1 rfl (Nat.le_of_ble_eq_true rfl) dX2_choice_56 ⟨Nat.le_of_ble_eq_true rfl, Nat.le_of_ble_eq_true rfl⟩) hP hD hS hA (fun u57 H locs hw56 hP hD hS => ?_)
  obtain ⟨fr56, ex56, i38156, pd56, rs56⟩ := hw56
  have i38156 : 0 ≤ (u57.1 0 381).toInt ∧ (u57.1 0 381).toInt ≤ 3008 := i38156
  have pd56 : (u57.1 0 381).toInt = (u53.1 0 381).toInt + 1 := pd56
  have rs56 : RS u53 u57 := rs56
  refine W.widen (k := 0) (n := 0) (Nat.le_refl _) (Nat.le_refl _) ?_
  refine lv_aload_n hx hb dX2_choice_59 rfl (lv_at hl 2 rfl) ?_
  refine va_get (D := (dC, dI)) (ci := 6) (fs := oF_X2 ad pr u57) (v := .ref (ad 901)) (C := RX2) (T := TX2) (N := 5) hx hb ht itX2 hown hK hP 2 rfl rfl 1 (by decide) (ht _ tw_498) (fun _ h9 => h9) rfl dX2_choice_60 ?_
  refine lv_iload_n hx hb dX2_choice_63 rfl (lv_at hl 1 rfl) ?_
  refine cu_v (rn_Vk (n := 1) (As := [.int r3]) (rest := []) hx hb hml hown ht hKK hFx hP hD hS hA (c_x_X1_setLabel l dC dI cI cB cZ cJ cR tb H.size ad pr N L1 L2 u57 r3 ps (show 0 ≤ (u57.1 0 381).toInt ∧ (u57.1 0 381).toInt ≤ 3008 from (om_e78eec72e1 i38156)) (show pr ps = ad 908 from hps) (show (u57.1 0 310) = ps from (Eq.trans (fr56.2.1 310 (by decide)) (Eq.trans (fr52.2.1 310 (by decide)) (Eq.trans (fr47.2.1 310 (by decide)) (Eq.trans (fr22.2.1 310 (by decide)) (Eq.trans (fr16.2.1 310 (by decide)) (Eq.trans (fr5.2.1 310 (by decide)) (Eq.trans (fr1.2.1 310 (by decide)) es310))))))))) tw_514 tw_515 (by decide +kernel) rfl rfl ⟨show 0 + 1 ≤ 8 * n + 14 from om_2d92e09058, show 8 + (2 + 11) + 0 ≤ 28 * (8 * n + 14) from om_e2ebc40cf4⟩ (List.range (cW ad pr N cI cR L1 L2 u57).length) (rg_map _) (nd_range _) 1 rfl rfl rfl rfl hl.1 rfl (Nat.le_of_ble_eq_true rfl) dX2_choice_64 ⟨Nat.le_of_ble_eq_true rfl, Nat.le_of_ble_eq_true rfl⟩) hP hD hS hA (fun u60 H locs hw59 hP hD hS => ?_)
  obtain ⟨fr59, ex59, rs59⟩ := hw59
  have rs59 : RS u57 u60 := rs59
  refine W.widen (k := 0) (n := 0) (Nat.le_refl _) (Nat.le_refl _) ?_
  refine lv_aload_n hx hb dX2_choice_67 rfl (lv_at hl 2 rfl) ?_
  refine lv_iconst (v := 0) hx hb dX2_choice_68 (by decide) ?_
  obtain ⟨n62, hn63⟩ : ∃ m, n = m + 1 := ex_z (om_bce5f2fb63 hn26)
  have q64 : (u53.1 0 304).toInt = (u48.1 0 304).toInt := congrArg Int32.toInt ((fr52.2.1 304 (by decide)).trans (show u48.1 0 304 = (u48.1 0 304) by rfl))
  have q65 : (u57.1 0 304).toInt = (u53.1 0 304).toInt := congrArg Int32.toInt ((fr56.2.1 304 (by decide)).trans (show u53.1 0 304 = (u53.1 0 304) by rfl))
  have q66 : (u60.1 0 304).toInt = (u57.1 0 304).toInt := congrArg Int32.toInt ((fr59.2.1 304 (by decide)).trans (show u57.1 0 304 = (u57.1 0 304) by rfl))
  have q67 : (u57.1 0 305).toInt = (u53.1 0 305).toInt := congrArg Int32.toInt ((fr56.2.1 305 (by decide)).trans (show u53.1 0 305 = (u53.1 0 305) by rfl))
  have q68 : (u60.1 0 305).toInt = (u57.1 0 305).toInt := congrArg Int32.toInt ((fr59.2.1 305 (by decide)).trans (show u57.1 0 305 = (u57.1 0 305) by rfl))
  have q69 : (u53.1 0 306).toInt = (u48.1 0 306).toInt := congrArg Int32.toInt ((fr52.2.1 306 (by decide)).trans (show u48.1 0 306 = (u48.1 0 306) by rfl))
  have q70 : (u57.1 0 306).toInt = (u53.1 0 306).toInt := congrArg Int32.toInt ((fr56.2.1 306 (by decide)).trans (show u53.1 0 306 = (u53.1 0 306) by rfl))
  have q71 : (u60.1 0 306).toInt = (u57.1 0 306).toInt := congrArg Int32.toInt ((fr59.2.1 306 (by decide)).trans (show u57.1 0 306 = (u57.1 0 306) by rfl))
  have q72 : (u48.1 0 312).toInt = (u23.1 0 312).toInt := congrArg Int32.toInt ((fr47.2.1 312 (by decide)).trans (show u23.1 0 312 = (u23.1 0 312) by rfl))
  have q73 : (u53.1 0 312).toInt = (u48.1 0 312).toInt := congrArg Int32.toInt ((fr52.2.1 312 (by decide)).trans (show u48.1 0 312 = (u48.1 0 312) by rfl))
  have q74 : (u57.1 0 312).toInt = (u53.1 0 312).toInt := congrArg Int32.toInt ((fr56.2.1 312 (by decide)).trans (show u53.1 0 312 = (u53.1 0 312) by rfl))
  have q75 : (u60.1 0 312).toInt = (u57.1 0 312).toInt := congrArg Int32.toInt ((fr59.2.1 312 (by decide)).trans (show u57.1 0 312 = (u57.1 0 312) by rfl))
  have q76 : (u53.1 0 321).toInt = (u48.1 0 321).toInt := congrArg Int32.toInt ((fr52.2.1 321 (by decide)).trans (show u48.1 0 321 = (u48.1 0 321) by rfl))
  have q77 : (u57.1 0 321).toInt = (u53.1 0 321).toInt := congrArg Int32.toInt ((fr56.2.1 321 (by decide)).trans (show u53.1 0 321 = (u53.1 0 321) by rfl))
  have q78 : (u60.1 0 321).toInt = (u57.1 0 321).toInt := congrArg Int32.toInt ((fr59.2.1 321 (by decide)).trans (show u57.1 0 321 = (u57.1 0 321) by rfl))
  have q79 : (u53.1 0 326).toInt = (u48.1 0 326).toInt := congrArg Int32.toInt ((fr52.2.1 326 (by decide)).trans (show u48.1 0 326 = (u48.1 0 326) by rfl))
  have q80 : (u57.1 0 326).toInt = (u53.1 0 326).toInt := congrArg Int32.toInt ((fr56.2.1 326 (by decide)).trans (show u53.1 0 326 = (u53.1 0 326) by rfl))
  have q81 : (u60.1 0 326).toInt = (u57.1 0 326).toInt := congrArg Int32.toInt ((fr59.2.1 326 (by decide)).trans (show u57.1 0 326 = (u57.1 0 326) by rfl))
  have q82 : (u53.1 0 373).toInt = (u48.1 0 373).toInt := congrArg Int32.toInt ((fr52.2.1 373 (by decide)).trans (show u48.1 0 373 = (u48.1 0 373) by rfl))
  have q83 : (u57.1 0 373).toInt = (u53.1 0 373).toInt := congrArg Int32.toInt ((fr56.2.1 373 (by decide)).trans (show u53.1 0 373 = (u53.1 0 373) by rfl))
  have q84 : (u60.1 0 373).toInt = (u57.1 0 373).toInt := congrArg Int32.toInt ((fr59.2.1 373 (by decide)).trans (show u57.1 0 373 = (u57.1 0 373) by rfl))
  have q85 : (u60.1 0 381).toInt = (u57.1 0 381).toInt := congrArg Int32.toInt ((fr59.2.1 381 (by decide)).trans (show u57.1 0 381 = (u57.1 0 381) by rfl))
  have q86 : (u53.1 0 317).toInt = (u48.1 0 317).toInt := congrArg Int32.toInt ((fr52.2.1 317 (by decide)).trans (show u48.1 0 317 = (u48.1 0 317) by rfl))
  have q87 : (u57.1 0 317).toInt = (u53.1 0 317).toInt := congrArg Int32.toInt ((fr56.2.1 317 (by decide)).trans (show u53.1 0 317 = (u53.1 0 317) by rfl))
  have q88 : (u60.1 0 317).toInt = (u57.1 0 317).toInt := congrArg Int32.toInt ((fr59.2.1 317 (by decide)).trans (show u57.1 0 317 = (u57.1 0 317) by rfl))
  refine W.sz (fun hz9 => ?_)
  refine czx_v (rx_Vk (n := 1) (As := [.int 0]) (rest := []) hx hb hml hown ht hKK hFx hP hD hS hA (ihE n62 hn63 dC dI cI cB cZ cJ cR tb H.size ad pr N L1 L2 u60 (0 : Int32) ps (show 0 ≤ (u60.1 0 304).toInt ∧ (u60.1 0 304).toInt ≤ 1503 from (om_003b4c170d z304 q8 q10 q27 q28 q50 q64 q65 q66)) (show 0 ≤ (u60.1 0 305).toInt ∧ (u60.1 0 305).toInt ≤ 1500 from (om_569a1bd309 i30516 q29 pt47 i30552 pt52 q67 q68)) (show 0 ≤ (u60.1 0 306).toInt ∧ (u60.1 0 306).toInt ≤ 40 from (om_91b0537b40 i30647 q69 q70 q71)) (show 0 ≤ (u60.1 0 312).toInt ∧ (u60.1 0 312).toInt ≤ 500 from (om_d466fad2f2 z312 q31 q32 q33 q34 q72 q73 q74 q75)) (show 0 ≤ (u60.1 0 321).toInt ∧ (u60.1 0 321).toInt ≤ 501 from (om_ca65317fd6 i32147 q76 q77 q78)) (show 0 ≤ (u60.1 0 326).toInt ∧ (u60.1 0 326).toInt ≤ 420 from (om_ba86cd30dc i32647 q79 q80 q81)) (show 0 ≤ (u60.1 0 373).toInt ∧ (u60.1 0 373).toInt ≤ 4000 from (om_40c7802ef9 z373 q14 q15 q43 q44 q51 q82 q83 q84)) (show 0 ≤ (u60.1 0 381).toInt ∧ (u60.1 0 381).toInt ≤ 3008 from (om_3ab0c90be7 i38147 q55 i38156 pd56 q85)) (show L1.length = 40 from hL1) (show L2.length = 60 from hL2) (show RP u60 from ((show FC [305, 306, 307, 314, 315, 317, 321, 326, 381] [0, 316, 318, 319, 320, 324, 325, 378, 379, 380] v u60 from (FC.tr (FC.tr (FC.tr (FC.tr (FC.tr (FC.tr (FC.tr (FC.tr (FC.rf _) (FC.up fr1 (by decide) (by decide))) (FC.up fr5 (by decide) (by decide))) (FC.up fr16 (by decide) (by decide))) (FC.up fr22 (by decide) (by decide))) (FC.up fr47 (by decide) (by decide))) (FC.up fr52 (by decide) (by decide))) (FC.up fr56 (by decide) (by decide))) (FC.up fr59 (by decide) (by decide)))).1 rp)) (show pr ps = ad 908 from hps) (show (u60.1 0 300) = ps from (Eq.trans (fr59.2.1 300 (by decide)) (Eq.trans (fr56.2.1 300 (by decide)) (Eq.trans (fr52.2.1 300 (by decide)) (Eq.trans (fr47.2.1 300 (by decide)) (Eq.trans (fr22.2.1 300 (by decide)) (Eq.trans (fr16.2.1 300 (by decide)) (Eq.trans (fr5.2.1 300 (by decide)) (Eq.trans (fr1.2.1 300 (by decide)) es300))))))))) (show (u60.1 0 310) = ps from (Eq.trans (fr59.2.1 310 (by decide)) (Eq.trans (fr56.2.1 310 (by decide)) (Eq.trans (fr52.2.1 310 (by decide)) (Eq.trans (fr47.2.1 310 (by decide)) (Eq.trans (fr22.2.1 310 (by decide)) (Eq.trans (fr16.2.1 310 (by decide)) (Eq.trans (fr5.2.1 310 (by decide)) (Eq.trans (fr1.2.1 310 (by decide)) es310))))))))) (show l.stackTraces = false from hst) (show (u60.1 0 381).toInt + (u60.1 0 326).toInt - 2 * (u60.1 0 305).toInt ≤ 0 from (om_3bbeab2bab zd q4 q39 q19 q11 q40 q20 q41 q21 pt16 q29 q42 pd22 pd47 q79 q55 pt52 q67 q80 pd56 q68 q81 q85)) (show 0 ≤ (u60.1 0 317).toInt ∧ (u60.1 0 317).toInt - 4 * (u60.1 0 305).toInt ≤ 8 from (om_d396c192b7 zlb plb1 plb5 q45 pt16 q29 q46 plb47 q86 pt52 q67 q87 q68 q88)) (show 40 ≤ (u60.1 0 306).toInt + (n62 : Int) from (om_939fe17646 zn q12 q13 pj16 q30 po47 q69 q70 q71 hn63))) tw_520 tw_521 (by decide +kernel) rfl rfl ⟨show (8 * n62 + 20) + 1 ≤ 8 * n + 14 from (om_74f46d92b7 hn63), show 8 + (5 + 11) + 28 * (8 * n62 + 20) ≤ 28 * (8 * n + 14) from (om_a843c7c5cc hn63)⟩ (List.range (cW ad pr N cI cR L1 L2 u60).length) (rg_map _) (nd_range _) 2 rfl rfl rfl rfl hl.1 rfl (Nat.le_of_ble_eq_true rfl) dX2_choice_69 ⟨Nat.le_of_ble_eq_true rfl, Nat.le_of_ble_eq_true rfl⟩) hP hD hS hA (fun u9 ce9 q9 H locs hx9 hP hD hS hc9 hv9 hf9 => ?_) (fun u90 H locs hw89 hP hD hS hz8 => ?_)
  · exact vx_out (fun x h9 => (hnt x h9).elim) hlocks hc9 hv9 hf9 (fun t9 ht9 hv8 => ⟨u9, ⟨FC.tr (FC.tr (FC.tr (FC.tr (FC.tr (FC.tr (FC.tr (FC.tr (FC.tr (FC.rf _) (FC.up fr1 (by decide) (by decide))) (FC.up fr5 (by decide) (by decide))) (FC.up fr16 (by decide) (by decide))) (FC.up fr22 (by decide) (by decide))) (FC.up fr47 (by decide) (by decide))) (FC.up fr52 (by decide) (by decide))) (FC.up fr56 (by decide) (by decide))) (FC.up fr59 (by decide) (by decide))) hx9.1, hx9.2.1, ⟨z304, z305, z306, z312, z321, z326, z373, z381, zd, zlb, r3, u2, ex1, ⟨fr1, plb1, rs1⟩, r7, u6, ex5, ⟨fr5, plb5, rs5⟩, (Or.inr (⟨u17, ex16, ⟨fr16, i30516, i30616, pj16, pt16, rs16⟩, u23, ex22, ⟨fr22, i38122, pd22, rs22⟩, (Or.inr (⟨u48, (by rw [hn26]; exact ex47), ⟨fr47, i30547, i30647, i32147, i32647, i38147, pd47, pt47, plb47, po47, rs47⟩, (Or.inr (⟨u53, ex52, ⟨fr52, i30552, pt52, rs52⟩, u57, ex56, ⟨fr56, i38156, pd56, rs56⟩, u60, ex59, ⟨fr59, rs59⟩, (Or.inl ⟨u9, (by rw [hn63]; exact hx9.2.2), rfl, rfl⟩)⟩))⟩))⟩))⟩⟩, ⟨rfl, by rw [ht9]; exact hP, hD⟩, hS.F ht9⟩) hS.2.2 (Nat.le_refl _) (Nat.le_refl _)
  refine W.shrink (hz8.trans hz9) ?_
  obtain ⟨fr89, ex89, i30589, i30689, i32189, i32689, i38189, pd89, pt89, plb89, po89, rs89⟩ := hw89
  have i30589 : 0 ≤ (u90.1 0 305).toInt ∧ (u90.1 0 305).toInt ≤ 1500 := i30589
  have i30689 : 0 ≤ (u90.1 0 306).toInt ∧ (u90.1 0 306).toInt ≤ 40 := i30689
  have i32189 : 0 ≤ (u90.1 0 321).toInt ∧ (u90.1 0 321).toInt ≤ 501 := i32189
  have i32689 : 0 ≤ (u90.1 0 326).toInt ∧ (u90.1 0 326).toInt ≤ 420 := i32689
  have i38189 : 0 ≤ (u90.1 0 381).toInt ∧ (u90.1 0 381).toInt ≤ 3008 := i38189
  have pd89 : (u90.1 0 381).toInt + (u90.1 0 326).toInt - 2 * (u90.1 0 305).toInt + (1) ≤ (u60.1 0 381).toInt + (u60.1 0 326).toInt - 2 * (u60.1 0 305).toInt := pd89
  have pt89 : (u60.1 0 305).toInt + 1 ≤ (u90.1 0 305).toInt := pt89
  have plb89 : (u60.1 0 317).toInt ≤ (u90.1 0 317).toInt ∧ (u90.1 0 317).toInt - 4 * (u90.1 0 305).toInt ≤ (u60.1 0 317).toInt - 4 * (u60.1 0 305).toInt + 0 := plb89
  have po89 : (u90.1 0 306).toInt = (u60.1 0 306).toInt := po89
  have rs89 : RS u60 u90 := rs89
  refine lv_aload_n hx hb dX2_choice_72 rfl (lv_at hl 2 rfl) ?_
  refine va_get (D := (dC, dI)) (ci := 6) (fs := oF_X2 ad pr u90) (v := .ref (ad 901)) (C := RX2) (T := TX2) (N := 5) hx hb ht itX2 hown hK hP 2 rfl rfl 1 (by decide) (ht _ tw_498) (fun _ h9 => h9) rfl dX2_choice_73 ?_
  refine lv_iload_n hx hb dX2_choice_76 rfl (lv_at hl 0 rfl) ?_
  refine cu_v (rn_Vk (n := 1) (As := [.int r7]) (rest := []) hx hb hml hown ht hKK hFx hP hD hS hA (c_x_X1_setLabel l dC dI cI cB cZ cJ cR tb H.size ad pr N L1 L2 u90 r7 ps (show 0 ≤ (u90.1 0 381).toInt ∧ (u90.1 0 381).toInt ≤ 3008 from (om_e78eec72e1 i38189)) (show pr ps = ad 908 from hps) (show (u90.1 0 310) = ps from (Eq.trans (fr89.2.1 310 (by decide)) (Eq.trans (fr59.2.1 310 (by decide)) (Eq.trans (fr56.2.1 310 (by decide)) (Eq.trans (fr52.2.1 310 (by decide)) (Eq.trans (fr47.2.1 310 (by decide)) (Eq.trans (fr22.2.1 310 (by decide)) (Eq.trans (fr16.2.1 310 (by decide)) (Eq.trans (fr5.2.1 310 (by decide)) (Eq.trans (fr1.2.1 310 (by decide)) es310))))))))))) tw_514 tw_515 (by decide +kernel) rfl rfl ⟨show 0 + 1 ≤ 8 * n + 14 from om_2d92e09058, show 8 + (2 + 11) + 0 ≤ 28 * (8 * n + 14) from om_e2ebc40cf4⟩ (List.range (cW ad pr N cI cR L1 L2 u90).length) (rg_map _) (nd_range _) 1 rfl rfl rfl rfl hl.1 rfl (Nat.le_of_ble_eq_true rfl) dX2_choice_77 ⟨Nat.le_of_ble_eq_true rfl, Nat.le_of_ble_eq_true rfl⟩) hP hD hS hA (fun u93 H locs hw92 hP hD hS => ?_)
  obtain ⟨fr92, ex92, rs92⟩ := hw92
  have rs92 : RS u90 u93 := rs92
  refine W.widen (k := 0) (n := 0) (Nat.le_refl _) (Nat.le_refl _) ?_
  refine lv_aload_n hx hb dX2_choice_80 rfl (lv_at hl 2 rfl) ?_
  refine va_get (D := (dC, dI)) (ci := 6) (fs := oF_X2 ad pr u93) (v := .ref (ad 900)) (C := RX2) (T := TX2) (N := 5) hx hb ht itX2 hown hK hP 2 rfl rfl 0 (by decide) (ht _ tw_509) (fun _ h9 => h9) rfl dX2_choice_81 ?_
  have q95 : (u93.1 0 306).toInt = (u90.1 0 306).toInt := congrArg Int32.toInt ((fr92.2.1 306 (by decide)).trans (show u90.1 0 306 = (u90.1 0 306) by rfl))
  refine cu_v (rn_Vk (n := 0) (As := []) (rest := []) hx hb hml hown ht hKK hFx hP hD hS hA (c_x_X9_close l dC dI cI cB cZ cJ cR tb H.size ad pr N L1 L2 u93  (show 0 ≤ (u93.1 0 306).toInt ∧ (u93.1 0 306).toInt ≤ 40 from (om_99e115f631 i30689 q95)) (show 1 ≤ (u93.1 0 306).toInt from (om_5eb67ef455 z306 q12 q13 pj16 q30 po47 q69 q70 q71 po89 q95))) tw_528 tw_529 (by decide +kernel) rfl rfl ⟨show 0 + 1 ≤ 8 * n + 14 from om_2d92e09058, show 8 + (1 + 11) + 0 ≤ 28 * (8 * n + 14) from om_289622e6d2⟩ (List.range (cW ad pr N cI cR L1 L2 u93).length) (rg_map _) (nd_range _) 0 rfl rfl rfl rfl hl.1 rfl (Nat.le_of_ble_eq_true rfl) dX2_choice_84 ⟨Nat.le_of_ble_eq_true rfl, Nat.le_of_ble_eq_true rfl⟩) hP hD hS hA (fun u97 H locs hw96 hP hD hS => ?_)
  obtain ⟨fr96, ex96, i30696, pj96, rs96⟩ := hw96
  have i30696 : 0 ≤ (u97.1 0 306).toInt ∧ (u97.1 0 306).toInt ≤ 40 := i30696
  have pj96 : (u97.1 0 306).toInt = (u93.1 0 306).toInt - 1 := pj96
  have rs96 : RS u93 u97 := rs96
  refine W.widen (k := 0) (n := 0) (Nat.le_refl _) (Nat.le_refl _) ?_
  have q99 : (u93.1 0 305).toInt = (u90.1 0 305).toInt := congrArg Int32.toInt ((fr92.2.1 305 (by decide)).trans (show u90.1 0 305 = (u90.1 0 305) by rfl))
  have q100 : (u97.1 0 305).toInt = (u93.1 0 305).toInt := congrArg Int32.toInt ((fr96.2.1 305 (by decide)).trans (show u93.1 0 305 = (u93.1 0 305) by rfl))
  have q101 : (u93.1 0 321).toInt = (u90.1 0 321).toInt := congrArg Int32.toInt ((fr92.2.1 321 (by decide)).trans (show u90.1 0 321 = (u90.1 0 321) by rfl))
  have q102 : (u97.1 0 321).toInt = (u93.1 0 321).toInt := congrArg Int32.toInt ((fr96.2.1 321 (by decide)).trans (show u93.1 0 321 = (u93.1 0 321) by rfl))
  have q103 : (u93.1 0 326).toInt = (u90.1 0 326).toInt := congrArg Int32.toInt ((fr92.2.1 326 (by decide)).trans (show u90.1 0 326 = (u90.1 0 326) by rfl))
  have q104 : (u97.1 0 326).toInt = (u93.1 0 326).toInt := congrArg Int32.toInt ((fr96.2.1 326 (by decide)).trans (show u93.1 0 326 = (u93.1 0 326) by rfl))
  have q105 : (u93.1 0 381).toInt = (u90.1 0 381).toInt := congrArg Int32.toInt ((fr92.2.1 381 (by decide)).trans (show u90.1 0 381 = (u90.1 0 381) by rfl))
  have q106 : (u97.1 0 381).toInt = (u93.1 0 381).toInt := congrArg Int32.toInt ((fr96.2.1 381 (by decide)).trans (show u93.1 0 381 = (u93.1 0 381) by rfl))
  have q107 : (u93.1 0 317).toInt = (u90.1 0 317).toInt := congrArg Int32.toInt ((fr92.2.1 317 (by decide)).trans (show u90.1 0 317 = (u90.1 0 317) by rfl))
  have q108 : (u97.1 0 317).toInt = (u93.1 0 317).toInt := congrArg Int32.toInt ((fr96.2.1 317 (by decide)).trans (show u93.1 0 317 = (u93.1 0 317) by rfl))
  refine W.sz (fun hz => ?_)
  refine vx_ret ?_
  refine W.widen (k := 1) (n := 6) (Nat.le_of_ble_eq_true rfl) (Nat.le_of_ble_eq_true rfl) ?_
  exact W.vret hx hb hr (fun t ht9 hW => ⟨⟨u97, rfl, ⟨(FC.tr (FC.tr (FC.tr (FC.tr (FC.tr (FC.tr (FC.tr (FC.tr (FC.tr (FC.tr (FC.tr (FC.rf _) (FC.up fr1 (by decide) (by decide))) (FC.up fr5 (by decide) (by decide))) (FC.up fr16 (by decide) (by decide))) (FC.up fr22 (by decide) (by decide))) (FC.up fr47 (by decide) (by decide))) (FC.up fr52 (by decide) (by decide))) (FC.up fr56 (by decide) (by decide))) (FC.up fr59 (by decide) (by decide))) (FC.up fr89 (by decide) (by decide))) (FC.up fr92 (by decide) (by decide))) (FC.up fr96 (by decide) (by decide))), ⟨z304, z305, z306, z312, z321, z326, z373, z381, zd, zlb, r3, u2, ex1, ⟨fr1, plb1, rs1⟩, r7, u6, ex5, ⟨fr5, plb5, rs5⟩, (Or.inr (⟨u17, ex16, ⟨fr16, i30516, i30616, pj16, pt16, rs16⟩, u23, ex22, ⟨fr22, i38122, pd22, rs22⟩, (Or.inr (⟨u48, (by rw [hn26]; exact ex47), ⟨fr47, i30547, i30647, i32147, i32647, i38147, pd47, pt47, plb47, po47, rs47⟩, (Or.inr (⟨u53, ex52, ⟨fr52, i30552, pt52, rs52⟩, u57, ex56, ⟨fr56, i38156, pd56, rs56⟩, u60, ex59, ⟨fr59, rs59⟩, (Or.inr (⟨u90, (by rw [hn63]; exact ex89), ⟨fr89, i30589, i30689, i32189, i32689, i38189, pd89, pt89, plb89, po89, rs89⟩, u93, ex92, ⟨fr92, rs92⟩, u97, ex96, ⟨fr96, i30696, pj96, rs96⟩, rfl, rfl⟩))⟩))⟩))⟩))⟩, (show 0 ≤ (u97.1 0 305).toInt ∧ (u97.1 0 305).toInt ≤ 1500 from (om_e5abdba0e1 i30516 q29 pt47 pt52 q67 q68 i30589 pt89 q99 q100)), (show 0 ≤ (u97.1 0 306).toInt ∧ (u97.1 0 306).toInt ≤ 40 from (om_7eaf33e007 i30696)), (show 0 ≤ (u97.1 0 321).toInt ∧ (u97.1 0 321).toInt ≤ 501 from (om_4dfa815534 i32189 q101 q102)), (show 0 ≤ (u97.1 0 326).toInt ∧ (u97.1 0 326).toInt ≤ 420 from (om_9591dea625 i32689 q103 q104)), (show 0 ≤ (u97.1 0 381).toInt ∧ (u97.1 0 381).toInt ≤ 3008 from (om_0b0726617c zd q4 q39 q19 q11 q40 q20 q41 q21 pt16 q29 q42 pd22 pd47 q79 q55 pt52 q67 q80 pd56 q68 q81 q85 i30589 i32689 i38189 pd89 q105 q106)), (show (u97.1 0 381).toInt + (u97.1 0 326).toInt - 2 * (u97.1 0 305).toInt + (4) ≤ (v.1 0 381).toInt + (v.1 0 326).toInt - 2 * (v.1 0 305).toInt from (om_468aede317 q4 q39 q19 q11 q40 q20 q41 q21 pt16 q29 q42 pd22 pd47 q79 q55 pt52 q67 q80 pd56 q68 q81 q85 pd89 q99 q103 q105 q100 q104 q106)), (show (v.1 0 305).toInt + 4 ≤ (u97.1 0 305).toInt from (om_5c09bbc391 q4 q11 pt16 q29 pt47 pt52 q67 q68 pt89 q99 q100)), (show (v.1 0 317).toInt ≤ (u97.1 0 317).toInt ∧ (u97.1 0 317).toInt - 4 * (u97.1 0 305).toInt ≤ (v.1 0 317).toInt - 4 * (v.1 0 305).toInt + 0 from (om_189560213e plb1 plb5 q45 pt16 q29 q46 plb47 q86 pt52 q67 q87 q68 q88 plb89 q99 q107 q100 q108)), (show (u97.1 0 306).toInt = (v.1 0 306).toInt from (om_33d142c5bd q12 q13 pj16 q30 po47 q69 q70 q71 po89 q95 pj96)), (RS.tr (RS.tr (RS.tr (RS.tr (RS.tr (RS.tr (RS.tr (RS.tr (RS.tr (RS.tr (RS.tr RS.rf rs1) rs5) rs16) rs22) rs47) rs52) rs56) rs59) rs89) rs92) rs96)⟩, ⟨by rw [ht9]; exact hP, hD⟩, by rw [ht9]; exact hz⟩, hS.F ht9⟩) hS.2.2 dX2_choice_87
theorem om_ca6f0c0f01 {x0 x2 : Int} {n1 : Nat} (h0 : 40 ≤ x0 + (n1 : Int)) (h1 : 0 ≤ x2 ∧ x2 ≤ 40) (h2 : x2 = x0 + 1) : 1 ≤ (n1 : Int) := by omega
theorem om_89213937cb {x0 x1 : Int} (h0 : 0 ≤ x0 ∧ x0 ≤ 1500) (h1 : 0 ≤ x1 ∧ x1 ≤ 1500) (h2 : x1 = x0 + 1) : 0 ≤ x1 ∧ x1 ≤ 1500 := by omega
theorem om_31a8ca9d36 {x0 x1 : Int} (h0 : 0 ≤ x0 ∧ x0 ≤ 40) (h1 : 0 ≤ x1 ∧ x1 ≤ 40) (h2 : x1 = x0 + 1) : 0 ≤ x1 ∧ x1 ≤ 40 := by omega
theorem om_fefc81d4c2 {x0 x1 x2 x3 : Int} (h0 : 0 ≤ x0 ∧ x0 ≤ 1500) (h1 : 0 ≤ x1 ∧ x1 ≤ 420) (h2 : 0 ≤ x2 ∧ x2 ≤ 3008) (h3 : x2 + x1 - 2 * x0 ≤ 2) (h4 : x3 = x2) : 0 ≤ x3 ∧ x3 ≤ 3008 := by omega
theorem om_7d02498fc8 {x0 x1 x2 x3 x4 x5 : Int} (h0 : x0 + x1 - 2 * x2 ≤ 2) (h1 : x3 = x1) (h2 : x4 = x0) (h3 : x5 = x2 + 1) : x4 + x3 - 2 * x5 ≤ 0 := by omega
theorem om_acd7fdc17b {x0 x1 x2 x3 : Int} (h0 : 0 ≤ x0 ∧ x0 - 4 * x1 ≤ 8) (h1 : x2 = x0) (h2 : x3 = x1 + 1) : 0 ≤ x2 ∧ x2 - 4 * x3 ≤ 8 := by omega
theorem om_5c65d2983c {x0 x2 : Int} {n1 n3 : Nat} (h0 : 40 ≤ x0 + (n1 : Int)) (h1 : x2 = x0 + 1) (h2 : n1 = n3 + 1) : 40 ≤ x2 + (n3 : Int) := by omega
theorem om_5f02f7d50e {x0 x1 x2 : Int} (h0 : 0 ≤ x0 ∧ x0 ≤ 1500) (h1 : x1 = x0 + 1) (h2 : 0 ≤ x2 ∧ x2 ≤ 1500) (h3 : x1 + 1 ≤ x2) : 0 ≤ x2 ∧ x2 ≤ 1500 := by omega
theorem om_d6433c88a8 {x0 x1 x2 x3 : Int} (h0 : 0 ≤ x0 ∧ x0 ≤ 40) (h1 : x1 = x0 + 1) (h2 : 0 ≤ x2 ∧ x2 ≤ 40) (h3 : x2 = x1) (h4 : x3 = x2) : 0 ≤ x3 ∧ x3 ≤ 40 := by omega
theorem om_22aff8ea1a {x0 x1 x2 x3 : Int} (h0 : 0 ≤ x0 ∧ x0 ≤ 40) (h1 : x1 = x0 + 1) (h2 : x2 = x1) (h3 : x3 = x2) : 1 ≤ x3 := by omega
theorem om_63af33a3b3 {x0 x1 x2 x3 x4 x5 x6 x7 x8 x9 x10 x11 : Int} (h0 : x0 + x1 - 2 * x2 ≤ 2) (h1 : x3 = x1) (h2 : x4 = x0) (h3 : x5 = x2 + 1) (h4 : 0 ≤ x6 ∧ x6 ≤ 420) (h5 : 0 ≤ x7 ∧ x7 ≤ 3008) (h6 : x7 + x6 - 2 * x8 + (1) ≤ x4 + x3 - 2 * x5) (h7 : x9 = x7) (h8 : 0 ≤ x10 ∧ x10 ≤ 1500) (h9 : x10 = x8 + 1) (h10 : x11 = x9) : 0 ≤ x11 ∧ x11 ≤ 3008 := by omega
theorem om_f2687bf499 {x0 x1 x2 x3 x4 x5 x6 x7 x8 x9 x10 x11 : Int} (h0 : x0 + x1 - 2 * x2 ≤ 2) (h1 : x3 = x1) (h2 : x4 = x0) (h3 : x5 = x2 + 1) (h4 : 0 ≤ x6 ∧ x6 ≤ 420) (h5 : x7 + x6 - 2 * x8 + (1) ≤ x4 + x3 - 2 * x5) (h6 : x9 = x7) (h7 : 0 ≤ x10 ∧ x10 ≤ 1500) (h8 : x10 = x8 + 1) (h9 : x11 = x9) : x11 < 3008 := by omega
theorem om_fd36284f65 {x0 x1 x2 x3 x4 x5 : Int} (h0 : 0 ≤ x0 ∧ x0 ≤ 1500) (h1 : x1 = x0 + 1) (h2 : x1 + 1 ≤ x2) (h3 : 0 ≤ x3 ∧ x3 ≤ 1500) (h4 : x3 = x2 + 1) (h5 : x4 = x3) (h6 : x5 = x4) : 0 ≤ x5 ∧ x5 ≤ 1500 := by omega
theorem om_9c4f3a2e9c {x0 x1 x2 x3 : Int} (h0 : 0 ≤ x0 ∧ x0 ≤ 40) (h1 : x1 = x0) (h2 : 0 ≤ x2 ∧ x2 ≤ 40) (h3 : x2 = x1 - 1) (h4 : x3 = x2) : 0 ≤ x3 ∧ x3 ≤ 40 := by omega
theorem om_c6f21881d2 {x0 x1 x2 x3 x4 x5 x6 x7 x8 x9 x10 x11 x12 x13 x14 x15 x16 x17 : Int} (h0 : x0 = x1) (h1 : x2 = x3) (h2 : x4 = x5 + 1) (h3 : x6 + x7 - 2 * x8 + (1) ≤ x2 + x0 - 2 * x4) (h4 : x9 = x7) (h5 : x10 = x6) (h6 : x11 = x8 + 1) (h7 : x12 = x11) (h8 : x13 = x9) (h9 : x14 = x10) (h10 : x15 = x12) (h11 : x16 = x13) (h12 : x17 = x14 + 1) : x17 + x16 - 2 * x15 + (4) ≤ x3 + x1 - 2 * x5 := by omega
theorem om_e17ed45617 {x0 x1 x2 x3 x4 x5 : Int} (h0 : x0 = x1 + 1) (h1 : x0 + 1 ≤ x2) (h2 : x3 = x2 + 1) (h3 : x4 = x3) (h4 : x5 = x4) : x1 + 3 ≤ x5 := by omega
theorem om_95030105cf {x0 x1 x2 x3 x4 x5 x6 x7 x8 x9 x10 x11 : Int} (h0 : x0 = x1) (h1 : x2 = x3 + 1) (h2 : x0 ≤ x4 ∧ x4 - 4 * x5 ≤ x0 - 4 * x2 + 0) (h3 : x6 = x4) (h4 : x7 = x5 + 1) (h5 : x8 = x7) (h6 : x9 = x6) (h7 : x10 = x8) (h8 : x11 = x9) : x1 ≤ x11 ∧ x11 - 4 * x10 ≤ x1 - 4 * x3 + 0 := by omega
theorem om_2e8782e245 {x0 x1 x2 x3 x4 x5 : Int} (h0 : x0 = x1 + 1) (h1 : x2 = x0) (h2 : x3 = x2) (h3 : x4 = x3 - 1) (h4 : x5 = x4) : x5 = x1 := by omega
set_option maxHeartbeats 16000000 in
set_option maxRecDepth 100000 in
theorem c_x_X2_index (l : Launch) (n : Nat) (ihE : ∀ m, n = m + 1 → Cq_expression l m) (dC : Nat → ClassId) (dI : Nat → Nat → Nat) (cI cB cZ cJ cR : ClassId) (tb : Nat → Nat) (sz : Nat) (ad : Nat → Nat) (pr : Int32 → Nat) (N : Nat) (L1 L2 : List Nat) (v : MS) (pa : Int32) (ps : Int32) (z304 : 0 ≤ (v.1 0 304).toInt ∧ (v.1 0 304).toInt ≤ 1503) (z305 : 0 ≤ (v.1 0 305).toInt ∧ (v.1 0 305).toInt ≤ 1500) (z306 : 0 ≤ (v.1 0 306).toInt ∧ (v.1 0 306).toInt ≤ 40) (z312 : 0 ≤ (v.1 0 312).toInt ∧ (v.1 0 312).toInt ≤ 500) (z321 : 0 ≤ (v.1 0 321).toInt ∧ (v.1 0 321).toInt ≤ 501) (z326 : 0 ≤ (v.1 0 326).toInt ∧ (v.1 0 326).toInt ≤ 420) (z373 : 0 ≤ (v.1 0 373).toInt ∧ (v.1 0 373).toInt ≤ 4000) (z381 : 0 ≤ (v.1 0 381).toInt ∧ (v.1 0 381).toInt ≤ 3008) (hL1 : L1.length = 40) (hL2 : L2.length = 60) (rp : RP v) (hps : pr ps = ad 908) (es300 : (v.1 0 300) = ps) (es310 : (v.1 0 310) = ps) (hst : l.stackTraces = false) (zd : (v.1 0 381).toInt + (v.1 0 326).toInt - 2 * (v.1 0 305).toInt ≤ 2) (zlb : 0 ≤ (v.1 0 317).toInt ∧ (v.1 0 317).toInt - 4 * (v.1 0 305).toInt ≤ 8) (zn : 40 ≤ (v.1 0 306).toInt + (n : Int)) : vx_Met l yX2_index (Cond.code yX2_index cX2_index 2 none :: tw_W) ({ frames := 8 * n + 14, cells := 1, slots := 6, locals := 28 * (8 * n + 14) }) (pc_ (dC, dI) (tyS cI cB cZ cJ cR) tb (cW ad pr N cI cR L1 L2 v) sz [.ref (ad 902), .int pa]) (qvz_ (dC, dI) (cW ad pr N cI cR L1 L2 v) sz (fun (u : MS) => FC [305, 306, 307, 314, 315, 317, 321, 326, 381] [0, 316, 318, 319, 320, 324, 325, 378, 379, 380] v u ∧ (Q_x_X2_index L1 L2 (pE L1 L2 n) v pa false u) ∧ (0 ≤ (u.1 0 305).toInt ∧ (u.1 0 305).toInt ≤ 1500) ∧ (0 ≤ (u.1 0 306).toInt ∧ (u.1 0 306).toInt ≤ 40) ∧ (0 ≤ (u.1 0 321).toInt ∧ (u.1 0 321).toInt ≤ 501) ∧ (0 ≤ (u.1 0 326).toInt ∧ (u.1 0 326).toInt ≤ 420) ∧ (0 ≤ (u.1 0 381).toInt ∧ (u.1 0 381).toInt ≤ 3008) ∧ ((u.1 0 381).toInt + (u.1 0 326).toInt - 2 * (u.1 0 305).toInt + (4) ≤ (v.1 0 381).toInt + (v.1 0 326).toInt - 2 * (v.1 0 305).toInt) ∧ ((v.1 0 305).toInt + 3 ≤ (u.1 0 305).toInt) ∧ ((v.1 0 317).toInt ≤ (u.1 0 317).toInt ∧ (u.1 0 317).toInt - 4 * (u.1 0 305).toInt ≤ (v.1 0 317).toInt - 4 * (v.1 0 305).toInt + 0) ∧ ((u.1 0 306).toInt = (v.1 0 306).toInt) ∧ (RS v u)) (fun (u : MS) => (cW ad pr N cI cR L1 L2 u))) (qxc (dC, dI) (cW ad pr N cI cR L1 L2 v) sz (fun (u : MS) => (cW ad pr N cI cR L1 L2 u)) (fun (u : MS) => FC xfl xal v u ∧ (u.1 0 308).toInt ≠ 0 ∧ (Q_x_X2_index L1 L2 (pE L1 L2 n) v pa true u))) 1 6 (va_A (cW ad pr N cI cR L1 L2 v) sz) := by
  refine vx_ofW (cc := cX2_index) (maxL := 2) (ret := none) (by decide) rfl ?_
  intro p e s m args below meth c s₁ B hml hnt hv
  obtain ⟨rfl, hsz, hP, hKK, hD0, hFx⟩ := hv
  have hK := hKK.1
  have hx := B.exec
  have hb := B.bytes
  have hr := B.returns
  have ht : ∀ w ∈ tw_W, w.before _ s = true := fun w h => atoms_spec (ws := Cond.code yX2_index cX2_index 2 none :: tw_W) B.pre w (List.mem_cons_of_mem _ h)
  have hown : s.vm.findClass RX2 = some m.cls := findClass_of_methodNamed B.named
  have hlocks := B.notSynchronized
  subst hsz
  unfold qvz_ qxc
  have hD := hD0.self (sz := s.heap.size)
  generalize hAe : va_A (cW ad pr N cI cR L1 L2 v) s.heap.size = A at hD hFx ⊢
  have hA : ∀ q : Nat, s.heap.size ≤ q → A q := fun q h => by rw [← hAe]; exact Or.inr h
  have hS : va_S A s.heap s.heap [] := va_S.rf
  have hl := lv_entry ([.ref (ad 902), .int pa]) (n := 2) (Nat.le_of_ble_eq_true rfl)
  rw [lg_entry_eq]
  generalize (lg_sl ([.ref (ad 902), .int pa]) ++ List.replicate (2 - (lg_sl ([.ref (ad 902), .int pa])).length) Slot.unset).toArray = ls at hl ⊢
  have hl : lv_has ls 2 [(0, .ref (ad 902)), (1, .int pa)] := hl
  refine lv_aload_n hx hb dX2_index_0 rfl (lv_at hl 0 rfl) ?_
  refine va_get (D := (dC, dI)) (ci := 6) (fs := oF_X2 ad pr v) (v := .ref (ad 900)) (C := RX2) (T := TX2) (N := 5) hx hb ht itX2 hown hK hP 2 rfl rfl 0 (by decide) (ht _ tw_509) (fun _ h9 => h9) rfl dX2_index_1 ?_
  refine W.sz (fun hz9 => ?_)
  refine czx_v (rx_Vk (n := 0) (As := []) (rest := []) hx hb hml hown ht hKK hFx hP hD hS hA (c_x_X9_open l dC dI cI cB cZ cJ cR tb s.heap.size ad pr N L1 L2 v ps (show 0 ≤ (v.1 0 304).toInt ∧ (v.1 0 304).toInt ≤ 1503 from (om_c99648273b z304)) (show 0 ≤ (v.1 0 305).toInt ∧ (v.1 0 305).toInt ≤ 1500 from (om_7897b4ccef z305)) (show 0 ≤ (v.1 0 306).toInt ∧ (v.1 0 306).toInt ≤ 40 from (om_7eaf33e007 z306)) (show 0 ≤ (v.1 0 373).toInt ∧ (v.1 0 373).toInt ≤ 4000 from (om_c74a68af25 z373)) (show pr ps = ad 908 from hps) (show (v.1 0 300) = ps from es300) (show l.stackTraces = false from hst)) tw_524 tw_525 (by decide +kernel) rfl rfl ⟨show 7 + 1 ≤ 8 * n + 14 from om_46126d3ba0, show 8 + (1 + 11) + 104 ≤ 28 * (8 * n + 14) from om_6017b980b8⟩ (List.range (cW ad pr N cI cR L1 L2 v).length) (rg_map _) (nd_range _) 0 rfl rfl rfl rfl hl.1 rfl (Nat.le_of_ble_eq_true rfl) dX2_index_4 ⟨Nat.le_of_ble_eq_true rfl, Nat.le_of_ble_eq_true rfl⟩) hP hD hS hA (fun u9 ce9 q9 H locs hx9 hP hD hS hc9 hv9 hf9 => ?_) (fun u2 H locs hw1 hP hD hS hz8 => ?_)
  · exact vx_out (fun x h9 => (hnt x h9).elim) hlocks hc9 hv9 hf9 (fun t9 ht9 hv8 => ⟨u9, ⟨FC.tr (FC.rf _) hx9.1, hx9.2.1, ⟨z304, z305, z306, z312, z321, z326, z373, z381, zd, zlb, (Or.inl ⟨u9, hx9.2.2, rfl, rfl⟩)⟩⟩, ⟨rfl, by rw [ht9]; exact hP, hD⟩, hS.F ht9⟩) hS.2.2 (Nat.le_refl _) (Nat.le_refl _)
  refine W.shrink (hz8.trans hz9) ?_
  obtain ⟨fr1, ex1, i3051, i3061, pj1, pt1, rs1⟩ := hw1
  refine lv_aload_n hx hb dX2_index_7 rfl (lv_at hl 0 rfl) ?_
  refine lv_iconst (v := 1) hx hb dX2_index_8 (by decide) ?_
  obtain ⟨n4, hn5⟩ : ∃ m, n = m + 1 := ex_z (om_ca6f0c0f01 zn i3061 pj1)
  have q6 : (u2.1 0 304).toInt = (v.1 0 304).toInt := congrArg Int32.toInt ((fr1.2.1 304 (by decide)).trans (show v.1 0 304 = (v.1 0 304) by rfl))
  have q7 : (u2.1 0 312).toInt = (v.1 0 312).toInt := congrArg Int32.toInt ((fr1.2.1 312 (by decide)).trans (show v.1 0 312 = (v.1 0 312) by rfl))
  have q8 : (u2.1 0 321).toInt = (v.1 0 321).toInt := congrArg Int32.toInt ((fr1.2.1 321 (by decide)).trans (show v.1 0 321 = (v.1 0 321) by rfl))
  have q10 : (u2.1 0 326).toInt = (v.1 0 326).toInt := congrArg Int32.toInt ((fr1.2.1 326 (by decide)).trans (show v.1 0 326 = (v.1 0 326) by rfl))
  have q11 : (u2.1 0 373).toInt = (v.1 0 373).toInt := congrArg Int32.toInt ((fr1.2.1 373 (by decide)).trans (show v.1 0 373 = (v.1 0 373) by rfl))
  have q12 : (u2.1 0 381).toInt = (v.1 0 381).toInt := congrArg Int32.toInt ((fr1.2.1 381 (by decide)).trans (show v.1 0 381 = (v.1 0 381) by rfl))
  have q13 : (u2.1 0 317).toInt = (v.1 0 317).toInt := congrArg Int32.toInt ((fr1.2.1 317 (by decide)).trans (show v.1 0 317 = (v.1 0 317) by rfl))
  refine W.sz (fun hz9 => ?_)
  refine czx_v (rx_Vk (n := 1) (As := [.int 1]) (rest := []) hx hb hml hown ht hKK hFx hP hD hS hA (ihE n4 hn5 dC dI cI cB cZ cJ cR tb H.size ad pr N L1 L2 u2 (1 : Int32) ps (show 0 ≤ (u2.1 0 304).toInt ∧ (u2.1 0 304).toInt ≤ 1503 from (om_73002589c1 z304 q6)) (show 0 ≤ (u2.1 0 305).toInt ∧ (u2.1 0 305).toInt ≤ 1500 from (om_89213937cb z305 i3051 pt1)) (show 0 ≤ (u2.1 0 306).toInt ∧ (u2.1 0 306).toInt ≤ 40 from (om_31a8ca9d36 z306 i3061 pj1)) (show 0 ≤ (u2.1 0 312).toInt ∧ (u2.1 0 312).toInt ≤ 500 from (om_f8376ff89c z312 q7)) (show 0 ≤ (u2.1 0 321).toInt ∧ (u2.1 0 321).toInt ≤ 501 from (om_ff27494c0e z321 q8)) (show 0 ≤ (u2.1 0 326).toInt ∧ (u2.1 0 326).toInt ≤ 420 from (om_8ed0dedb19 z326 q10)) (show 0 ≤ (u2.1 0 373).toInt ∧ (u2.1 0 373).toInt ≤ 4000 from (om_9084c127ed z373 q11)) (show 0 ≤ (u2.1 0 381).toInt ∧ (u2.1 0 381).toInt ≤ 3008 from (om_fefc81d4c2 z305 z326 z381 zd q12)) (show L1.length = 40 from hL1) (show L2.length = 60 from hL2) (show RP u2 from ((show FC [305, 306, 307, 314, 315, 317, 321, 326, 381] [0, 316, 318, 319, 320, 324, 325, 378, 379, 380] v u2 from (FC.tr (FC.rf _) (FC.up fr1 (by decide) (by decide)))).1 rp)) (show pr ps = ad 908 from hps) (show (u2.1 0 300) = ps from (Eq.trans (fr1.2.1 300 (by decide)) es300)) (show (u2.1 0 310) = ps from (Eq.trans (fr1.2.1 310 (by decide)) es310)) (show l.stackTraces = false from hst) (show (u2.1 0 381).toInt + (u2.1 0 326).toInt - 2 * (u2.1 0 305).toInt ≤ 0 from (om_7d02498fc8 zd q10 q12 pt1)) (show 0 ≤ (u2.1 0 317).toInt ∧ (u2.1 0 317).toInt - 4 * (u2.1 0 305).toInt ≤ 8 from (om_acd7fdc17b zlb q13 pt1)) (show 40 ≤ (u2.1 0 306).toInt + (n4 : Int) from (om_5c65d2983c zn pj1 hn5))) tw_520 tw_521 (by decide +kernel) rfl rfl ⟨show (8 * n4 + 20) + 1 ≤ 8 * n + 14 from (om_74f46d92b7 hn5), show 8 + (5 + 11) + 28 * (8 * n4 + 20) ≤ 28 * (8 * n + 14) from (om_a843c7c5cc hn5)⟩ (List.range (cW ad pr N cI cR L1 L2 u2).length) (rg_map _) (nd_range _) 2 rfl rfl rfl rfl hl.1 rfl (Nat.le_of_ble_eq_true rfl) dX2_index_9 ⟨Nat.le_of_ble_eq_true rfl, Nat.le_of_ble_eq_true rfl⟩) hP hD hS hA (fun u9 ce9 q9 H locs hx9 hP hD hS hc9 hv9 hf9 => ?_) (fun u15 H locs hw14 hP hD hS hz8 => ?_)
  · exact vx_out (fun x h9 => (hnt x h9).elim) hlocks hc9 hv9 hf9 (fun t9 ht9 hv8 => ⟨u9, ⟨FC.tr (FC.tr (FC.rf _) (FC.up fr1 (by decide) (by decide))) hx9.1, hx9.2.1, ⟨z304, z305, z306, z312, z321, z326, z373, z381, zd, zlb, (Or.inr (⟨u2, ex1, ⟨fr1, i3051, i3061, pj1, pt1, rs1⟩, (Or.inl ⟨u9, (by rw [hn5]; exact hx9.2.2), rfl, rfl⟩)⟩))⟩⟩, ⟨rfl, by rw [ht9]; exact hP, hD⟩, hS.F ht9⟩) hS.2.2 (Nat.le_refl _) (Nat.le_refl _)
  refine W.shrink (hz8.trans hz9) ?_
  obtain ⟨fr14, ex14, i30514, i30614, i32114, i32614, i38114, pd14, pt14, plb14, po14, rs14⟩ := hw14
  have i30514 : 0 ≤ (u15.1 0 305).toInt ∧ (u15.1 0 305).toInt ≤ 1500 := i30514
  have i30614 : 0 ≤ (u15.1 0 306).toInt ∧ (u15.1 0 306).toInt ≤ 40 := i30614
  have i32114 : 0 ≤ (u15.1 0 321).toInt ∧ (u15.1 0 321).toInt ≤ 501 := i32114
  have i32614 : 0 ≤ (u15.1 0 326).toInt ∧ (u15.1 0 326).toInt ≤ 420 := i32614
  have i38114 : 0 ≤ (u15.1 0 381).toInt ∧ (u15.1 0 381).toInt ≤ 3008 := i38114
  have pd14 : (u15.1 0 381).toInt + (u15.1 0 326).toInt - 2 * (u15.1 0 305).toInt + (1) ≤ (u2.1 0 381).toInt + (u2.1 0 326).toInt - 2 * (u2.1 0 305).toInt := pd14
  have pt14 : (u2.1 0 305).toInt + 1 ≤ (u15.1 0 305).toInt := pt14
  have plb14 : (u2.1 0 317).toInt ≤ (u15.1 0 317).toInt ∧ (u15.1 0 317).toInt - 4 * (u15.1 0 305).toInt ≤ (u2.1 0 317).toInt - 4 * (u2.1 0 305).toInt + 0 := plb14
  have po14 : (u15.1 0 306).toInt = (u2.1 0 306).toInt := po14
  have rs14 : RS u2 u15 := rs14
  refine lv_aload_n hx hb dX2_index_12 rfl (lv_at hl 0 rfl) ?_
  refine va_get (D := (dC, dI)) (ci := 6) (fs := oF_X2 ad pr u15) (v := .ref (ad 900)) (C := RX2) (T := TX2) (N := 5) hx hb ht itX2 hown hK hP 2 rfl rfl 0 (by decide) (ht _ tw_509) (fun _ h9 => h9) rfl dX2_index_13 ?_
  refine lv_bipush (v := 35) hx hb dX2_index_16 (by decide) ?_
  have q17 : (u15.1 0 304).toInt = (u2.1 0 304).toInt := congrArg Int32.toInt ((fr14.2.1 304 (by decide)).trans (show u2.1 0 304 = (u2.1 0 304) by rfl))
  have q18 : (u15.1 0 373).toInt = (u2.1 0 373).toInt := congrArg Int32.toInt ((fr14.2.1 373 (by decide)).trans (show u2.1 0 373 = (u2.1 0 373) by rfl))
  refine W.sz (fun hz9 => ?_)
  refine czx_v (rx_Vk (n := 1) (As := [.int 35]) (rest := []) hx hb hml hown ht hKK hFx hP hD hS hA (c_x_X9_expect l dC dI cI cB cZ cJ cR tb H.size ad pr N L1 L2 u15 (35 : Int32) ps (show 0 ≤ (u15.1 0 304).toInt ∧ (u15.1 0 304).toInt ≤ 1503 from (om_dd87ee851a z304 q6 q17)) (show 0 ≤ (u15.1 0 305).toInt ∧ (u15.1 0 305).toInt ≤ 1500 from (om_5f02f7d50e z305 pt1 i30514 pt14)) (show 0 ≤ (u15.1 0 373).toInt ∧ (u15.1 0 373).toInt ≤ 4000 from (om_03cd8767ac z373 q11 q18)) (show pr ps = ad 908 from hps) (show (u15.1 0 300) = ps from (Eq.trans (fr14.2.1 300 (by decide)) (Eq.trans (fr1.2.1 300 (by decide)) es300))) (show l.stackTraces = false from hst)) tw_526 tw_527 (by decide +kernel) rfl rfl ⟨show 7 + 1 ≤ 8 * n + 14 from om_46126d3ba0, show 8 + (2 + 11) + 104 ≤ 28 * (8 * n + 14) from om_2d7c913608⟩ (List.range (cW ad pr N cI cR L1 L2 u15).length) (rg_map _) (nd_range _) 0 rfl rfl rfl rfl hl.1 rfl (Nat.le_of_ble_eq_true rfl) dX2_index_18 ⟨Nat.le_of_ble_eq_true rfl, Nat.le_of_ble_eq_true rfl⟩) hP hD hS hA (fun u9 ce9 q9 H locs hx9 hP hD hS hc9 hv9 hf9 => ?_) (fun u20 H locs hw19 hP hD hS hz8 => ?_)
  · exact vx_out (fun x h9 => (hnt x h9).elim) hlocks hc9 hv9 hf9 (fun t9 ht9 hv8 => ⟨u9, ⟨FC.tr (FC.tr (FC.tr (FC.rf _) (FC.up fr1 (by decide) (by decide))) (FC.up fr14 (by decide) (by decide))) hx9.1, hx9.2.1, ⟨z304, z305, z306, z312, z321, z326, z373, z381, zd, zlb, (Or.inr (⟨u2, ex1, ⟨fr1, i3051, i3061, pj1, pt1, rs1⟩, (Or.inr (⟨u15, (by rw [hn5]; exact ex14), ⟨fr14, i30514, i30614, i32114, i32614, i38114, pd14, pt14, plb14, po14, rs14⟩, (Or.inl ⟨u9, hx9.2.2, rfl, rfl⟩)⟩))⟩))⟩⟩, ⟨rfl, by rw [ht9]; exact hP, hD⟩, hS.F ht9⟩) hS.2.2 (Nat.le_refl _) (Nat.le_refl _)
  refine W.shrink (hz8.trans hz9) ?_
  obtain ⟨fr19, ex19, i30519, pt19, rs19⟩ := hw19
  have i30519 : 0 ≤ (u20.1 0 305).toInt ∧ (u20.1 0 305).toInt ≤ 1500 := i30519
  have pt19 : (u20.1 0 305).toInt = (u15.1 0 305).toInt + 1 := pt19
  have rs19 : RS u15 u20 := rs19
  refine lv_aload_n hx hb dX2_index_21 rfl (lv_at hl 0 rfl) ?_
  refine va_get (D := (dC, dI)) (ci := 6) (fs := oF_X2 ad pr u20) (v := .ref (ad 900)) (C := RX2) (T := TX2) (N := 5) hx hb ht itX2 hown hK hP 2 rfl rfl 0 (by decide) (ht _ tw_509) (fun _ h9 => h9) rfl dX2_index_22 ?_
  have q22 : (u20.1 0 306).toInt = (u15.1 0 306).toInt := congrArg Int32.toInt ((fr19.2.1 306 (by decide)).trans (show u15.1 0 306 = (u15.1 0 306) by rfl))
  refine cu_v (rn_Vk (n := 0) (As := []) (rest := []) hx hb hml hown ht hKK hFx hP hD hS hA (c_x_X9_close l dC dI cI cB cZ cJ cR tb H.size ad pr N L1 L2 u20  (show 0 ≤ (u20.1 0 306).toInt ∧ (u20.1 0 306).toInt ≤ 40 from (om_d6433c88a8 z306 pj1 i30614 po14 q22)) (show 1 ≤ (u20.1 0 306).toInt from (om_22aff8ea1a z306 pj1 po14 q22))) tw_528 tw_529 (by decide +kernel) rfl rfl ⟨show 0 + 1 ≤ 8 * n + 14 from om_2d92e09058, show 8 + (1 + 11) + 0 ≤ 28 * (8 * n + 14) from om_289622e6d2⟩ (List.range (cW ad pr N cI cR L1 L2 u20).length) (rg_map _) (nd_range _) 0 rfl rfl rfl rfl hl.1 rfl (Nat.le_of_ble_eq_true rfl) dX2_index_25 ⟨Nat.le_of_ble_eq_true rfl, Nat.le_of_ble_eq_true rfl⟩) hP hD hS hA (fun u24 H locs hw23 hP hD hS => ?_)
  obtain ⟨fr23, ex23, i30623, pj23, rs23⟩ := hw23
  have i30623 : 0 ≤ (u24.1 0 306).toInt ∧ (u24.1 0 306).toInt ≤ 40 := i30623
  have pj23 : (u24.1 0 306).toInt = (u20.1 0 306).toInt - 1 := pj23
  have rs23 : RS u20 u24 := rs23
  refine W.widen (k := 0) (n := 0) (Nat.le_refl _) (Nat.le_refl _) ?_
  refine lv_aload_n hx hb dX2_index_28 rfl (lv_at hl 0 rfl) ?_
  refine va_get (D := (dC, dI)) (ci := 6) (fs := oF_X2 ad pr u24) (v := .ref (ad 901)) (C := RX2) (T := TX2) (N := 5) hx hb ht itX2 hown hK hP 2 rfl rfl 1 (by decide) (ht _ tw_498) (fun _ h9 => h9) rfl dX2_index_29 ?_
  refine lv_bipush (v := 7) hx hb dX2_index_32 (by decide) ?_
  refine lv_iload_n hx hb dX2_index_34 rfl (lv_at hl 1 rfl) ?_
  refine lv_iconst (v := 0) hx hb dX2_index_35 (by decide) ?_
  have q26 : (u20.1 0 381).toInt = (u15.1 0 381).toInt := congrArg Int32.toInt ((fr19.2.1 381 (by decide)).trans (show u15.1 0 381 = (u15.1 0 381) by rfl))
  have q27 : (u24.1 0 381).toInt = (u20.1 0 381).toInt := congrArg Int32.toInt ((fr23.2.1 381 (by decide)).trans (show u20.1 0 381 = (u20.1 0 381) by rfl))
  refine cu_v (rn_Vk (n := 3) (As := [.int 7, .int pa, .int 0]) (rest := []) hx hb hml hown ht hKK hFx hP hD hS hA (c_x_X1_add l dC dI cI cB cZ cJ cR tb H.size ad pr N L1 L2 u24 (7 : Int32) pa (0 : Int32) ps (show 0 ≤ (u24.1 0 381).toInt ∧ (u24.1 0 381).toInt ≤ 3008 from (om_63af33a3b3 zd q10 q12 pt1 i32614 i38114 pd14 q26 i30519 pt19 q27)) (show pr ps = ad 908 from hps) (show (u24.1 0 310) = ps from (Eq.trans (fr23.2.1 310 (by decide)) (Eq.trans (fr19.2.1 310 (by decide)) (Eq.trans (fr14.2.1 310 (by decide)) (Eq.trans (fr1.2.1 310 (by decide)) es310))))) (show (u24.1 0 381).toInt < 3008 from (om_f2687bf499 zd q10 q12 pt1 i32614 pd14 q26 i30519 pt19 q27))) tw_499 tw_500 (by decide +kernel) rfl rfl ⟨show 0 + 1 ≤ 8 * n + 14 from om_2d92e09058, show 8 + (5 + 11) + 0 ≤ 28 * (8 * n + 14) from om_f68798533e⟩ (List.range (cW ad pr N cI cR L1 L2 u24).length) (rg_map _) (nd_range _) 1 rfl rfl rfl rfl hl.1 rfl (Nat.le_of_ble_eq_true rfl) dX2_index_36 ⟨Nat.le_of_ble_eq_true rfl, Nat.le_of_ble_eq_true rfl⟩) hP hD hS hA (fun u29 H locs hw28 hP hD hS => ?_)
  obtain ⟨fr28, ex28, i38128, pd28, rs28⟩ := hw28
  have i38128 : 0 ≤ (u29.1 0 381).toInt ∧ (u29.1 0 381).toInt ≤ 3008 := i38128
  have pd28 : (u29.1 0 381).toInt = (u24.1 0 381).toInt + 1 := pd28
  have rs28 : RS u24 u29 := rs28
  refine W.widen (k := 0) (n := 0) (Nat.le_refl _) (Nat.le_refl _) ?_
  have q31 : (u24.1 0 305).toInt = (u20.1 0 305).toInt := congrArg Int32.toInt ((fr23.2.1 305 (by decide)).trans (show u20.1 0 305 = (u20.1 0 305) by rfl))
  have q32 : (u29.1 0 305).toInt = (u24.1 0 305).toInt := congrArg Int32.toInt ((fr28.2.1 305 (by decide)).trans (show u24.1 0 305 = (u24.1 0 305) by rfl))
  have q33 : (u29.1 0 306).toInt = (u24.1 0 306).toInt := congrArg Int32.toInt ((fr28.2.1 306 (by decide)).trans (show u24.1 0 306 = (u24.1 0 306) by rfl))
  have q34 : (u20.1 0 321).toInt = (u15.1 0 321).toInt := congrArg Int32.toInt ((fr19.2.1 321 (by decide)).trans (show u15.1 0 321 = (u15.1 0 321) by rfl))
  have q35 : (u24.1 0 321).toInt = (u20.1 0 321).toInt := congrArg Int32.toInt ((fr23.2.1 321 (by decide)).trans (show u20.1 0 321 = (u20.1 0 321) by rfl))
  have q36 : (u29.1 0 321).toInt = (u24.1 0 321).toInt := congrArg Int32.toInt ((fr28.2.1 321 (by decide)).trans (show u24.1 0 321 = (u24.1 0 321) by rfl))
  have q37 : (u20.1 0 326).toInt = (u15.1 0 326).toInt := congrArg Int32.toInt ((fr19.2.1 326 (by decide)).trans (show u15.1 0 326 = (u15.1 0 326) by rfl))
  have q38 : (u24.1 0 326).toInt = (u20.1 0 326).toInt := congrArg Int32.toInt ((fr23.2.1 326 (by decide)).trans (show u20.1 0 326 = (u20.1 0 326) by rfl))
  have q39 : (u29.1 0 326).toInt = (u24.1 0 326).toInt := congrArg Int32.toInt ((fr28.2.1 326 (by decide)).trans (show u24.1 0 326 = (u24.1 0 326) by rfl))
  have q40 : (u20.1 0 317).toInt = (u15.1 0 317).toInt := congrArg Int32.toInt ((fr19.2.1 317 (by decide)).trans (show u15.1 0 317 = (u15.1 0 317) by rfl))
  have q41 : (u24.1 0 317).toInt = (u20.1 0 317).toInt := congrArg Int32.toInt ((fr23.2.1 317 (by decide)).trans (show u20.1 0 317 = (u20.1 0 317) by rfl))
  have q42 : (u29.1 0 317).toInt = (u24.1 0 317).toInt := congrArg Int32.toInt ((fr28.2.1 317 (by decide)).trans (show u24.1 0 317 = (u24.1 0 317) by rfl))
  refine W.sz (fun hz => ?_)
  refine vx_ret ?_
  refine W.widen (k := 1) (n := 6) (Nat.le_of_ble_eq_true rfl) (Nat.le_of_ble_eq_true rfl) ?_
  exact W.vret hx hb hr (fun t ht9 hW => ⟨⟨u29, rfl, ⟨(FC.tr (FC.tr (FC.tr (FC.tr (FC.tr (FC.rf _) (FC.up fr1 (by decide) (by decide))) (FC.up fr14 (by decide) (by decide))) (FC.up fr19 (by decide) (by decide))) (FC.up fr23 (by decide) (by decide))) (FC.up fr28 (by decide) (by decide))), ⟨z304, z305, z306, z312, z321, z326, z373, z381, zd, zlb, (Or.inr (⟨u2, ex1, ⟨fr1, i3051, i3061, pj1, pt1, rs1⟩, (Or.inr (⟨u15, (by rw [hn5]; exact ex14), ⟨fr14, i30514, i30614, i32114, i32614, i38114, pd14, pt14, plb14, po14, rs14⟩, (Or.inr (⟨u20, ex19, ⟨fr19, i30519, pt19, rs19⟩, u24, ex23, ⟨fr23, i30623, pj23, rs23⟩, u29, ex28, ⟨fr28, i38128, pd28, rs28⟩, rfl, rfl⟩))⟩))⟩))⟩, (show 0 ≤ (u29.1 0 305).toInt ∧ (u29.1 0 305).toInt ≤ 1500 from (om_fd36284f65 z305 pt1 pt14 i30519 pt19 q31 q32)), (show 0 ≤ (u29.1 0 306).toInt ∧ (u29.1 0 306).toInt ≤ 40 from (om_9c4f3a2e9c i30614 q22 i30623 pj23 q33)), (show 0 ≤ (u29.1 0 321).toInt ∧ (u29.1 0 321).toInt ≤ 501 from (om_ca65317fd6 i32114 q34 q35 q36)), (show 0 ≤ (u29.1 0 326).toInt ∧ (u29.1 0 326).toInt ≤ 420 from (om_ba86cd30dc i32614 q37 q38 q39)), (show 0 ≤ (u29.1 0 381).toInt ∧ (u29.1 0 381).toInt ≤ 3008 from (om_e78eec72e1 i38128)), (show (u29.1 0 381).toInt + (u29.1 0 326).toInt - 2 * (u29.1 0 305).toInt + (4) ≤ (v.1 0 381).toInt + (v.1 0 326).toInt - 2 * (v.1 0 305).toInt from (om_c6f21881d2 q10 q12 pt1 pd14 q37 q26 pt19 q31 q38 q27 q32 q39 pd28)), (show (v.1 0 305).toInt + 3 ≤ (u29.1 0 305).toInt from (om_e17ed45617 pt1 pt14 pt19 q31 q32)), (show (v.1 0 317).toInt ≤ (u29.1 0 317).toInt ∧ (u29.1 0 317).toInt - 4 * (u29.1 0 305).toInt ≤ (v.1 0 317).toInt - 4 * (v.1 0 305).toInt + 0 from (om_95030105cf q13 pt1 plb14 q40 pt19 q31 q41 q32 q42)), (show (u29.1 0 306).toInt = (v.1 0 306).toInt from (om_2e8782e245 pj1 po14 q22 pj23 q33)), (RS.tr (RS.tr (RS.tr (RS.tr (RS.tr RS.rf rs1) rs14) rs19) rs23) rs28)⟩, ⟨by rw [ht9]; exact hP, hD⟩, by rw [ht9]; exact hz⟩, hS.F ht9⟩) hS.2.2 dX2_index_39
theorem om_3d2979e731 {x0 x1 x2 x3 : Int} (h0 : 0 ≤ x0 ∧ x0 ≤ 1500) (h1 : 0 ≤ x1 ∧ x1 ≤ 420) (h2 : 0 ≤ x2 ∧ x2 ≤ 3008) (h3 : x2 + x1 - 2 * x0 ≤ 0) (h4 : x3 = x2) : 0 ≤ x3 ∧ x3 ≤ 3008 := by omega
theorem om_27b720c3fb {x0 x1 x2 x3 x4 x5 : Int} (h0 : x0 + x1 - 2 * x2 ≤ 0) (h1 : x3 = x1) (h2 : x4 = x0) (h3 : x5 = x2 + 1) : x4 + x3 - 2 * x5 ≤ 0 := by omega
theorem om_9b72727de8 {n0 n1 : Nat} (h0 : n0 = n1 + 1) : (8 * n1 + 16) + 1 ≤ 8 * n0 + 14 := by omega
theorem om_4ab10b36cd {n0 n1 : Nat} (h0 : n0 = n1 + 1) : 8 + (2 + 11) + 28 * (8 * n1 + 16) ≤ 28 * (8 * n0 + 14) := by omega
theorem om_bfd497b3b5 {x0 x1 x2 : Int} (h0 : 0 ≤ x0 ∧ x0 ≤ 40) (h1 : x1 = x0 + 1) (h2 : x2 = x1) : 1 ≤ x2 := by omega
theorem om_23b4803517 {x0 x1 x2 x3 x4 x5 x6 x7 x8 x9 : Int} (h0 : x0 + x1 - 2 * x2 ≤ 0) (h1 : x3 = x1) (h2 : x4 = x0) (h3 : x5 = x2 + 1) (h4 : 0 ≤ x6 ∧ x6 ≤ 1500) (h5 : 0 ≤ x7 ∧ x7 ≤ 420) (h6 : 0 ≤ x8 ∧ x8 ≤ 3008) (h7 : x8 + x7 - 2 * x6 + (1) ≤ x4 + x3 - 2 * x5) (h8 : x9 = x8) : 0 ≤ x9 ∧ x9 ≤ 3008 := by omega
theorem om_d8c0f8fcb7 {x0 x1 x2 x3 x4 x5 x6 x7 x8 x9 : Int} (h0 : x0 + x1 - 2 * x2 ≤ 0) (h1 : x3 = x1) (h2 : x4 = x0) (h3 : x5 = x2 + 1) (h4 : 0 ≤ x6 ∧ x6 ≤ 1500) (h5 : 0 ≤ x7 ∧ x7 ≤ 420) (h6 : x8 + x7 - 2 * x6 + (1) ≤ x4 + x3 - 2 * x5) (h7 : x9 = x8) : x9 < 3008 := by omega
theorem om_e461f9959c {x0 x1 x2 x3 x4 : Int} (h0 : 0 ≤ x0 ∧ x0 ≤ 1500) (h1 : x1 = x0 + 1) (h2 : 0 ≤ x2 ∧ x2 ≤ 1500) (h3 : x1 + 1 ≤ x2) (h4 : x3 = x2) (h5 : x4 = x3) : 0 ≤ x4 ∧ x4 ≤ 1500 := by omega
theorem om_29de771f47 {x0 x1 x2 : Int} (h0 : 0 ≤ x0 ∧ x0 ≤ 40) (h1 : 0 ≤ x1 ∧ x1 ≤ 40) (h2 : x1 = x0 - 1) (h3 : x2 = x1) : 0 ≤ x2 ∧ x2 ≤ 40 := by omega
theorem om_dc1539d5b3 {x0 x1 x2 x3 x4 x5 x6 x7 x8 x9 x10 : Int} (h0 : x0 + x1 - 2 * x2 ≤ 0) (h1 : x3 = x1) (h2 : x4 = x0) (h3 : x5 = x2 + 1) (h4 : 0 ≤ x6 ∧ x6 ≤ 1500) (h5 : 0 ≤ x7 ∧ x7 ≤ 420) (h6 : x8 + x7 - 2 * x6 + (1) ≤ x4 + x3 - 2 * x5) (h7 : x9 = x8) (h8 : 0 ≤ x10 ∧ x10 ≤ 3008) (h9 : x10 = x9 + 1) : 0 ≤ x10 ∧ x10 ≤ 3008 := by omega
theorem om_0c3b2e34c6 {x0 x1 x2 x3 x4 x5 x6 x7 x8 x9 x10 x11 x12 x13 x14 : Int} (h0 : x0 = x1) (h1 : x2 = x3) (h2 : x4 = x5 + 1) (h3 : x6 + x7 - 2 * x8 + (1) ≤ x2 + x0 - 2 * x4) (h4 : x9 = x8) (h5 : x10 = x7) (h6 : x11 = x6) (h7 : x12 = x9) (h8 : x13 = x10) (h9 : x14 = x11 + 1) : x14 + x13 - 2 * x12 + (2) ≤ x3 + x1 - 2 * x5 := by omega
theorem om_b293206cae {x0 x1 x2 x3 x4 : Int} (h0 : x0 = x1 + 1) (h1 : x0 + 1 ≤ x2) (h2 : x3 = x2) (h3 : x4 = x3) : x1 + 2 ≤ x4 := by omega
theorem om_611c743f53 {x0 x1 x2 x3 x4 x5 x6 x7 x8 x9 : Int} (h0 : x0 = x1) (h1 : x2 = x3 + 1) (h2 : x0 ≤ x4 ∧ x4 - 4 * x5 ≤ x0 - 4 * x2 + 0) (h3 : x6 = x5) (h4 : x7 = x4) (h5 : x8 = x6) (h6 : x9 = x7) : x1 ≤ x9 ∧ x9 - 4 * x8 ≤ x1 - 4 * x3 + 0 := by omega
theorem om_00cb03f044 {x0 x1 x2 x3 x4 : Int} (h0 : x0 = x1 + 1) (h1 : x2 = x0) (h2 : x3 = x2 - 1) (h3 : x4 = x3) : x4 = x1 := by omega
set_option maxHeartbeats 16000000 in
set_option maxRecDepth 100000 in
theorem c_x_X2_unary (l : Launch) (n : Nat) (ihO : ∀ m, n = m + 1 → Cq_operand l m) (dC : Nat → ClassId) (dI : Nat → Nat → Nat) (cI cB cZ cJ cR : ClassId) (tb : Nat → Nat) (sz : Nat) (ad : Nat → Nat) (pr : Int32 → Nat) (N : Nat) (L1 L2 : List Nat) (v : MS) (pa : Int32) (ps : Int32) (z304 : 0 ≤ (v.1 0 304).toInt ∧ (v.1 0 304).toInt ≤ 1503) (z305 : 0 ≤ (v.1 0 305).toInt ∧ (v.1 0 305).toInt ≤ 1500) (z306 : 0 ≤ (v.1 0 306).toInt ∧ (v.1 0 306).toInt ≤ 40) (z312 : 0 ≤ (v.1 0 312).toInt ∧ (v.1 0 312).toInt ≤ 500) (z321 : 0 ≤ (v.1 0 321).toInt ∧ (v.1 0 321).toInt ≤ 501) (z326 : 0 ≤ (v.1 0 326).toInt ∧ (v.1 0 326).toInt ≤ 420) (z373 : 0 ≤ (v.1 0 373).toInt ∧ (v.1 0 373).toInt ≤ 4000) (z381 : 0 ≤ (v.1 0 381).toInt ∧ (v.1 0 381).toInt ≤ 3008) (hL1 : L1.length = 40) (hL2 : L2.length = 60) (rp : RP v) (hps : pr ps = ad 908) (es300 : (v.1 0 300) = ps) (es310 : (v.1 0 310) = ps) (hst : l.stackTraces = false) (zd : (v.1 0 381).toInt + (v.1 0 326).toInt - 2 * (v.1 0 305).toInt ≤ 0) (zlb : 0 ≤ (v.1 0 317).toInt ∧ (v.1 0 317).toInt - 4 * (v.1 0 305).toInt ≤ 8) (zn : 40 ≤ (v.1 0 306).toInt + (n : Int)) : vx_Met l yX2_unary (Cond.code yX2_unary cX2_unary 2 none :: tw_W) ({ frames := 8 * n + 14, cells := 1, slots := 6, locals := 28 * (8 * n + 14) }) (pc_ (dC, dI) (tyS cI cB cZ cJ cR) tb (cW ad pr N cI cR L1 L2 v) sz [.ref (ad 902), .int pa]) (qvz_ (dC, dI) (cW ad pr N cI cR L1 L2 v) sz (fun (u : MS) => FC [305, 306, 307, 314, 315, 317, 321, 326, 381] [0, 316, 318, 319, 320, 324, 325, 378, 379, 380] v u ∧ (Q_x_X2_unary L1 L2 (pO L1 L2 n) v pa false u) ∧ (0 ≤ (u.1 0 305).toInt ∧ (u.1 0 305).toInt ≤ 1500) ∧ (0 ≤ (u.1 0 306).toInt ∧ (u.1 0 306).toInt ≤ 40) ∧ (0 ≤ (u.1 0 321).toInt ∧ (u.1 0 321).toInt ≤ 501) ∧ (0 ≤ (u.1 0 326).toInt ∧ (u.1 0 326).toInt ≤ 420) ∧ (0 ≤ (u.1 0 381).toInt ∧ (u.1 0 381).toInt ≤ 3008) ∧ ((u.1 0 381).toInt + (u.1 0 326).toInt - 2 * (u.1 0 305).toInt + (2) ≤ (v.1 0 381).toInt + (v.1 0 326).toInt - 2 * (v.1 0 305).toInt) ∧ ((v.1 0 305).toInt + 2 ≤ (u.1 0 305).toInt) ∧ ((v.1 0 317).toInt ≤ (u.1 0 317).toInt ∧ (u.1 0 317).toInt - 4 * (u.1 0 305).toInt ≤ (v.1 0 317).toInt - 4 * (v.1 0 305).toInt + 0) ∧ ((u.1 0 306).toInt = (v.1 0 306).toInt) ∧ (RS v u)) (fun (u : MS) => (cW ad pr N cI cR L1 L2 u))) (qxc (dC, dI) (cW ad pr N cI cR L1 L2 v) sz (fun (u : MS) => (cW ad pr N cI cR L1 L2 u)) (fun (u : MS) => FC xfl xal v u ∧ (u.1 0 308).toInt ≠ 0 ∧ (Q_x_X2_unary L1 L2 (pO L1 L2 n) v pa true u))) 1 6 (va_A (cW ad pr N cI cR L1 L2 v) sz) := by
  refine vx_ofW (cc := cX2_unary) (maxL := 2) (ret := none) (by decide) rfl ?_
  intro p e s m args below meth c s₁ B hml hnt hv
  obtain ⟨rfl, hsz, hP, hKK, hD0, hFx⟩ := hv
  have hK := hKK.1
  have hx := B.exec
  have hb := B.bytes
  have hr := B.returns
  have ht : ∀ w ∈ tw_W, w.before _ s = true := fun w h => atoms_spec (ws := Cond.code yX2_unary cX2_unary 2 none :: tw_W) B.pre w (List.mem_cons_of_mem _ h)
  have hown : s.vm.findClass RX2 = some m.cls := findClass_of_methodNamed B.named
  have hlocks := B.notSynchronized
  subst hsz
  unfold qvz_ qxc
  have hD := hD0.self (sz := s.heap.size)
  generalize hAe : va_A (cW ad pr N cI cR L1 L2 v) s.heap.size = A at hD hFx ⊢
  have hA : ∀ q : Nat, s.heap.size ≤ q → A q := fun q h => by rw [← hAe]; exact Or.inr h
  have hS : va_S A s.heap s.heap [] := va_S.rf
  have hl := lv_entry ([.ref (ad 902), .int pa]) (n := 2) (Nat.le_of_ble_eq_true rfl)
  rw [lg_entry_eq]
  generalize (lg_sl ([.ref (ad 902), .int pa]) ++ List.replicate (2 - (lg_sl ([.ref (ad 902), .int pa])).length) Slot.unset).toArray = ls at hl ⊢
  have hl : lv_has ls 2 [(0, .ref (ad 902)), (1, .int pa)] := hl
  refine lv_aload_n hx hb dX2_unary_0 rfl (lv_at hl 0 rfl) ?_
  refine va_get (D := (dC, dI)) (ci := 6) (fs := oF_X2 ad pr v) (v := .ref (ad 900)) (C := RX2) (T := TX2) (N := 5) hx hb ht itX2 hown hK hP 2 rfl rfl 0 (by decide) (ht _ tw_509) (fun _ h9 => h9) rfl dX2_unary_1 ?_
  refine W.sz (fun hz9 => ?_)
  refine czx_v (rx_Vk (n := 0) (As := []) (rest := []) hx hb hml hown ht hKK hFx hP hD hS hA (c_x_X9_open l dC dI cI cB cZ cJ cR tb s.heap.size ad pr N L1 L2 v ps (show 0 ≤ (v.1 0 304).toInt ∧ (v.1 0 304).toInt ≤ 1503 from (om_c99648273b z304)) (show 0 ≤ (v.1 0 305).toInt ∧ (v.1 0 305).toInt ≤ 1500 from (om_7897b4ccef z305)) (show 0 ≤ (v.1 0 306).toInt ∧ (v.1 0 306).toInt ≤ 40 from (om_7eaf33e007 z306)) (show 0 ≤ (v.1 0 373).toInt ∧ (v.1 0 373).toInt ≤ 4000 from (om_c74a68af25 z373)) (show pr ps = ad 908 from hps) (show (v.1 0 300) = ps from es300) (show l.stackTraces = false from hst)) tw_524 tw_525 (by decide +kernel) rfl rfl ⟨show 7 + 1 ≤ 8 * n + 14 from om_46126d3ba0, show 8 + (1 + 11) + 104 ≤ 28 * (8 * n + 14) from om_6017b980b8⟩ (List.range (cW ad pr N cI cR L1 L2 v).length) (rg_map _) (nd_range _) 0 rfl rfl rfl rfl hl.1 rfl (Nat.le_of_ble_eq_true rfl) dX2_unary_4 ⟨Nat.le_of_ble_eq_true rfl, Nat.le_of_ble_eq_true rfl⟩) hP hD hS hA (fun u9 ce9 q9 H locs hx9 hP hD hS hc9 hv9 hf9 => ?_) (fun u2 H locs hw1 hP hD hS hz8 => ?_)
  · exact vx_out (fun x h9 => (hnt x h9).elim) hlocks hc9 hv9 hf9 (fun t9 ht9 hv8 => ⟨u9, ⟨FC.tr (FC.rf _) hx9.1, hx9.2.1, ⟨z304, z305, z306, z312, z321, z326, z373, z381, zd, zlb, (Or.inl ⟨u9, hx9.2.2, rfl, rfl⟩)⟩⟩, ⟨rfl, by rw [ht9]; exact hP, hD⟩, hS.F ht9⟩) hS.2.2 (Nat.le_refl _) (Nat.le_refl _)
  refine W.shrink (hz8.trans hz9) ?_
  obtain ⟨fr1, ex1, i3051, i3061, pj1, pt1, rs1⟩ := hw1
  refine lv_aload_n hx hb dX2_unary_7 rfl (lv_at hl 0 rfl) ?_
  refine lv_iconst (v := 0) hx hb dX2_unary_8 (by decide) ?_
  obtain ⟨n4, hn5⟩ : ∃ m, n = m + 1 := ex_z (om_ca6f0c0f01 zn i3061 pj1)
  have q6 : (u2.1 0 304).toInt = (v.1 0 304).toInt := congrArg Int32.toInt ((fr1.2.1 304 (by decide)).trans (show v.1 0 304 = (v.1 0 304) by rfl))
  have q7 : (u2.1 0 312).toInt = (v.1 0 312).toInt := congrArg Int32.toInt ((fr1.2.1 312 (by decide)).trans (show v.1 0 312 = (v.1 0 312) by rfl))
  have q8 : (u2.1 0 321).toInt = (v.1 0 321).toInt := congrArg Int32.toInt ((fr1.2.1 321 (by decide)).trans (show v.1 0 321 = (v.1 0 321) by rfl))
  have q10 : (u2.1 0 326).toInt = (v.1 0 326).toInt := congrArg Int32.toInt ((fr1.2.1 326 (by decide)).trans (show v.1 0 326 = (v.1 0 326) by rfl))
  have q11 : (u2.1 0 373).toInt = (v.1 0 373).toInt := congrArg Int32.toInt ((fr1.2.1 373 (by decide)).trans (show v.1 0 373 = (v.1 0 373) by rfl))
  have q12 : (u2.1 0 381).toInt = (v.1 0 381).toInt := congrArg Int32.toInt ((fr1.2.1 381 (by decide)).trans (show v.1 0 381 = (v.1 0 381) by rfl))
  have q13 : (u2.1 0 317).toInt = (v.1 0 317).toInt := congrArg Int32.toInt ((fr1.2.1 317 (by decide)).trans (show v.1 0 317 = (v.1 0 317) by rfl))
  refine W.sz (fun hz9 => ?_)
  refine czx_i (rx_Vk (n := 1) (As := [.int 0]) (rest := []) hx hb hml hown ht hKK hFx hP hD hS hA (ihO n4 hn5 dC dI cI cB cZ cJ cR tb H.size ad pr N L1 L2 u2 (0 : Int32) ps (show 0 ≤ (u2.1 0 304).toInt ∧ (u2.1 0 304).toInt ≤ 1503 from (om_73002589c1 z304 q6)) (show 0 ≤ (u2.1 0 305).toInt ∧ (u2.1 0 305).toInt ≤ 1500 from (om_89213937cb z305 i3051 pt1)) (show 0 ≤ (u2.1 0 306).toInt ∧ (u2.1 0 306).toInt ≤ 40 from (om_31a8ca9d36 z306 i3061 pj1)) (show 0 ≤ (u2.1 0 312).toInt ∧ (u2.1 0 312).toInt ≤ 500 from (om_f8376ff89c z312 q7)) (show 0 ≤ (u2.1 0 321).toInt ∧ (u2.1 0 321).toInt ≤ 501 from (om_ff27494c0e z321 q8)) (show 0 ≤ (u2.1 0 326).toInt ∧ (u2.1 0 326).toInt ≤ 420 from (om_8ed0dedb19 z326 q10)) (show 0 ≤ (u2.1 0 373).toInt ∧ (u2.1 0 373).toInt ≤ 4000 from (om_9084c127ed z373 q11)) (show 0 ≤ (u2.1 0 381).toInt ∧ (u2.1 0 381).toInt ≤ 3008 from (om_3d2979e731 z305 z326 z381 zd q12)) (show L1.length = 40 from hL1) (show L2.length = 60 from hL2) (show RP u2 from ((show FC [305, 306, 307, 314, 315, 317, 321, 326, 381] [0, 316, 318, 319, 320, 324, 325, 378, 379, 380] v u2 from (FC.tr (FC.rf _) (FC.up fr1 (by decide) (by decide)))).1 rp)) (show pr ps = ad 908 from hps) (show (u2.1 0 300) = ps from (Eq.trans (fr1.2.1 300 (by decide)) es300)) (show (u2.1 0 310) = ps from (Eq.trans (fr1.2.1 310 (by decide)) es310)) (show l.stackTraces = false from hst) (show (u2.1 0 381).toInt + (u2.1 0 326).toInt - 2 * (u2.1 0 305).toInt ≤ 0 from (om_27b720c3fb zd q10 q12 pt1)) (show 0 ≤ (u2.1 0 317).toInt ∧ (u2.1 0 317).toInt - 4 * (u2.1 0 305).toInt ≤ 8 from (om_acd7fdc17b zlb q13 pt1)) (show 40 ≤ (u2.1 0 306).toInt + (n4 : Int) from (om_5c65d2983c zn pj1 hn5))) tw_530 tw_531 (by decide +kernel) rfl rfl ⟨show (8 * n4 + 16) + 1 ≤ 8 * n + 14 from (om_9b72727de8 hn5), show 8 + (2 + 11) + 28 * (8 * n4 + 16) ≤ 28 * (8 * n + 14) from (om_4ab10b36cd hn5)⟩ (List.range (cW ad pr N cI cR L1 L2 u2).length) (rg_map _) (nd_range _) 2 rfl rfl rfl rfl hl.1 rfl (Nat.le_of_ble_eq_true rfl) dX2_unary_9 ⟨Nat.le_of_ble_eq_true rfl, Nat.le_of_ble_eq_true rfl⟩) hP hD hS hA (fun u9 ce9 q9 H locs hx9 hP hD hS hc9 hv9 hf9 => ?_) (fun r16 u15 H locs hw14 hP hD hS hz8 => ?_)
  · exact vx_out (fun x h9 => (hnt x h9).elim) hlocks hc9 hv9 hf9 (fun t9 ht9 hv8 => ⟨u9, ⟨FC.tr (FC.tr (FC.rf _) (FC.up fr1 (by decide) (by decide))) hx9.1, hx9.2.1, ⟨z304, z305, z306, z312, z321, z326, z373, z381, zd, zlb, (Or.inr (⟨u2, ex1, ⟨fr1, i3051, i3061, pj1, pt1, rs1⟩, (Or.inl ⟨u9, (by rw [hn5]; exact hx9.2.2), rfl, rfl⟩)⟩))⟩⟩, ⟨rfl, by rw [ht9]; exact hP, hD⟩, hS.F ht9⟩) hS.2.2 (Nat.le_refl _) (Nat.le_refl _)
  refine W.shrink (hz8.trans hz9) ?_
  obtain ⟨fr14, ex14, i30514, i30614, i32114, i32614, i38114, pd14, pt14, plb14, po14, rs14, bz14⟩ := hw14
  have i30514 : 0 ≤ (u15.1 0 305).toInt ∧ (u15.1 0 305).toInt ≤ 1500 := i30514
  have i30614 : 0 ≤ (u15.1 0 306).toInt ∧ (u15.1 0 306).toInt ≤ 40 := i30614
  have i32114 : 0 ≤ (u15.1 0 321).toInt ∧ (u15.1 0 321).toInt ≤ 501 := i32114
  have i32614 : 0 ≤ (u15.1 0 326).toInt ∧ (u15.1 0 326).toInt ≤ 420 := i32614
  have i38114 : 0 ≤ (u15.1 0 381).toInt ∧ (u15.1 0 381).toInt ≤ 3008 := i38114
  have pd14 : (u15.1 0 381).toInt + (u15.1 0 326).toInt - 2 * (u15.1 0 305).toInt + (1) ≤ (u2.1 0 381).toInt + (u2.1 0 326).toInt - 2 * (u2.1 0 305).toInt := pd14
  have pt14 : (u2.1 0 305).toInt + 1 ≤ (u15.1 0 305).toInt := pt14
  have plb14 : (u2.1 0 317).toInt ≤ (u15.1 0 317).toInt ∧ (u15.1 0 317).toInt - 4 * (u15.1 0 305).toInt ≤ (u2.1 0 317).toInt - 4 * (u2.1 0 305).toInt + 0 := plb14
  have po14 : (u15.1 0 306).toInt = (u2.1 0 306).toInt := po14
  have rs14 : RS u2 u15 := rs14
  have bz14 : r16 = 0 ∨ r16 = 1 := bz14
  refine lv_pop hx hb dX2_unary_12 rfl ?_
  refine lv_aload_n hx hb dX2_unary_13 rfl (lv_at hl 0 rfl) ?_
  refine va_get (D := (dC, dI)) (ci := 6) (fs := oF_X2 ad pr u15) (v := .ref (ad 900)) (C := RX2) (T := TX2) (N := 5) hx hb ht itX2 hown hK hP 2 rfl rfl 0 (by decide) (ht _ tw_509) (fun _ h9 => h9) rfl dX2_unary_14 ?_
  refine cu_v (rn_Vk (n := 0) (As := []) (rest := []) hx hb hml hown ht hKK hFx hP hD hS hA (c_x_X9_close l dC dI cI cB cZ cJ cR tb H.size ad pr N L1 L2 u15  (show 0 ≤ (u15.1 0 306).toInt ∧ (u15.1 0 306).toInt ≤ 40 from (om_7eaf33e007 i30614)) (show 1 ≤ (u15.1 0 306).toInt from (om_bfd497b3b5 z306 pj1 po14))) tw_528 tw_529 (by decide +kernel) rfl rfl ⟨show 0 + 1 ≤ 8 * n + 14 from om_2d92e09058, show 8 + (1 + 11) + 0 ≤ 28 * (8 * n + 14) from om_289622e6d2⟩ (List.range (cW ad pr N cI cR L1 L2 u15).length) (rg_map _) (nd_range _) 0 rfl rfl rfl rfl hl.1 rfl (Nat.le_of_ble_eq_true rfl) dX2_unary_17 ⟨Nat.le_of_ble_eq_true rfl, Nat.le_of_ble_eq_true rfl⟩) hP hD hS hA (fun u18 H locs hw17 hP hD hS => ?_)
  obtain ⟨fr17, ex17, i30617, pj17, rs17⟩ := hw17
  have i30617 : 0 ≤ (u18.1 0 306).toInt ∧ (u18.1 0 306).toInt ≤ 40 := i30617
  have pj17 : (u18.1 0 306).toInt = (u15.1 0 306).toInt - 1 := pj17
  have rs17 : RS u15 u18 := rs17
  refine W.widen (k := 0) (n := 0) (Nat.le_refl _) (Nat.le_refl _) ?_
  refine lv_aload_n hx hb dX2_unary_20 rfl (lv_at hl 0 rfl) ?_
  refine va_get (D := (dC, dI)) (ci := 6) (fs := oF_X2 ad pr u18) (v := .ref (ad 901)) (C := RX2) (T := TX2) (N := 5) hx hb ht itX2 hown hK hP 2 rfl rfl 1 (by decide) (ht _ tw_498) (fun _ h9 => h9) rfl dX2_unary_21 ?_
  refine lv_iload_n hx hb dX2_unary_24 rfl (lv_at hl 1 rfl) ?_
  refine lv_iconst (v := 0) hx hb dX2_unary_25 (by decide) ?_
  refine lv_iconst (v := 0) hx hb dX2_unary_26 (by decide) ?_
  have q20 : (u18.1 0 381).toInt = (u15.1 0 381).toInt := congrArg Int32.toInt ((fr17.2.1 381 (by decide)).trans (show u15.1 0 381 = (u15.1 0 381) by rfl))
  refine cu_v (rn_Vk (n := 3) (As := [.int pa, .int 0, .int 0]) (rest := []) hx hb hml hown ht hKK hFx hP hD hS hA (c_x_X1_add l dC dI cI cB cZ cJ cR tb H.size ad pr N L1 L2 u18 pa (0 : Int32) (0 : Int32) ps (show 0 ≤ (u18.1 0 381).toInt ∧ (u18.1 0 381).toInt ≤ 3008 from (om_23b4803517 zd q10 q12 pt1 i30514 i32614 i38114 pd14 q20)) (show pr ps = ad 908 from hps) (show (u18.1 0 310) = ps from (Eq.trans (fr17.2.1 310 (by decide)) (Eq.trans (fr14.2.1 310 (by decide)) (Eq.trans (fr1.2.1 310 (by decide)) es310)))) (show (u18.1 0 381).toInt < 3008 from (om_d8c0f8fcb7 zd q10 q12 pt1 i30514 i32614 pd14 q20))) tw_499 tw_500 (by decide +kernel) rfl rfl ⟨show 0 + 1 ≤ 8 * n + 14 from om_2d92e09058, show 8 + (5 + 11) + 0 ≤ 28 * (8 * n + 14) from om_f68798533e⟩ (List.range (cW ad pr N cI cR L1 L2 u18).length) (rg_map _) (nd_range _) 1 rfl rfl rfl rfl hl.1 rfl (Nat.le_of_ble_eq_true rfl) dX2_unary_27 ⟨Nat.le_of_ble_eq_true rfl, Nat.le_of_ble_eq_true rfl⟩) hP hD hS hA (fun u22 H locs hw21 hP hD hS => ?_)
  obtain ⟨fr21, ex21, i38121, pd21, rs21⟩ := hw21
  have i38121 : 0 ≤ (u22.1 0 381).toInt ∧ (u22.1 0 381).toInt ≤ 3008 := i38121
  have pd21 : (u22.1 0 381).toInt = (u18.1 0 381).toInt + 1 := pd21
  have rs21 : RS u18 u22 := rs21
  refine W.widen (k := 0) (n := 0) (Nat.le_refl _) (Nat.le_refl _) ?_
  have q24 : (u18.1 0 305).toInt = (u15.1 0 305).toInt := congrArg Int32.toInt ((fr17.2.1 305 (by decide)).trans (show u15.1 0 305 = (u15.1 0 305) by rfl))
  have q25 : (u22.1 0 305).toInt = (u18.1 0 305).toInt := congrArg Int32.toInt ((fr21.2.1 305 (by decide)).trans (show u18.1 0 305 = (u18.1 0 305) by rfl))
  have q26 : (u22.1 0 306).toInt = (u18.1 0 306).toInt := congrArg Int32.toInt ((fr21.2.1 306 (by decide)).trans (show u18.1 0 306 = (u18.1 0 306) by rfl))
  have q27 : (u18.1 0 321).toInt = (u15.1 0 321).toInt := congrArg Int32.toInt ((fr17.2.1 321 (by decide)).trans (show u15.1 0 321 = (u15.1 0 321) by rfl))
  have q28 : (u22.1 0 321).toInt = (u18.1 0 321).toInt := congrArg Int32.toInt ((fr21.2.1 321 (by decide)).trans (show u18.1 0 321 = (u18.1 0 321) by rfl))
  have q29 : (u18.1 0 326).toInt = (u15.1 0 326).toInt := congrArg Int32.toInt ((fr17.2.1 326 (by decide)).trans (show u15.1 0 326 = (u15.1 0 326) by rfl))
  have q30 : (u22.1 0 326).toInt = (u18.1 0 326).toInt := congrArg Int32.toInt ((fr21.2.1 326 (by decide)).trans (show u18.1 0 326 = (u18.1 0 326) by rfl))
  have q31 : (u18.1 0 317).toInt = (u15.1 0 317).toInt := congrArg Int32.toInt ((fr17.2.1 317 (by decide)).trans (show u15.1 0 317 = (u15.1 0 317) by rfl))
  have q32 : (u22.1 0 317).toInt = (u18.1 0 317).toInt := congrArg Int32.toInt ((fr21.2.1 317 (by decide)).trans (show u18.1 0 317 = (u18.1 0 317) by rfl))
  refine W.sz (fun hz => ?_)
  refine vx_ret ?_
  refine W.widen (k := 1) (n := 6) (Nat.le_of_ble_eq_true rfl) (Nat.le_of_ble_eq_true rfl) ?_
  exact W.vret hx hb hr (fun t ht9 hW => ⟨⟨u22, rfl, ⟨(FC.tr (FC.tr (FC.tr (FC.tr (FC.rf _) (FC.up fr1 (by decide) (by decide))) (FC.up fr14 (by decide) (by decide))) (FC.up fr17 (by decide) (by decide))) (FC.up fr21 (by decide) (by decide))), ⟨z304, z305, z306, z312, z321, z326, z373, z381, zd, zlb, (Or.inr (⟨u2, ex1, ⟨fr1, i3051, i3061, pj1, pt1, rs1⟩, (Or.inr (⟨r16, u15, (by rw [hn5]; exact ex14), ⟨fr14, i30514, i30614, i32114, i32614, i38114, pd14, pt14, plb14, po14, rs14⟩, u18, ex17, ⟨fr17, i30617, pj17, rs17⟩, u22, ex21, ⟨fr21, i38121, pd21, rs21⟩, rfl, rfl⟩))⟩))⟩, (show 0 ≤ (u22.1 0 305).toInt ∧ (u22.1 0 305).toInt ≤ 1500 from (om_e461f9959c z305 pt1 i30514 pt14 q24 q25)), (show 0 ≤ (u22.1 0 306).toInt ∧ (u22.1 0 306).toInt ≤ 40 from (om_29de771f47 i30614 i30617 pj17 q26)), (show 0 ≤ (u22.1 0 321).toInt ∧ (u22.1 0 321).toInt ≤ 501 from (om_4dfa815534 i32114 q27 q28)), (show 0 ≤ (u22.1 0 326).toInt ∧ (u22.1 0 326).toInt ≤ 420 from (om_9591dea625 i32614 q29 q30)), (show 0 ≤ (u22.1 0 381).toInt ∧ (u22.1 0 381).toInt ≤ 3008 from (om_dc1539d5b3 zd q10 q12 pt1 i30514 i32614 pd14 q20 i38121 pd21)), (show (u22.1 0 381).toInt + (u22.1 0 326).toInt - 2 * (u22.1 0 305).toInt + (2) ≤ (v.1 0 381).toInt + (v.1 0 326).toInt - 2 * (v.1 0 305).toInt from (om_0c3b2e34c6 q10 q12 pt1 pd14 q24 q29 q20 q25 q30 pd21)), (show (v.1 0 305).toInt + 2 ≤ (u22.1 0 305).toInt from (om_b293206cae pt1 pt14 q24 q25)), (show (v.1 0 317).toInt ≤ (u22.1 0 317).toInt ∧ (u22.1 0 317).toInt - 4 * (u22.1 0 305).toInt ≤ (v.1 0 317).toInt - 4 * (v.1 0 305).toInt + 0 from (om_611c743f53 q13 pt1 plb14 q24 q31 q25 q32)), (show (u22.1 0 306).toInt = (v.1 0 306).toInt from (om_00cb03f044 pj1 po14 pj17 q26)), (RS.tr (RS.tr (RS.tr (RS.tr RS.rf rs1) rs14) rs17) rs21)⟩, ⟨by rw [ht9]; exact hP, hD⟩, by rw [ht9]; exact hz⟩, hS.F ht9⟩) hS.2.2 dX2_unary_30
