theorem dX9_strength_0 : decode cX9_strength 0 = .ok (.iload_n 0, 1) := by decide +kernel
theorem dX9_strength_1 : decode cX9_strength 1 = .ok (.bipush 53, 2) := by decide +kernel
theorem dX9_strength_3 : decode cX9_strength 3 = .ok (.isub, 1) := by decide +kernel
theorem dX9_strength_4 : decode cX9_strength 4 = .ok (.istore_n 1, 1) := by decide +kernel
theorem dX9_strength_5 : decode cX9_strength 5 = .ok (.iload_n 1, 1) := by decide +kernel
theorem dX9_strength_6 : decode cX9_strength 6 = .ok (.ifCond .lt 19, 3) := by decide +kernel
theorem dX9_strength_25 : decode cX9_strength 25 = .ok (.iconst 0, 1) := by decide +kernel
theorem dX9_strength_26 : decode cX9_strength 26 = .ok (.ireturn, 1) := by decide +kernel
theorem dX9_strength_9 : decode cX9_strength 9 = .ok (.iload_n 1, 1) := by decide +kernel
theorem dX9_strength_10 : decode cX9_strength 10 = .ok (.getstatic 25, 3) := by decide +kernel
theorem tw_408 : (.fieldLink RX9 25 "PocketCompiler$Tokens" "STRENGTHS" "[I" : Cond) ∈ tw_W := tw_in (t8_4 (List.mem_of_getElem? (i := 158) rfl)) rfl
theorem dX9_strength_13 : decode cX9_strength 13 = .ok (.arraylength, 1) := by decide +kernel
theorem dX9_strength_14 : decode cX9_strength 14 = .ok (.if_icmp .ge 11, 3) := by decide +kernel
theorem dX9_strength_17 : decode cX9_strength 17 = .ok (.getstatic 25, 3) := by decide +kernel
theorem dX9_strength_20 : decode cX9_strength 20 = .ok (.iload_n 1, 1) := by decide +kernel
theorem dX9_strength_21 : decode cX9_strength 21 = .ok (.iaload, 1) := by decide +kernel
theorem dX9_strength_22 : decode cX9_strength 22 = .ok (.goto 4, 3) := by decide +kernel
theorem dX9_digitValue_0 : decode cX9_digitValue 0 = .ok (.iload_n 0, 1) := by decide +kernel
theorem dX9_digitValue_1 : decode cX9_digitValue 1 = .ok (.invokestatic 73, 3) := by decide +kernel
theorem tw_409 : (.code yX9_isDigit cX9_isDigit 1 (some .boolean) : Cond) ∈ tw_W := tw_in (t8_3 (List.mem_of_getElem? (i := 73) rfl)) rfl
theorem tw_410 : ∀ w ∈ ([.methodLink RX9 73 yX9_isDigit, .static yX9_isDigit, .initialized yX9_isDigit.cls] : List Cond), w ∈ tw_W := al_c (tw_in (t8_3 (List.mem_of_getElem? (i := 71) rfl)) rfl) (al_c (tw_in (t8_3 (List.mem_of_getElem? (i := 72) rfl)) rfl) (al_c (tw_in (t8_1 (List.mem_of_getElem? (i := 10) rfl)) rfl) al_n))
theorem dX9_digitValue_4 : decode cX9_digitValue 4 = .ok (.ifCond .eq 8, 3) := by decide +kernel
theorem dX9_digitValue_12 : decode cX9_digitValue 12 = .ok (.iload_n 1, 1) := by decide +kernel
theorem dX9_digitValue_13 : decode cX9_digitValue 13 = .ok (.bipush 16, 2) := by decide +kernel
theorem dX9_digitValue_15 : decode cX9_digitValue 15 = .ok (.if_icmp .ne 23, 3) := by decide +kernel
theorem dX9_digitValue_38 : decode cX9_digitValue 38 = .ok (.iload_n 1, 1) := by decide +kernel
theorem dX9_digitValue_39 : decode cX9_digitValue 39 = .ok (.bipush 16, 2) := by decide +kernel
theorem dX9_digitValue_41 : decode cX9_digitValue 41 = .ok (.if_icmp .ne 25, 3) := by decide +kernel
theorem dX9_digitValue_66 : decode cX9_digitValue 66 = .ok (.iconst (-1), 1) := by decide +kernel
theorem dX9_digitValue_67 : decode cX9_digitValue 67 = .ok (.ireturn, 1) := by decide +kernel
theorem dX9_digitValue_18 : decode cX9_digitValue 18 = .ok (.iload_n 0, 1) := by decide +kernel
theorem dX9_digitValue_19 : decode cX9_digitValue 19 = .ok (.bipush 97, 2) := by decide +kernel
theorem dX9_digitValue_21 : decode cX9_digitValue 21 = .ok (.if_icmp .lt 17, 3) := by decide +kernel
theorem dX9_digitValue_44 : decode cX9_digitValue 44 = .ok (.iload_n 0, 1) := by decide +kernel
theorem dX9_digitValue_45 : decode cX9_digitValue 45 = .ok (.bipush 65, 2) := by decide +kernel
theorem dX9_digitValue_47 : decode cX9_digitValue 47 = .ok (.if_icmp .lt 19, 3) := by decide +kernel
theorem dX9_digitValue_50 : decode cX9_digitValue 50 = .ok (.iload_n 0, 1) := by decide +kernel
theorem dX9_digitValue_51 : decode cX9_digitValue 51 = .ok (.bipush 70, 2) := by decide +kernel
theorem dX9_digitValue_53 : decode cX9_digitValue 53 = .ok (.if_icmp .gt 13, 3) := by decide +kernel
theorem dX9_digitValue_56 : decode cX9_digitValue 56 = .ok (.iload_n 0, 1) := by decide +kernel
theorem dX9_digitValue_57 : decode cX9_digitValue 57 = .ok (.bipush 65, 2) := by decide +kernel
theorem dX9_digitValue_59 : decode cX9_digitValue 59 = .ok (.isub, 1) := by decide +kernel
theorem dX9_digitValue_60 : decode cX9_digitValue 60 = .ok (.bipush 10, 2) := by decide +kernel
theorem dX9_digitValue_62 : decode cX9_digitValue 62 = .ok (.iadd, 1) := by decide +kernel
theorem dX9_digitValue_63 : decode cX9_digitValue 63 = .ok (.goto 4, 3) := by decide +kernel
theorem dX9_digitValue_24 : decode cX9_digitValue 24 = .ok (.iload_n 0, 1) := by decide +kernel
theorem dX9_digitValue_25 : decode cX9_digitValue 25 = .ok (.bipush 102, 2) := by decide +kernel
theorem dX9_digitValue_27 : decode cX9_digitValue 27 = .ok (.if_icmp .gt 11, 3) := by decide +kernel
theorem dX9_digitValue_30 : decode cX9_digitValue 30 = .ok (.iload_n 0, 1) := by decide +kernel
theorem dX9_digitValue_31 : decode cX9_digitValue 31 = .ok (.bipush 97, 2) := by decide +kernel
theorem dX9_digitValue_33 : decode cX9_digitValue 33 = .ok (.isub, 1) := by decide +kernel
theorem dX9_digitValue_34 : decode cX9_digitValue 34 = .ok (.bipush 10, 2) := by decide +kernel
theorem dX9_digitValue_36 : decode cX9_digitValue 36 = .ok (.iadd, 1) := by decide +kernel
theorem dX9_digitValue_37 : decode cX9_digitValue 37 = .ok (.ireturn, 1) := by decide +kernel
theorem dX9_digitValue_7 : decode cX9_digitValue 7 = .ok (.iload_n 0, 1) := by decide +kernel
theorem dX9_digitValue_8 : decode cX9_digitValue 8 = .ok (.bipush 48, 2) := by decide +kernel
theorem dX9_digitValue_10 : decode cX9_digitValue 10 = .ok (.isub, 1) := by decide +kernel
theorem dX9_digitValue_11 : decode cX9_digitValue 11 = .ok (.ireturn, 1) := by decide +kernel
theorem dX9_add_0 : decode cX9_add 0 = .ok (.aload_n 0, 1) := by decide +kernel
theorem dX9_add_1 : decode cX9_add 1 = .ok (.getfield 28, 3) := by decide +kernel
theorem tw_411 : (.fieldLink RX9 28 "PocketCompiler$Tokens" "size" "I" : Cond) ∈ tw_W := tw_in (t8_1 (List.mem_of_getElem? (i := 195) rfl)) rfl
theorem itX9 : ∀ w ∈ wsX90, w ∈ tw_W := tw_all (by decide +kernel)
theorem dX9_add_4 : decode cX9_add 4 = .ok (.sipush 1503, 3) := by decide +kernel
theorem dX9_add_7 : decode cX9_add 7 = .ok (.if_icmp .ge 43, 3) := by decide +kernel
theorem dX9_add_50 : decode cX9_add 50 = .ok (.iload_n 2, 1) := by decide +kernel
theorem dX9_add_51 : decode cX9_add 51 = .ok (.iload 4, 2) := by decide +kernel
theorem dX9_add_53 : decode cX9_add 53 = .ok (.iadd, 1) := by decide +kernel
theorem dX9_add_54 : decode cX9_add 54 = .ok (.ireturn, 1) := by decide +kernel
theorem dX9_add_10 : decode cX9_add 10 = .ok (.aload_n 0, 1) := by decide +kernel
theorem dX9_add_11 : decode cX9_add 11 = .ok (.getfield 11, 3) := by decide +kernel
theorem tw_412 : (.fieldLink RX9 11 "PocketCompiler$Tokens" "kinds" "[I" : Cond) ∈ tw_W := tw_in (t8_1 (List.mem_of_getElem? (i := 192) rfl)) rfl
theorem dX9_add_14 : decode cX9_add 14 = .ok (.aload_n 0, 1) := by decide +kernel
theorem dX9_add_15 : decode cX9_add 15 = .ok (.getfield 28, 3) := by decide +kernel
theorem dX9_add_18 : decode cX9_add 18 = .ok (.iload_n 1, 1) := by decide +kernel
theorem dX9_add_19 : decode cX9_add 19 = .ok (.iastore, 1) := by decide +kernel
theorem dX9_add_20 : decode cX9_add 20 = .ok (.aload_n 0, 1) := by decide +kernel
theorem dX9_add_21 : decode cX9_add 21 = .ok (.getfield 15, 3) := by decide +kernel
theorem tw_413 : (.fieldLink RX9 15 "PocketCompiler$Tokens" "places" "[I" : Cond) ∈ tw_W := tw_in (t8_1 (List.mem_of_getElem? (i := 193) rfl)) rfl
theorem dX9_add_24 : decode cX9_add 24 = .ok (.aload_n 0, 1) := by decide +kernel
theorem dX9_add_25 : decode cX9_add 25 = .ok (.getfield 28, 3) := by decide +kernel
theorem dX9_add_28 : decode cX9_add 28 = .ok (.iload_n 2, 1) := by decide +kernel
theorem dX9_add_29 : decode cX9_add 29 = .ok (.iastore, 1) := by decide +kernel
theorem dX9_add_30 : decode cX9_add 30 = .ok (.aload_n 0, 1) := by decide +kernel
theorem dX9_add_31 : decode cX9_add 31 = .ok (.getfield 18, 3) := by decide +kernel
theorem tw_414 : (.fieldLink RX9 18 "PocketCompiler$Tokens" "values" "[I" : Cond) ∈ tw_W := tw_in (t8_1 (List.mem_of_getElem? (i := 194) rfl)) rfl
theorem dX9_add_34 : decode cX9_add 34 = .ok (.aload_n 0, 1) := by decide +kernel
theorem dX9_add_35 : decode cX9_add 35 = .ok (.getfield 28, 3) := by decide +kernel
theorem dX9_add_38 : decode cX9_add 38 = .ok (.iload_n 3, 1) := by decide +kernel
theorem dX9_add_39 : decode cX9_add 39 = .ok (.iastore, 1) := by decide +kernel
theorem dX9_add_40 : decode cX9_add 40 = .ok (.aload_n 0, 1) := by decide +kernel
theorem dX9_add_41 : decode cX9_add 41 = .ok (.dup, 1) := by decide +kernel
theorem dX9_add_42 : decode cX9_add 42 = .ok (.getfield 28, 3) := by decide +kernel
theorem dX9_add_45 : decode cX9_add 45 = .ok (.iconst 1, 1) := by decide +kernel
theorem dX9_add_46 : decode cX9_add 46 = .ok (.iadd, 1) := by decide +kernel
theorem dX9_add_47 : decode cX9_add 47 = .ok (.putfield 28, 3) := by decide +kernel
theorem dX9_behindBlanks_0 : decode cX9_behindBlanks 0 = .ok (.iconst 0, 1) := by decide +kernel
theorem dX9_behindBlanks_1 : decode cX9_behindBlanks 1 = .ok (.istore_n 2, 1) := by decide +kernel
theorem dX9_behindBlanks_2 : decode cX9_behindBlanks 2 = .ok (.iload_n 1, 1) := by decide +kernel
theorem dX9_behindBlanks_3 : decode cX9_behindBlanks 3 = .ok (.istore_n 3, 1) := by decide +kernel
theorem dX9_behindBlanks_4 : decode cX9_behindBlanks 4 = .ok (.iload_n 3, 1) := by decide +kernel
theorem dX9_behindBlanks_5 : decode cX9_behindBlanks 5 = .ok (.aload_n 0, 1) := by decide +kernel
theorem dX9_behindBlanks_6 : decode cX9_behindBlanks 6 = .ok (.getfield 21, 3) := by decide +kernel
theorem tw_415 : (.fieldLink RX9 21 "PocketCompiler$Tokens" "source" "LPocketCompiler$Program;" : Cond) ∈ tw_W := tw_in (t8_1 (List.mem_of_getElem? (i := 191) rfl)) rfl
theorem dX9_behindBlanks_9 : decode cX9_behindBlanks 9 = .ok (.getfield 54, 3) := by decide +kernel
theorem tw_416 : (.fieldLink RX9 54 "PocketCompiler$Program" "length" "I" : Cond) ∈ tw_W := tw_in (t8_1 (List.mem_of_getElem? (i := 115) rfl)) rfl
theorem dX9_behindBlanks_12 : decode cX9_behindBlanks 12 = .ok (.if_icmp .ge 96, 3) := by decide +kernel
theorem dX9_behindBlanks_108 : decode cX9_behindBlanks 108 = .ok (.aload_n 0, 1) := by decide +kernel
theorem dX9_behindBlanks_109 : decode cX9_behindBlanks 109 = .ok (.getfield 21, 3) := by decide +kernel
theorem dX9_behindBlanks_112 : decode cX9_behindBlanks 112 = .ok (.getfield 54, 3) := by decide +kernel
theorem dX9_behindBlanks_115 : decode cX9_behindBlanks 115 = .ok (.ireturn, 1) := by decide +kernel
theorem dX9_behindBlanks_15 : decode cX9_behindBlanks 15 = .ok (.aload_n 0, 1) := by decide +kernel
theorem dX9_behindBlanks_16 : decode cX9_behindBlanks 16 = .ok (.getfield 21, 3) := by decide +kernel
theorem dX9_behindBlanks_19 : decode cX9_behindBlanks 19 = .ok (.iload_n 3, 1) := by decide +kernel
theorem dX9_behindBlanks_20 : decode cX9_behindBlanks 20 = .ok (.invokevirtual 59, 3) := by decide +kernel
theorem tw_417 : ∀ w ∈ ([.methodLink RX9 59 yX7_byteAt, .instanceMethod yX7_byteAt, .selects RX7 yX7_byteAt yX7_byteAt, .initialized RX7] : List Cond), w ∈ tw_W := al_c (tw_in (t8_2 (List.mem_of_getElem? (i := 223) rfl)) rfl) (al_c (tw_in (t8_2 (List.mem_of_getElem? (i := 224) rfl)) rfl) (al_c (tw_in (t8_2 (List.mem_of_getElem? (i := 225) rfl)) rfl) (al_c (tw_in (t8_1 (List.mem_of_getElem? (i := 8) rfl)) rfl) al_n)))
theorem dX9_behindBlanks_23 : decode cX9_behindBlanks 23 = .ok (.istore 4, 2) := by decide +kernel
theorem dX9_behindBlanks_25 : decode cX9_behindBlanks 25 = .ok (.iload_n 2, 1) := by decide +kernel
theorem dX9_behindBlanks_26 : decode cX9_behindBlanks 26 = .ok (.ifCond .eq 19, 3) := by decide +kernel
theorem dX9_behindBlanks_45 : decode cX9_behindBlanks 45 = .ok (.iload 4, 2) := by decide +kernel
theorem dX9_behindBlanks_47 : decode cX9_behindBlanks 47 = .ok (.bipush 47, 2) := by decide +kernel
theorem dX9_behindBlanks_49 : decode cX9_behindBlanks 49 = .ok (.if_icmp .ne 23, 3) := by decide +kernel
theorem dX9_behindBlanks_72 : decode cX9_behindBlanks 72 = .ok (.iload 4, 2) := by decide +kernel
theorem dX9_behindBlanks_74 : decode cX9_behindBlanks 74 = .ok (.bipush 9, 2) := by decide +kernel
theorem dX9_behindBlanks_76 : decode cX9_behindBlanks 76 = .ok (.if_icmp .eq 26, 3) := by decide +kernel
theorem dX9_behindBlanks_102 : decode cX9_behindBlanks 102 = .ok (.iinc 3 1, 3) := by decide +kernel
theorem dX9_behindBlanks_105 : decode cX9_behindBlanks 105 = .ok (.goto (-101), 3) := by decide +kernel
theorem dX9_behindBlanks_79 : decode cX9_behindBlanks 79 = .ok (.iload 4, 2) := by decide +kernel
theorem dX9_behindBlanks_81 : decode cX9_behindBlanks 81 = .ok (.bipush 10, 2) := by decide +kernel
theorem dX9_behindBlanks_83 : decode cX9_behindBlanks 83 = .ok (.if_icmp .eq 19, 3) := by decide +kernel
theorem dX9_behindBlanks_86 : decode cX9_behindBlanks 86 = .ok (.iload 4, 2) := by decide +kernel
theorem dX9_behindBlanks_88 : decode cX9_behindBlanks 88 = .ok (.bipush 13, 2) := by decide +kernel
theorem dX9_behindBlanks_90 : decode cX9_behindBlanks 90 = .ok (.if_icmp .eq 12, 3) := by decide +kernel
theorem dX9_behindBlanks_93 : decode cX9_behindBlanks 93 = .ok (.iload 4, 2) := by decide +kernel
theorem dX9_behindBlanks_95 : decode cX9_behindBlanks 95 = .ok (.bipush 32, 2) := by decide +kernel
theorem dX9_behindBlanks_97 : decode cX9_behindBlanks 97 = .ok (.if_icmp .eq 5, 3) := by decide +kernel
theorem dX9_behindBlanks_100 : decode cX9_behindBlanks 100 = .ok (.iload_n 3, 1) := by decide +kernel
theorem dX9_behindBlanks_101 : decode cX9_behindBlanks 101 = .ok (.ireturn, 1) := by decide +kernel
theorem dX9_behindBlanks_52 : decode cX9_behindBlanks 52 = .ok (.aload_n 0, 1) := by decide +kernel
theorem dX9_behindBlanks_53 : decode cX9_behindBlanks 53 = .ok (.getfield 21, 3) := by decide +kernel
theorem dX9_behindBlanks_56 : decode cX9_behindBlanks 56 = .ok (.iload_n 3, 1) := by decide +kernel
theorem dX9_behindBlanks_57 : decode cX9_behindBlanks 57 = .ok (.iconst 1, 1) := by decide +kernel
theorem dX9_behindBlanks_58 : decode cX9_behindBlanks 58 = .ok (.iadd, 1) := by decide +kernel
theorem dX9_behindBlanks_59 : decode cX9_behindBlanks 59 = .ok (.invokevirtual 59, 3) := by decide +kernel
theorem dX9_behindBlanks_62 : decode cX9_behindBlanks 62 = .ok (.bipush 47, 2) := by decide +kernel
theorem dX9_behindBlanks_64 : decode cX9_behindBlanks 64 = .ok (.if_icmp .ne 8, 3) := by decide +kernel
theorem dX9_behindBlanks_67 : decode cX9_behindBlanks 67 = .ok (.iconst 1, 1) := by decide +kernel
theorem dX9_behindBlanks_68 : decode cX9_behindBlanks 68 = .ok (.istore_n 2, 1) := by decide +kernel
theorem dX9_behindBlanks_69 : decode cX9_behindBlanks 69 = .ok (.goto 33, 3) := by decide +kernel
theorem dX9_behindBlanks_29 : decode cX9_behindBlanks 29 = .ok (.iload 4, 2) := by decide +kernel
theorem dX9_behindBlanks_31 : decode cX9_behindBlanks 31 = .ok (.bipush 10, 2) := by decide +kernel
theorem dX9_behindBlanks_33 : decode cX9_behindBlanks 33 = .ok (.if_icmp .eq 7, 3) := by decide +kernel
theorem dX9_behindBlanks_40 : decode cX9_behindBlanks 40 = .ok (.iconst 0, 1) := by decide +kernel
theorem dX9_behindBlanks_41 : decode cX9_behindBlanks 41 = .ok (.istore_n 2, 1) := by decide +kernel
theorem dX9_behindBlanks_42 : decode cX9_behindBlanks 42 = .ok (.goto 60, 3) := by decide +kernel
theorem dX9_behindBlanks_36 : decode cX9_behindBlanks 36 = .ok (.iconst 1, 1) := by decide +kernel
theorem dX9_behindBlanks_37 : decode cX9_behindBlanks 37 = .ok (.goto 4, 3) := by decide +kernel
theorem dX9_isAlike_0 : decode cX9_isAlike 0 = .ok (.iconst 0, 1) := by decide +kernel
theorem dX9_isAlike_1 : decode cX9_isAlike 1 = .ok (.istore 4, 2) := by decide +kernel
theorem dX9_isAlike_3 : decode cX9_isAlike 3 = .ok (.iload 4, 2) := by decide +kernel
theorem dX9_isAlike_5 : decode cX9_isAlike 5 = .ok (.iload_n 3, 1) := by decide +kernel
theorem dX9_isAlike_6 : decode cX9_isAlike 6 = .ok (.if_icmp .ge 36, 3) := by decide +kernel
theorem dX9_isAlike_42 : decode cX9_isAlike 42 = .ok (.aload_n 0, 1) := by decide +kernel
theorem dX9_isAlike_43 : decode cX9_isAlike 43 = .ok (.getfield 21, 3) := by decide +kernel
theorem dX9_isAlike_46 : decode cX9_isAlike 46 = .ok (.iload_n 1, 1) := by decide +kernel
theorem dX9_isAlike_47 : decode cX9_isAlike 47 = .ok (.iload_n 3, 1) := by decide +kernel
theorem dX9_isAlike_48 : decode cX9_isAlike 48 = .ok (.iadd, 1) := by decide +kernel
theorem dX9_isAlike_49 : decode cX9_isAlike 49 = .ok (.invokevirtual 59, 3) := by decide +kernel
theorem dX9_isAlike_52 : decode cX9_isAlike 52 = .ok (.invokestatic 107, 3) := by decide +kernel
theorem tw_418 : ∀ w ∈ ([.methodLink RX9 107 yX9_isNamePart, .static yX9_isNamePart, .initialized yX9_isNamePart.cls] : List Cond), w ∈ tw_W := al_c (tw_in (t8_3 (List.mem_of_getElem? (i := 70) rfl)) rfl) (al_c (tw_in (t8_3 (List.mem_of_getElem? (i := 8) rfl)) rfl) (al_c (tw_in (t8_1 (List.mem_of_getElem? (i := 10) rfl)) rfl) al_n))
theorem dX9_isAlike_55 : decode cX9_isAlike 55 = .ok (.ifCond .ne 7, 3) := by decide +kernel
theorem dX9_isAlike_62 : decode cX9_isAlike 62 = .ok (.iconst 0, 1) := by decide +kernel
theorem dX9_isAlike_63 : decode cX9_isAlike 63 = .ok (.ireturn, 1) := by decide +kernel
theorem dX9_isAlike_58 : decode cX9_isAlike 58 = .ok (.iconst 1, 1) := by decide +kernel
theorem dX9_isAlike_59 : decode cX9_isAlike 59 = .ok (.goto 4, 3) := by decide +kernel
theorem dX9_isAlike_9 : decode cX9_isAlike 9 = .ok (.aload_n 0, 1) := by decide +kernel
theorem dX9_isAlike_10 : decode cX9_isAlike 10 = .ok (.getfield 21, 3) := by decide +kernel
theorem dX9_isAlike_13 : decode cX9_isAlike 13 = .ok (.iload_n 1, 1) := by decide +kernel
theorem dX9_isAlike_14 : decode cX9_isAlike 14 = .ok (.iload 4, 2) := by decide +kernel
theorem dX9_isAlike_16 : decode cX9_isAlike 16 = .ok (.iadd, 1) := by decide +kernel
theorem dX9_isAlike_17 : decode cX9_isAlike 17 = .ok (.invokevirtual 59, 3) := by decide +kernel
theorem dX9_isAlike_20 : decode cX9_isAlike 20 = .ok (.aload_n 0, 1) := by decide +kernel
theorem dX9_isAlike_21 : decode cX9_isAlike 21 = .ok (.getfield 21, 3) := by decide +kernel
theorem dX9_isAlike_24 : decode cX9_isAlike 24 = .ok (.iload_n 2, 1) := by decide +kernel
theorem dX9_isAlike_25 : decode cX9_isAlike 25 = .ok (.iload 4, 2) := by decide +kernel
theorem dX9_isAlike_27 : decode cX9_isAlike 27 = .ok (.iadd, 1) := by decide +kernel
theorem dX9_isAlike_28 : decode cX9_isAlike 28 = .ok (.invokevirtual 59, 3) := by decide +kernel
theorem dX9_isAlike_31 : decode cX9_isAlike 31 = .ok (.if_icmp .eq 5, 3) := by decide +kernel
theorem dX9_isAlike_36 : decode cX9_isAlike 36 = .ok (.iinc 4 1, 3) := by decide +kernel
theorem dX9_isAlike_39 : decode cX9_isAlike 39 = .ok (.goto (-36), 3) := by decide +kernel
theorem dX9_isAlike_34 : decode cX9_isAlike 34 = .ok (.iconst 0, 1) := by decide +kernel
theorem dX9_isAlike_35 : decode cX9_isAlike 35 = .ok (.ireturn, 1) := by decide +kernel
theorem dX9_firstAlike_0 : decode cX9_firstAlike 0 = .ok (.iconst 0, 1) := by decide +kernel
theorem dX9_firstAlike_1 : decode cX9_firstAlike 1 = .ok (.istore_n 3, 1) := by decide +kernel
theorem dX9_firstAlike_2 : decode cX9_firstAlike 2 = .ok (.iload_n 3, 1) := by decide +kernel
theorem dX9_firstAlike_3 : decode cX9_firstAlike 3 = .ok (.aload_n 0, 1) := by decide +kernel
theorem dX9_firstAlike_4 : decode cX9_firstAlike 4 = .ok (.getfield 28, 3) := by decide +kernel
theorem dX9_firstAlike_7 : decode cX9_firstAlike 7 = .ok (.if_icmp .ge 46, 3) := by decide +kernel
theorem dX9_firstAlike_53 : decode cX9_firstAlike 53 = .ok (.aload_n 0, 1) := by decide +kernel
theorem dX9_firstAlike_54 : decode cX9_firstAlike 54 = .ok (.getfield 28, 3) := by decide +kernel
theorem dX9_firstAlike_57 : decode cX9_firstAlike 57 = .ok (.ireturn, 1) := by decide +kernel
theorem dX9_firstAlike_10 : decode cX9_firstAlike 10 = .ok (.aload_n 0, 1) := by decide +kernel
theorem dX9_firstAlike_11 : decode cX9_firstAlike 11 = .ok (.getfield 11, 3) := by decide +kernel
theorem dX9_firstAlike_14 : decode cX9_firstAlike 14 = .ok (.iload_n 3, 1) := by decide +kernel
theorem dX9_firstAlike_15 : decode cX9_firstAlike 15 = .ok (.iaload, 1) := by decide +kernel
theorem dX9_firstAlike_16 : decode cX9_firstAlike 16 = .ok (.iconst 2, 1) := by decide +kernel
theorem dX9_firstAlike_17 : decode cX9_firstAlike 17 = .ok (.if_icmp .ne 30, 3) := by decide +kernel
theorem dX9_firstAlike_47 : decode cX9_firstAlike 47 = .ok (.iinc 3 1, 3) := by decide +kernel
theorem dX9_firstAlike_50 : decode cX9_firstAlike 50 = .ok (.goto (-48), 3) := by decide +kernel
theorem dX9_firstAlike_20 : decode cX9_firstAlike 20 = .ok (.aload_n 0, 1) := by decide +kernel
theorem dX9_firstAlike_21 : decode cX9_firstAlike 21 = .ok (.getfield 18, 3) := by decide +kernel
theorem dX9_firstAlike_24 : decode cX9_firstAlike 24 = .ok (.iload_n 3, 1) := by decide +kernel
theorem dX9_firstAlike_25 : decode cX9_firstAlike 25 = .ok (.iaload, 1) := by decide +kernel
theorem dX9_firstAlike_26 : decode cX9_firstAlike 26 = .ok (.iload_n 3, 1) := by decide +kernel
theorem dX9_firstAlike_27 : decode cX9_firstAlike 27 = .ok (.if_icmp .ne 20, 3) := by decide +kernel
theorem dX9_firstAlike_30 : decode cX9_firstAlike 30 = .ok (.aload_n 0, 1) := by decide +kernel
theorem dX9_firstAlike_31 : decode cX9_firstAlike 31 = .ok (.aload_n 0, 1) := by decide +kernel
theorem dX9_firstAlike_32 : decode cX9_firstAlike 32 = .ok (.getfield 15, 3) := by decide +kernel
theorem dX9_firstAlike_35 : decode cX9_firstAlike 35 = .ok (.iload_n 3, 1) := by decide +kernel
theorem dX9_firstAlike_36 : decode cX9_firstAlike 36 = .ok (.iaload, 1) := by decide +kernel
theorem dX9_firstAlike_37 : decode cX9_firstAlike 37 = .ok (.iload_n 1, 1) := by decide +kernel
theorem dX9_firstAlike_38 : decode cX9_firstAlike 38 = .ok (.iload_n 2, 1) := by decide +kernel
theorem dX9_firstAlike_39 : decode cX9_firstAlike 39 = .ok (.invokevirtual 103, 3) := by decide +kernel
theorem tw_419 : (.code yX9_isAlike cX9_isAlike 5 (some .boolean) : Cond) ∈ tw_W := tw_in (t8_3 (List.mem_of_getElem? (i := 69) rfl)) rfl
theorem tw_420 : ∀ w ∈ ([.methodLink RX9 103 yX9_isAlike, .instanceMethod yX9_isAlike, .selects RX9 yX9_isAlike yX9_isAlike, .initialized RX9] : List Cond), w ∈ tw_W := al_c (tw_in (t8_3 (List.mem_of_getElem? (i := 66) rfl)) rfl) (al_c (tw_in (t8_3 (List.mem_of_getElem? (i := 68) rfl)) rfl) (al_c (tw_in (t7_1 (q := (yX9_isAlike, 10)) (List.mem_of_getElem? (i := 6) rfl)) rfl) (al_c (tw_in (t8_1 (List.mem_of_getElem? (i := 10) rfl)) rfl) al_n)))
theorem dX9_firstAlike_42 : decode cX9_firstAlike 42 = .ok (.ifCond .eq 5, 3) := by decide +kernel
theorem dX9_firstAlike_45 : decode cX9_firstAlike 45 = .ok (.iload_n 3, 1) := by decide +kernel
theorem dX9_firstAlike_46 : decode cX9_firstAlike 46 = .ok (.ireturn, 1) := by decide +kernel
theorem dX9_spelled_0 : decode cX9_spelled 0 = .ok (.iconst 0, 1) := by decide +kernel
theorem dX9_spelled_1 : decode cX9_spelled 1 = .ok (.istore 5, 2) := by decide +kernel
theorem dX9_spelled_3 : decode cX9_spelled 3 = .ok (.iload 5, 2) := by decide +kernel
theorem dX9_spelled_5 : decode cX9_spelled 5 = .ok (.iload_n 2, 1) := by decide +kernel
theorem dX9_spelled_6 : decode cX9_spelled 6 = .ok (.if_icmp .ge 73, 3) := by decide +kernel
theorem dX9_spelled_79 : decode cX9_spelled 79 = .ok (.iload_n 2, 1) := by decide +kernel
theorem dX9_spelled_80 : decode cX9_spelled 80 = .ok (.ireturn, 1) := by decide +kernel
theorem dX9_spelled_9 : decode cX9_spelled 9 = .ok (.iload_n 3, 1) := by decide +kernel
theorem dX9_spelled_10 : decode cX9_spelled 10 = .ok (.iload_n 2, 1) := by decide +kernel
theorem dX9_spelled_11 : decode cX9_spelled 11 = .ok (.imul, 1) := by decide +kernel
theorem dX9_spelled_12 : decode cX9_spelled 12 = .ok (.iload 5, 2) := by decide +kernel
theorem dX9_spelled_14 : decode cX9_spelled 14 = .ok (.iadd, 1) := by decide +kernel
theorem dX9_spelled_15 : decode cX9_spelled 15 = .ok (.istore 6, 2) := by decide +kernel
theorem dX9_spelled_17 : decode cX9_spelled 17 = .ok (.iload 6, 2) := by decide +kernel
theorem dX9_spelled_19 : decode cX9_spelled 19 = .ok (.ifCond .lt 21, 3) := by decide +kernel
theorem dX9_spelled_40 : decode cX9_spelled 40 = .ok (.bipush 32, 2) := by decide +kernel
theorem dX9_spelled_42 : decode cX9_spelled 42 = .ok (.istore 7, 2) := by decide +kernel
theorem dX9_spelled_44 : decode cX9_spelled 44 = .ok (.iload 7, 2) := by decide +kernel
theorem dX9_spelled_46 : decode cX9_spelled 46 = .ok (.bipush 32, 2) := by decide +kernel
theorem dX9_spelled_48 : decode cX9_spelled 48 = .ok (.if_icmp .ne 6, 3) := by decide +kernel
theorem dX9_spelled_51 : decode cX9_spelled 51 = .ok (.iload 5, 2) := by decide +kernel
theorem dX9_spelled_53 : decode cX9_spelled 53 = .ok (.ireturn, 1) := by decide +kernel
theorem dX9_spelled_22 : decode cX9_spelled 22 = .ok (.iload 6, 2) := by decide +kernel
theorem dX9_spelled_24 : decode cX9_spelled 24 = .ok (.aload_n 1, 1) := by decide +kernel
theorem dX9_spelled_25 : decode cX9_spelled 25 = .ok (.invokevirtual 90, 3) := by decide +kernel
theorem tw_421 : ∀ w ∈ ([.methodLink RX9 90 yJ0_length_8abf5, .instanceMethod yJ0_length_8abf5, .selects "java/lang/String" yJ0_length_8abf5 yJ0_length_8abf5, .initialized "java/lang/String"] : List Cond), w ∈ tw_W := al_c (tw_in (t8_3 (List.mem_of_getElem? (i := 11) rfl)) rfl) (al_c (tw_in (t8_3 (List.mem_of_getElem? (i := 12) rfl)) rfl) (al_c (tw_in (t8_3 (List.mem_of_getElem? (i := 13) rfl)) rfl) (al_c (tw_in (t8_1 (List.mem_of_getElem? (i := 6) rfl)) rfl) al_n)))
theorem dX9_spelled_28 : decode cX9_spelled 28 = .ok (.if_icmp .ge 12, 3) := by decide +kernel
theorem dX9_spelled_31 : decode cX9_spelled 31 = .ok (.aload_n 1, 1) := by decide +kernel
theorem dX9_spelled_32 : decode cX9_spelled 32 = .ok (.iload 6, 2) := by decide +kernel
theorem dX9_spelled_34 : decode cX9_spelled 34 = .ok (.invokevirtual 117, 3) := by decide +kernel
theorem tw_422 : ∀ w ∈ ([.methodLink RX9 117 yJ0_charAt_5068e, .instanceMethod yJ0_charAt_5068e, .selects "java/lang/String" yJ0_charAt_5068e yJ0_charAt_5068e, .initialized "java/lang/String"] : List Cond), w ∈ tw_W := al_c (tw_in (t8_3 (List.mem_of_getElem? (i := 24) rfl)) rfl) (al_c (tw_in (t8_3 (List.mem_of_getElem? (i := 25) rfl)) rfl) (al_c (tw_in (t8_3 (List.mem_of_getElem? (i := 26) rfl)) rfl) (al_c (tw_in (t8_1 (List.mem_of_getElem? (i := 6) rfl)) rfl) al_n)))
theorem dX9_spelled_37 : decode cX9_spelled 37 = .ok (.goto 5, 3) := by decide +kernel
theorem dX9_spelled_54 : decode cX9_spelled 54 = .ok (.aload_n 0, 1) := by decide +kernel
theorem dX9_spelled_55 : decode cX9_spelled 55 = .ok (.getfield 21, 3) := by decide +kernel
theorem dX9_spelled_58 : decode cX9_spelled 58 = .ok (.iload 4, 2) := by decide +kernel
theorem dX9_spelled_60 : decode cX9_spelled 60 = .ok (.iload 5, 2) := by decide +kernel
theorem dX9_spelled_62 : decode cX9_spelled 62 = .ok (.iadd, 1) := by decide +kernel
theorem dX9_spelled_63 : decode cX9_spelled 63 = .ok (.invokevirtual 59, 3) := by decide +kernel
theorem dX9_spelled_66 : decode cX9_spelled 66 = .ok (.iload 7, 2) := by decide +kernel
theorem dX9_spelled_68 : decode cX9_spelled 68 = .ok (.if_icmp .eq 5, 3) := by decide +kernel
theorem dX9_spelled_73 : decode cX9_spelled 73 = .ok (.iinc 5 1, 3) := by decide +kernel
theorem dX9_spelled_76 : decode cX9_spelled 76 = .ok (.goto (-73), 3) := by decide +kernel
theorem dX9_spelled_71 : decode cX9_spelled 71 = .ok (.iconst 0, 1) := by decide +kernel
theorem dX9_spelled_72 : decode cX9_spelled 72 = .ok (.ireturn, 1) := by decide +kernel
theorem dX9_scanName_0 : decode cX9_scanName 0 = .ok (.aload_n 0, 1) := by decide +kernel
theorem dX9_scanName_1 : decode cX9_scanName 1 = .ok (.getfield 21, 3) := by decide +kernel
theorem dX9_scanName_4 : decode cX9_scanName 4 = .ok (.iload_n 1, 1) := by decide +kernel
theorem dX9_scanName_5 : decode cX9_scanName 5 = .ok (.invokevirtual 85, 3) := by decide +kernel
theorem tw_423 : (.code yX7_nameBytes cX7_nameBytes 3 (some .int) : Cond) ∈ tw_W := tw_in (t8_3 (List.mem_of_getElem? (i := 5) rfl)) rfl
theorem tw_424 : ∀ w ∈ ([.methodLink RX9 85 yX7_nameBytes, .instanceMethod yX7_nameBytes, .selects RX7 yX7_nameBytes yX7_nameBytes, .initialized RX7] : List Cond), w ∈ tw_W := al_c (tw_in (t8_3 (List.mem_of_getElem? (i := 2) rfl)) rfl) (al_c (tw_in (t8_3 (List.mem_of_getElem? (i := 3) rfl)) rfl) (al_c (tw_in (t8_3 (List.mem_of_getElem? (i := 4) rfl)) rfl) (al_c (tw_in (t8_1 (List.mem_of_getElem? (i := 8) rfl)) rfl) al_n)))
theorem dX9_scanName_8 : decode cX9_scanName 8 = .ok (.istore_n 2, 1) := by decide +kernel
theorem dX9_scanName_9 : decode cX9_scanName 9 = .ok (.iload_n 2, 1) := by decide +kernel
theorem dX9_scanName_10 : decode cX9_scanName 10 = .ok (.bipush 16, 2) := by decide +kernel
theorem dX9_scanName_12 : decode cX9_scanName 12 = .ok (.if_icmp .le 12, 3) := by decide +kernel
theorem dX9_scanName_24 : decode cX9_scanName 24 = .ok (.iconst 0, 1) := by decide +kernel
theorem dX9_scanName_25 : decode cX9_scanName 25 = .ok (.istore_n 3, 1) := by decide +kernel
theorem dX9_scanName_26 : decode cX9_scanName 26 = .ok (.iload_n 3, 1) := by decide +kernel
theorem dX9_scanName_27 : decode cX9_scanName 27 = .ok (.ldc 88, 2) := by decide +kernel
theorem dX9_scanName_29 : decode cX9_scanName 29 = .ok (.invokevirtual 90, 3) := by decide +kernel
theorem dX9_scanName_32 : decode cX9_scanName 32 = .ok (.bipush 8, 2) := by decide +kernel
theorem dX9_scanName_34 : decode cX9_scanName 34 = .ok (.idiv, 1) := by decide +kernel
theorem dX9_scanName_35 : decode cX9_scanName 35 = .ok (.if_icmp .ge 35, 3) := by decide +kernel
theorem dX9_scanName_70 : decode cX9_scanName 70 = .ok (.aload_n 0, 1) := by decide +kernel
theorem dX9_scanName_71 : decode cX9_scanName 71 = .ok (.iconst 2, 1) := by decide +kernel
theorem dX9_scanName_72 : decode cX9_scanName 72 = .ok (.iload_n 1, 1) := by decide +kernel
theorem dX9_scanName_73 : decode cX9_scanName 73 = .ok (.aload_n 0, 1) := by decide +kernel
theorem dX9_scanName_74 : decode cX9_scanName 74 = .ok (.iload_n 1, 1) := by decide +kernel
theorem dX9_scanName_75 : decode cX9_scanName 75 = .ok (.iload_n 2, 1) := by decide +kernel
theorem dX9_scanName_76 : decode cX9_scanName 76 = .ok (.invokevirtual 99, 3) := by decide +kernel
theorem tw_425 : (.code yX9_firstAlike cX9_firstAlike 4 (some .int) : Cond) ∈ tw_W := tw_in (t8_3 (List.mem_of_getElem? (i := 65) rfl)) rfl
theorem tw_426 : ∀ w ∈ ([.methodLink RX9 99 yX9_firstAlike, .instanceMethod yX9_firstAlike, .selects RX9 yX9_firstAlike yX9_firstAlike, .initialized RX9] : List Cond), w ∈ tw_W := al_c (tw_in (t8_3 (List.mem_of_getElem? (i := 62) rfl)) rfl) (al_c (tw_in (t8_3 (List.mem_of_getElem? (i := 64) rfl)) rfl) (al_c (tw_in (t7_1 (q := (yX9_firstAlike, 10)) (List.mem_of_getElem? (i := 5) rfl)) rfl) (al_c (tw_in (t8_1 (List.mem_of_getElem? (i := 10) rfl)) rfl) al_n)))
theorem dX9_scanName_79 : decode cX9_scanName 79 = .ok (.iload_n 2, 1) := by decide +kernel
theorem dX9_scanName_80 : decode cX9_scanName 80 = .ok (.invokevirtual 62, 3) := by decide +kernel
theorem tw_427 : (.code yX9_add cX9_add 5 (some .int) : Cond) ∈ tw_W := tw_in (t8_2 (List.mem_of_getElem? (i := 234) rfl)) rfl
theorem tw_428 : ∀ w ∈ ([.methodLink RX9 62 yX9_add, .instanceMethod yX9_add, .selects RX9 yX9_add yX9_add, .initialized RX9] : List Cond), w ∈ tw_W := al_c (tw_in (t8_2 (List.mem_of_getElem? (i := 231) rfl)) rfl) (al_c (tw_in (t8_2 (List.mem_of_getElem? (i := 233) rfl)) rfl) (al_c (tw_in (t7_1 (q := (yX9_add, 10)) (List.mem_of_getElem? (i := 2) rfl)) rfl) (al_c (tw_in (t8_1 (List.mem_of_getElem? (i := 10) rfl)) rfl) al_n)))
theorem dX9_scanName_83 : decode cX9_scanName 83 = .ok (.ireturn, 1) := by decide +kernel
theorem dX9_scanName_38 : decode cX9_scanName 38 = .ok (.aload_n 0, 1) := by decide +kernel
theorem dX9_scanName_39 : decode cX9_scanName 39 = .ok (.ldc 88, 2) := by decide +kernel
theorem dX9_scanName_41 : decode cX9_scanName 41 = .ok (.bipush 8, 2) := by decide +kernel
theorem dX9_scanName_43 : decode cX9_scanName 43 = .ok (.iload_n 3, 1) := by decide +kernel
theorem dX9_scanName_44 : decode cX9_scanName 44 = .ok (.iload_n 1, 1) := by decide +kernel
theorem dX9_scanName_45 : decode cX9_scanName 45 = .ok (.invokevirtual 95, 3) := by decide +kernel
theorem tw_429 : (.code yX9_spelled cX9_spelled 8 (some .int) : Cond) ∈ tw_W := tw_in (t8_3 (List.mem_of_getElem? (i := 23) rfl)) rfl
theorem tw_430 : ∀ w ∈ ([.methodLink RX9 95 yX9_spelled, .instanceMethod yX9_spelled, .selects RX9 yX9_spelled yX9_spelled, .initialized RX9] : List Cond), w ∈ tw_W := al_c (tw_in (t8_3 (List.mem_of_getElem? (i := 20) rfl)) rfl) (al_c (tw_in (t8_3 (List.mem_of_getElem? (i := 22) rfl)) rfl) (al_c (tw_in (t7_1 (q := (yX9_spelled, 10)) (List.mem_of_getElem? (i := 4) rfl)) rfl) (al_c (tw_in (t8_1 (List.mem_of_getElem? (i := 10) rfl)) rfl) al_n)))
theorem dX9_scanName_48 : decode cX9_scanName 48 = .ok (.iload_n 2, 1) := by decide +kernel
theorem dX9_scanName_49 : decode cX9_scanName 49 = .ok (.if_icmp .ne 15, 3) := by decide +kernel
theorem dX9_scanName_64 : decode cX9_scanName 64 = .ok (.iinc 3 1, 3) := by decide +kernel
theorem dX9_scanName_67 : decode cX9_scanName 67 = .ok (.goto (-41), 3) := by decide +kernel
theorem dX9_scanName_52 : decode cX9_scanName 52 = .ok (.aload_n 0, 1) := by decide +kernel
theorem dX9_scanName_53 : decode cX9_scanName 53 = .ok (.bipush 10, 2) := by decide +kernel
theorem dX9_scanName_55 : decode cX9_scanName 55 = .ok (.iload_n 3, 1) := by decide +kernel
theorem dX9_scanName_56 : decode cX9_scanName 56 = .ok (.iadd, 1) := by decide +kernel
theorem dX9_scanName_57 : decode cX9_scanName 57 = .ok (.iload_n 1, 1) := by decide +kernel
theorem dX9_scanName_58 : decode cX9_scanName 58 = .ok (.iconst 0, 1) := by decide +kernel
theorem dX9_scanName_59 : decode cX9_scanName 59 = .ok (.iload_n 2, 1) := by decide +kernel
theorem dX9_scanName_60 : decode cX9_scanName 60 = .ok (.invokevirtual 62, 3) := by decide +kernel
theorem dX9_scanName_63 : decode cX9_scanName 63 = .ok (.ireturn, 1) := by decide +kernel
theorem dX9_scanName_15 : decode cX9_scanName 15 = .ok (.aload_n 0, 1) := by decide +kernel
theorem dX9_scanName_16 : decode cX9_scanName 16 = .ok (.iconst 1, 1) := by decide +kernel
theorem dX9_scanName_17 : decode cX9_scanName 17 = .ok (.iload_n 1, 1) := by decide +kernel
theorem dX9_scanName_18 : decode cX9_scanName 18 = .ok (.iconst 0, 1) := by decide +kernel
theorem dX9_scanName_19 : decode cX9_scanName 19 = .ok (.iconst 0, 1) := by decide +kernel
theorem dX9_scanName_20 : decode cX9_scanName 20 = .ok (.invokevirtual 62, 3) := by decide +kernel
theorem dX9_scanName_23 : decode cX9_scanName 23 = .ok (.ireturn, 1) := by decide +kernel
theorem dX9_scanSign_0 : decode cX9_scanSign 0 = .ok (.iconst 1, 1) := by decide +kernel
theorem dX9_scanSign_1 : decode cX9_scanSign 1 = .ok (.istore_n 2, 1) := by decide +kernel
theorem dX9_scanSign_2 : decode cX9_scanSign 2 = .ok (.iconst 0, 1) := by decide +kernel
theorem dX9_scanSign_3 : decode cX9_scanSign 3 = .ok (.istore_n 3, 1) := by decide +kernel
theorem dX9_scanSign_4 : decode cX9_scanSign 4 = .ok (.iconst 0, 1) := by decide +kernel
theorem dX9_scanSign_5 : decode cX9_scanSign 5 = .ok (.istore 4, 2) := by decide +kernel
theorem dX9_scanSign_7 : decode cX9_scanSign 7 = .ok (.iload 4, 2) := by decide +kernel
theorem dX9_scanSign_9 : decode cX9_scanSign 9 = .ok (.ldc 115, 2) := by decide +kernel
theorem dX9_scanSign_11 : decode cX9_scanSign 11 = .ok (.invokevirtual 90, 3) := by decide +kernel
theorem dX9_scanSign_14 : decode cX9_scanSign 14 = .ok (.iconst 3, 1) := by decide +kernel
theorem dX9_scanSign_15 : decode cX9_scanSign 15 = .ok (.idiv, 1) := by decide +kernel
theorem dX9_scanSign_16 : decode cX9_scanSign 16 = .ok (.if_icmp .ge 36, 3) := by decide +kernel
theorem dX9_scanSign_52 : decode cX9_scanSign 52 = .ok (.aload_n 0, 1) := by decide +kernel
theorem dX9_scanSign_53 : decode cX9_scanSign 53 = .ok (.iload_n 2, 1) := by decide +kernel
theorem dX9_scanSign_54 : decode cX9_scanSign 54 = .ok (.iload_n 1, 1) := by decide +kernel
theorem dX9_scanSign_55 : decode cX9_scanSign 55 = .ok (.iconst 0, 1) := by decide +kernel
theorem dX9_scanSign_56 : decode cX9_scanSign 56 = .ok (.iload_n 3, 1) := by decide +kernel
theorem dX9_scanSign_57 : decode cX9_scanSign 57 = .ok (.invokevirtual 62, 3) := by decide +kernel
theorem dX9_scanSign_60 : decode cX9_scanSign 60 = .ok (.ireturn, 1) := by decide +kernel
theorem dX9_scanSign_19 : decode cX9_scanSign 19 = .ok (.aload_n 0, 1) := by decide +kernel
theorem dX9_scanSign_20 : decode cX9_scanSign 20 = .ok (.ldc 115, 2) := by decide +kernel
theorem dX9_scanSign_22 : decode cX9_scanSign 22 = .ok (.iconst 3, 1) := by decide +kernel
theorem dX9_scanSign_23 : decode cX9_scanSign 23 = .ok (.iload 4, 2) := by decide +kernel
theorem dX9_scanSign_25 : decode cX9_scanSign 25 = .ok (.iload_n 1, 1) := by decide +kernel
theorem dX9_scanSign_26 : decode cX9_scanSign 26 = .ok (.invokevirtual 95, 3) := by decide +kernel
theorem dX9_scanSign_29 : decode cX9_scanSign 29 = .ok (.istore 5, 2) := by decide +kernel
theorem dX9_scanSign_31 : decode cX9_scanSign 31 = .ok (.iload 5, 2) := by decide +kernel
theorem dX9_scanSign_33 : decode cX9_scanSign 33 = .ok (.iload_n 3, 1) := by decide +kernel
theorem dX9_scanSign_34 : decode cX9_scanSign 34 = .ok (.if_icmp .le 12, 3) := by decide +kernel
theorem dX9_scanSign_46 : decode cX9_scanSign 46 = .ok (.iinc 4 1, 3) := by decide +kernel
theorem dX9_scanSign_49 : decode cX9_scanSign 49 = .ok (.goto (-42), 3) := by decide +kernel
theorem dX9_scanSign_37 : decode cX9_scanSign 37 = .ok (.iload 5, 2) := by decide +kernel
theorem dX9_scanSign_39 : decode cX9_scanSign 39 = .ok (.istore_n 3, 1) := by decide +kernel
theorem dX9_scanSign_40 : decode cX9_scanSign 40 = .ok (.bipush 30, 2) := by decide +kernel
theorem dX9_scanSign_42 : decode cX9_scanSign 42 = .ok (.iload 4, 2) := by decide +kernel
theorem dX9_scanSign_44 : decode cX9_scanSign 44 = .ok (.iadd, 1) := by decide +kernel
theorem dX9_scanSign_45 : decode cX9_scanSign 45 = .ok (.istore_n 2, 1) := by decide +kernel
theorem dX9_scanNumber_0 : decode cX9_scanNumber 0 = .ok (.aload_n 0, 1) := by decide +kernel
theorem dX9_scanNumber_1 : decode cX9_scanNumber 1 = .ok (.getfield 21, 3) := by decide +kernel
theorem dX9_scanNumber_4 : decode cX9_scanNumber 4 = .ok (.iload_n 1, 1) := by decide +kernel
theorem dX9_scanNumber_5 : decode cX9_scanNumber 5 = .ok (.invokevirtual 59, 3) := by decide +kernel
theorem dX9_scanNumber_8 : decode cX9_scanNumber 8 = .ok (.bipush 48, 2) := by decide +kernel
theorem dX9_scanNumber_10 : decode cX9_scanNumber 10 = .ok (.if_icmp .ne 22, 3) := by decide +kernel
theorem dX9_scanNumber_32 : decode cX9_scanNumber 32 = .ok (.iconst 0, 1) := by decide +kernel
theorem dX9_scanNumber_33 : decode cX9_scanNumber 33 = .ok (.istore_n 2, 1) := by decide +kernel
theorem dX9_scanNumber_34 : decode cX9_scanNumber 34 = .ok (.iload_n 2, 1) := by decide +kernel
theorem dX9_scanNumber_35 : decode cX9_scanNumber 35 = .ok (.ifCond .eq 8, 3) := by decide +kernel
theorem dX9_scanNumber_43 : decode cX9_scanNumber 43 = .ok (.bipush 10, 2) := by decide +kernel
theorem dX9_scanNumber_45 : decode cX9_scanNumber 45 = .ok (.istore_n 3, 1) := by decide +kernel
theorem dX9_scanNumber_46 : decode cX9_scanNumber 46 = .ok (.iload_n 2, 1) := by decide +kernel
theorem dX9_scanNumber_47 : decode cX9_scanNumber 47 = .ok (.ifCond .eq 8, 3) := by decide +kernel
theorem dX9_scanNumber_55 : decode cX9_scanNumber 55 = .ok (.bipush 10, 2) := by decide +kernel
theorem dX9_scanNumber_57 : decode cX9_scanNumber 57 = .ok (.istore 4, 2) := by decide +kernel
theorem dX9_scanNumber_59 : decode cX9_scanNumber 59 = .ok (.iload_n 2, 1) := by decide +kernel
theorem dX9_scanNumber_60 : decode cX9_scanNumber 60 = .ok (.ifCond .eq 9, 3) := by decide +kernel
theorem dX9_scanNumber_69 : decode cX9_scanNumber 69 = .ok (.iload_n 1, 1) := by decide +kernel
theorem dX9_scanNumber_70 : decode cX9_scanNumber 70 = .ok (.istore 5, 2) := by decide +kernel
theorem dX9_scanNumber_72 : decode cX9_scanNumber 72 = .ok (.lconst 0, 1) := by decide +kernel
theorem dX9_scanNumber_73 : decode cX9_scanNumber 73 = .ok (.lstore 6, 2) := by decide +kernel
theorem dX9_scanNumber_75 : decode cX9_scanNumber 75 = .ok (.iconst 0, 1) := by decide +kernel
theorem dX9_scanNumber_76 : decode cX9_scanNumber 76 = .ok (.istore 8, 2) := by decide +kernel
theorem dX9_scanNumber_78 : decode cX9_scanNumber 78 = .ok (.iconst 0, 1) := by decide +kernel
theorem dX9_scanNumber_79 : decode cX9_scanNumber 79 = .ok (.istore 9, 2) := by decide +kernel
theorem dX9_scanNumber_81 : decode cX9_scanNumber 81 = .ok (.iload 9, 2) := by decide +kernel
theorem dX9_scanNumber_83 : decode cX9_scanNumber 83 = .ok (.iload 4, 2) := by decide +kernel
theorem dX9_scanNumber_85 : decode cX9_scanNumber 85 = .ok (.if_icmp .ge 57, 3) := by decide +kernel
theorem dX9_scanNumber_142 : decode cX9_scanNumber 142 = .ok (.iload 5, 2) := by decide +kernel
theorem dX9_scanNumber_144 : decode cX9_scanNumber 144 = .ok (.iload 8, 2) := by decide +kernel
theorem dX9_scanNumber_146 : decode cX9_scanNumber 146 = .ok (.iadd, 1) := by decide +kernel
theorem dX9_scanNumber_147 : decode cX9_scanNumber 147 = .ok (.istore 9, 2) := by decide +kernel
theorem dX9_scanNumber_149 : decode cX9_scanNumber 149 = .ok (.iload 8, 2) := by decide +kernel
theorem dX9_scanNumber_151 : decode cX9_scanNumber 151 = .ok (.ifCond .eq 18, 3) := by decide +kernel
theorem dX9_scanNumber_169 : decode cX9_scanNumber 169 = .ok (.aload_n 0, 1) := by decide +kernel
theorem dX9_scanNumber_170 : decode cX9_scanNumber 170 = .ok (.iconst 1, 1) := by decide +kernel
theorem dX9_scanNumber_171 : decode cX9_scanNumber 171 = .ok (.iload_n 1, 1) := by decide +kernel
theorem dX9_scanNumber_172 : decode cX9_scanNumber 172 = .ok (.iconst 0, 1) := by decide +kernel
theorem dX9_scanNumber_173 : decode cX9_scanNumber 173 = .ok (.iconst 0, 1) := by decide +kernel
theorem dX9_scanNumber_174 : decode cX9_scanNumber 174 = .ok (.invokevirtual 62, 3) := by decide +kernel
theorem dX9_scanNumber_177 : decode cX9_scanNumber 177 = .ok (.ireturn, 1) := by decide +kernel
theorem dX9_scanNumber_154 : decode cX9_scanNumber 154 = .ok (.aload_n 0, 1) := by decide +kernel
theorem dX9_scanNumber_155 : decode cX9_scanNumber 155 = .ok (.getfield 21, 3) := by decide +kernel
theorem dX9_scanNumber_158 : decode cX9_scanNumber 158 = .ok (.iload 9, 2) := by decide +kernel
theorem dX9_scanNumber_160 : decode cX9_scanNumber 160 = .ok (.invokevirtual 59, 3) := by decide +kernel
theorem dX9_scanNumber_163 : decode cX9_scanNumber 163 = .ok (.invokestatic 107, 3) := by decide +kernel
theorem dX9_scanNumber_166 : decode cX9_scanNumber 166 = .ok (.ifCond .eq 12, 3) := by decide +kernel
theorem dX9_scanNumber_178 : decode cX9_scanNumber 178 = .ok (.iload_n 2, 1) := by decide +kernel
theorem dX9_scanNumber_179 : decode cX9_scanNumber 179 = .ok (.ifCond .ne 16, 3) := by decide +kernel
theorem dX9_scanNumber_182 : decode cX9_scanNumber 182 = .ok (.lload 6, 2) := by decide +kernel
theorem dX9_scanNumber_184 : decode cX9_scanNumber 184 = .ok (.ldc2_w 113, 3) := by decide +kernel
theorem tw_431 : (.constantLong RX9 113 (2147483647) : Cond) ∈ tw_W := tw_in (t8_3 (List.mem_of_getElem? (i := 81) rfl)) rfl
theorem dX9_scanNumber_187 : decode cX9_scanNumber 187 = .ok (.lcmp, 1) := by decide +kernel
theorem dX9_scanNumber_188 : decode cX9_scanNumber 188 = .ok (.ifCond .le 7, 3) := by decide +kernel
theorem dX9_scanNumber_195 : decode cX9_scanNumber 195 = .ok (.iconst 0, 1) := by decide +kernel
theorem dX9_scanNumber_196 : decode cX9_scanNumber 196 = .ok (.istore 10, 2) := by decide +kernel
theorem dX9_scanNumber_198 : decode cX9_scanNumber 198 = .ok (.aload_n 0, 1) := by decide +kernel
theorem dX9_scanNumber_199 : decode cX9_scanNumber 199 = .ok (.iload 10, 2) := by decide +kernel
theorem dX9_scanNumber_201 : decode cX9_scanNumber 201 = .ok (.ifCond .eq 7, 3) := by decide +kernel
theorem dX9_scanNumber_208 : decode cX9_scanNumber 208 = .ok (.iconst 3, 1) := by decide +kernel
theorem dX9_scanNumber_209 : decode cX9_scanNumber 209 = .ok (.iload_n 1, 1) := by decide +kernel
theorem dX9_scanNumber_210 : decode cX9_scanNumber 210 = .ok (.lload 6, 2) := by decide +kernel
theorem dX9_scanNumber_212 : decode cX9_scanNumber 212 = .ok (.l2i, 1) := by decide +kernel
theorem dX9_scanNumber_213 : decode cX9_scanNumber 213 = .ok (.iload 9, 2) := by decide +kernel
theorem dX9_scanNumber_215 : decode cX9_scanNumber 215 = .ok (.iload_n 1, 1) := by decide +kernel
theorem dX9_scanNumber_216 : decode cX9_scanNumber 216 = .ok (.isub, 1) := by decide +kernel
theorem dX9_scanNumber_217 : decode cX9_scanNumber 217 = .ok (.invokevirtual 62, 3) := by decide +kernel
theorem dX9_scanNumber_220 : decode cX9_scanNumber 220 = .ok (.ireturn, 1) := by decide +kernel
theorem dX9_scanNumber_191 : decode cX9_scanNumber 191 = .ok (.iconst 1, 1) := by decide +kernel
theorem dX9_scanNumber_192 : decode cX9_scanNumber 192 = .ok (.goto 4, 3) := by decide +kernel
theorem dX9_scanNumber_204 : decode cX9_scanNumber 204 = .ok (.iconst 4, 1) := by decide +kernel
theorem dX9_scanNumber_205 : decode cX9_scanNumber 205 = .ok (.goto 4, 3) := by decide +kernel
theorem dX9_scanNumber_88 : decode cX9_scanNumber 88 = .ok (.aload_n 0, 1) := by decide +kernel
theorem dX9_scanNumber_89 : decode cX9_scanNumber 89 = .ok (.getfield 21, 3) := by decide +kernel
theorem dX9_scanNumber_92 : decode cX9_scanNumber 92 = .ok (.iload 5, 2) := by decide +kernel
theorem dX9_scanNumber_94 : decode cX9_scanNumber 94 = .ok (.iload 9, 2) := by decide +kernel
theorem dX9_scanNumber_96 : decode cX9_scanNumber 96 = .ok (.iadd, 1) := by decide +kernel
theorem dX9_scanNumber_97 : decode cX9_scanNumber 97 = .ok (.invokevirtual 59, 3) := by decide +kernel
theorem dX9_scanNumber_100 : decode cX9_scanNumber 100 = .ok (.iload_n 3, 1) := by decide +kernel
theorem dX9_scanNumber_101 : decode cX9_scanNumber 101 = .ok (.invokestatic 110, 3) := by decide +kernel
theorem tw_432 : (.code yX9_digitValue cX9_digitValue 2 (some .int) : Cond) ∈ tw_W := tw_in (t8_3 (List.mem_of_getElem? (i := 80) rfl)) rfl
theorem tw_433 : ∀ w ∈ ([.methodLink RX9 110 yX9_digitValue, .static yX9_digitValue, .initialized yX9_digitValue.cls] : List Cond), w ∈ tw_W := al_c (tw_in (t8_3 (List.mem_of_getElem? (i := 78) rfl)) rfl) (al_c (tw_in (t8_3 (List.mem_of_getElem? (i := 79) rfl)) rfl) (al_c (tw_in (t8_1 (List.mem_of_getElem? (i := 10) rfl)) rfl) al_n))
theorem dX9_scanNumber_104 : decode cX9_scanNumber 104 = .ok (.iconst (-1), 1) := by decide +kernel
theorem dX9_scanNumber_105 : decode cX9_scanNumber 105 = .ok (.if_icmp .eq 37, 3) := by decide +kernel
theorem dX9_scanNumber_108 : decode cX9_scanNumber 108 = .ok (.lload 6, 2) := by decide +kernel
theorem dX9_scanNumber_110 : decode cX9_scanNumber 110 = .ok (.iload_n 3, 1) := by decide +kernel
theorem dX9_scanNumber_111 : decode cX9_scanNumber 111 = .ok (.i2l, 1) := by decide +kernel
theorem dX9_scanNumber_112 : decode cX9_scanNumber 112 = .ok (.lmul, 1) := by decide +kernel
theorem dX9_scanNumber_113 : decode cX9_scanNumber 113 = .ok (.aload_n 0, 1) := by decide +kernel
theorem dX9_scanNumber_114 : decode cX9_scanNumber 114 = .ok (.getfield 21, 3) := by decide +kernel
theorem dX9_scanNumber_117 : decode cX9_scanNumber 117 = .ok (.iload 5, 2) := by decide +kernel
theorem dX9_scanNumber_119 : decode cX9_scanNumber 119 = .ok (.iload 9, 2) := by decide +kernel
theorem dX9_scanNumber_121 : decode cX9_scanNumber 121 = .ok (.iadd, 1) := by decide +kernel
theorem dX9_scanNumber_122 : decode cX9_scanNumber 122 = .ok (.invokevirtual 59, 3) := by decide +kernel
theorem dX9_scanNumber_125 : decode cX9_scanNumber 125 = .ok (.iload_n 3, 1) := by decide +kernel
theorem dX9_scanNumber_126 : decode cX9_scanNumber 126 = .ok (.invokestatic 110, 3) := by decide +kernel
theorem dX9_scanNumber_129 : decode cX9_scanNumber 129 = .ok (.i2l, 1) := by decide +kernel
theorem dX9_scanNumber_130 : decode cX9_scanNumber 130 = .ok (.ladd, 1) := by decide +kernel
theorem dX9_scanNumber_131 : decode cX9_scanNumber 131 = .ok (.lstore 6, 2) := by decide +kernel
theorem dX9_scanNumber_133 : decode cX9_scanNumber 133 = .ok (.iinc 8 1, 3) := by decide +kernel
theorem dX9_scanNumber_136 : decode cX9_scanNumber 136 = .ok (.iinc 9 1, 3) := by decide +kernel
theorem dX9_scanNumber_139 : decode cX9_scanNumber 139 = .ok (.goto (-58), 3) := by decide +kernel
theorem dX9_scanNumber_13 : decode cX9_scanNumber 13 = .ok (.aload_n 0, 1) := by decide +kernel
theorem dX9_scanNumber_14 : decode cX9_scanNumber 14 = .ok (.getfield 21, 3) := by decide +kernel
theorem dX9_scanNumber_17 : decode cX9_scanNumber 17 = .ok (.iload_n 1, 1) := by decide +kernel
theorem dX9_scanNumber_18 : decode cX9_scanNumber 18 = .ok (.iconst 1, 1) := by decide +kernel
theorem dX9_scanNumber_19 : decode cX9_scanNumber 19 = .ok (.iadd, 1) := by decide +kernel
theorem dX9_scanNumber_20 : decode cX9_scanNumber 20 = .ok (.invokevirtual 59, 3) := by decide +kernel
theorem dX9_scanNumber_23 : decode cX9_scanNumber 23 = .ok (.bipush 120, 2) := by decide +kernel
theorem dX9_scanNumber_25 : decode cX9_scanNumber 25 = .ok (.if_icmp .ne 7, 3) := by decide +kernel
theorem dX9_scanNumber_28 : decode cX9_scanNumber 28 = .ok (.iconst 1, 1) := by decide +kernel
theorem dX9_scanNumber_29 : decode cX9_scanNumber 29 = .ok (.goto 4, 3) := by decide +kernel
theorem dX9_scanNumber_38 : decode cX9_scanNumber 38 = .ok (.bipush 16, 2) := by decide +kernel
theorem dX9_scanNumber_40 : decode cX9_scanNumber 40 = .ok (.goto 5, 3) := by decide +kernel
theorem dX9_scanNumber_50 : decode cX9_scanNumber 50 = .ok (.bipush 8, 2) := by decide +kernel
theorem dX9_scanNumber_52 : decode cX9_scanNumber 52 = .ok (.goto 5, 3) := by decide +kernel
theorem dX9_scanNumber_63 : decode cX9_scanNumber 63 = .ok (.iload_n 1, 1) := by decide +kernel
theorem dX9_scanNumber_64 : decode cX9_scanNumber 64 = .ok (.iconst 2, 1) := by decide +kernel
theorem dX9_scanNumber_65 : decode cX9_scanNumber 65 = .ok (.iadd, 1) := by decide +kernel
theorem dX9_scanNumber_66 : decode cX9_scanNumber 66 = .ok (.goto 4, 3) := by decide +kernel
theorem dX9_scanCharacter_0 : decode cX9_scanCharacter 0 = .ok (.aload_n 0, 1) := by decide +kernel
theorem dX9_scanCharacter_1 : decode cX9_scanCharacter 1 = .ok (.getfield 21, 3) := by decide +kernel
theorem dX9_scanCharacter_4 : decode cX9_scanCharacter 4 = .ok (.iload_n 1, 1) := by decide +kernel
theorem dX9_scanCharacter_5 : decode cX9_scanCharacter 5 = .ok (.iconst 1, 1) := by decide +kernel
theorem dX9_scanCharacter_6 : decode cX9_scanCharacter 6 = .ok (.iadd, 1) := by decide +kernel
theorem dX9_scanCharacter_7 : decode cX9_scanCharacter 7 = .ok (.invokevirtual 59, 3) := by decide +kernel
theorem dX9_scanCharacter_10 : decode cX9_scanCharacter 10 = .ok (.istore_n 2, 1) := by decide +kernel
theorem dX9_scanCharacter_11 : decode cX9_scanCharacter 11 = .ok (.iload_n 2, 1) := by decide +kernel
theorem dX9_scanCharacter_12 : decode cX9_scanCharacter 12 = .ok (.bipush 32, 2) := by decide +kernel
theorem dX9_scanCharacter_14 : decode cX9_scanCharacter 14 = .ok (.if_icmp .lt 34, 3) := by decide +kernel
theorem dX9_scanCharacter_48 : decode cX9_scanCharacter 48 = .ok (.iconst 0, 1) := by decide +kernel
theorem dX9_scanCharacter_49 : decode cX9_scanCharacter 49 = .ok (.istore_n 3, 1) := by decide +kernel
theorem dX9_scanCharacter_50 : decode cX9_scanCharacter 50 = .ok (.iload_n 3, 1) := by decide +kernel
theorem dX9_scanCharacter_51 : decode cX9_scanCharacter 51 = .ok (.ifCond .eq 14, 3) := by decide +kernel
theorem dX9_scanCharacter_65 : decode cX9_scanCharacter 65 = .ok (.aload_n 0, 1) := by decide +kernel
theorem dX9_scanCharacter_66 : decode cX9_scanCharacter 66 = .ok (.iconst 1, 1) := by decide +kernel
theorem dX9_scanCharacter_67 : decode cX9_scanCharacter 67 = .ok (.iload_n 1, 1) := by decide +kernel
theorem dX9_scanCharacter_68 : decode cX9_scanCharacter 68 = .ok (.iconst 0, 1) := by decide +kernel
theorem dX9_scanCharacter_69 : decode cX9_scanCharacter 69 = .ok (.iconst 0, 1) := by decide +kernel
theorem dX9_scanCharacter_70 : decode cX9_scanCharacter 70 = .ok (.invokevirtual 62, 3) := by decide +kernel
theorem dX9_scanCharacter_73 : decode cX9_scanCharacter 73 = .ok (.ireturn, 1) := by decide +kernel
theorem dX9_scanCharacter_17 : decode cX9_scanCharacter 17 = .ok (.iload_n 2, 1) := by decide +kernel
theorem dX9_scanCharacter_18 : decode cX9_scanCharacter 18 = .ok (.bipush 126, 2) := by decide +kernel
theorem dX9_scanCharacter_20 : decode cX9_scanCharacter 20 = .ok (.if_icmp .gt 28, 3) := by decide +kernel
theorem dX9_scanCharacter_23 : decode cX9_scanCharacter 23 = .ok (.iload_n 2, 1) := by decide +kernel
theorem dX9_scanCharacter_24 : decode cX9_scanCharacter 24 = .ok (.bipush 39, 2) := by decide +kernel
theorem dX9_scanCharacter_26 : decode cX9_scanCharacter 26 = .ok (.if_icmp .eq 22, 3) := by decide +kernel
theorem dX9_scanCharacter_29 : decode cX9_scanCharacter 29 = .ok (.aload_n 0, 1) := by decide +kernel
theorem dX9_scanCharacter_30 : decode cX9_scanCharacter 30 = .ok (.getfield 21, 3) := by decide +kernel
theorem dX9_scanCharacter_33 : decode cX9_scanCharacter 33 = .ok (.iload_n 1, 1) := by decide +kernel
theorem dX9_scanCharacter_34 : decode cX9_scanCharacter 34 = .ok (.iconst 2, 1) := by decide +kernel
theorem dX9_scanCharacter_35 : decode cX9_scanCharacter 35 = .ok (.iadd, 1) := by decide +kernel
theorem dX9_scanCharacter_36 : decode cX9_scanCharacter 36 = .ok (.invokevirtual 59, 3) := by decide +kernel
theorem dX9_scanCharacter_39 : decode cX9_scanCharacter 39 = .ok (.bipush 39, 2) := by decide +kernel
theorem dX9_scanCharacter_41 : decode cX9_scanCharacter 41 = .ok (.if_icmp .ne 7, 3) := by decide +kernel
theorem dX9_scanCharacter_44 : decode cX9_scanCharacter 44 = .ok (.iconst 1, 1) := by decide +kernel
theorem dX9_scanCharacter_45 : decode cX9_scanCharacter 45 = .ok (.goto 4, 3) := by decide +kernel
theorem dX9_scanCharacter_54 : decode cX9_scanCharacter 54 = .ok (.aload_n 0, 1) := by decide +kernel
theorem dX9_scanCharacter_55 : decode cX9_scanCharacter 55 = .ok (.iconst 5, 1) := by decide +kernel
theorem dX9_scanCharacter_56 : decode cX9_scanCharacter 56 = .ok (.iload_n 1, 1) := by decide +kernel
theorem dX9_scanCharacter_57 : decode cX9_scanCharacter 57 = .ok (.iload_n 2, 1) := by decide +kernel
theorem dX9_scanCharacter_58 : decode cX9_scanCharacter 58 = .ok (.iconst 3, 1) := by decide +kernel
theorem dX9_scanCharacter_59 : decode cX9_scanCharacter 59 = .ok (.invokevirtual 62, 3) := by decide +kernel
theorem dX9_scanCharacter_62 : decode cX9_scanCharacter 62 = .ok (.goto 11, 3) := by decide +kernel
theorem dX9_scanOne_0 : decode cX9_scanOne 0 = .ok (.aload_n 0, 1) := by decide +kernel
theorem dX9_scanOne_1 : decode cX9_scanOne 1 = .ok (.getfield 21, 3) := by decide +kernel
theorem dX9_scanOne_4 : decode cX9_scanOne 4 = .ok (.iload_n 1, 1) := by decide +kernel
theorem dX9_scanOne_5 : decode cX9_scanOne 5 = .ok (.invokevirtual 59, 3) := by decide +kernel
theorem dX9_scanOne_8 : decode cX9_scanOne 8 = .ok (.istore_n 2, 1) := by decide +kernel
theorem dX9_scanOne_9 : decode cX9_scanOne 9 = .ok (.iload_n 2, 1) := by decide +kernel
theorem dX9_scanOne_10 : decode cX9_scanOne 10 = .ok (.iconst (-1), 1) := by decide +kernel
theorem dX9_scanOne_11 : decode cX9_scanOne 11 = .ok (.if_icmp .ne 12, 3) := by decide +kernel
theorem dX9_scanOne_23 : decode cX9_scanOne 23 = .ok (.iload_n 2, 1) := by decide +kernel
theorem dX9_scanOne_24 : decode cX9_scanOne 24 = .ok (.invokestatic 66, 3) := by decide +kernel
theorem tw_434 : (.code yX9_isLetter cX9_isLetter 1 (some .boolean) : Cond) ∈ tw_W := tw_in (t8_2 (List.mem_of_getElem? (i := 237) rfl)) rfl
theorem tw_435 : ∀ w ∈ ([.methodLink RX9 66 yX9_isLetter, .static yX9_isLetter, .initialized yX9_isLetter.cls] : List Cond), w ∈ tw_W := al_c (tw_in (t8_2 (List.mem_of_getElem? (i := 235) rfl)) rfl) (al_c (tw_in (t8_2 (List.mem_of_getElem? (i := 236) rfl)) rfl) (al_c (tw_in (t8_1 (List.mem_of_getElem? (i := 10) rfl)) rfl) al_n))
theorem dX9_scanOne_27 : decode cX9_scanOne 27 = .ok (.ifCond .eq 9, 3) := by decide +kernel
theorem dX9_scanOne_36 : decode cX9_scanOne 36 = .ok (.iload_n 2, 1) := by decide +kernel
theorem dX9_scanOne_37 : decode cX9_scanOne 37 = .ok (.invokestatic 73, 3) := by decide +kernel
theorem dX9_scanOne_40 : decode cX9_scanOne 40 = .ok (.ifCond .eq 9, 3) := by decide +kernel
theorem dX9_scanOne_49 : decode cX9_scanOne 49 = .ok (.iload_n 2, 1) := by decide +kernel
theorem dX9_scanOne_50 : decode cX9_scanOne 50 = .ok (.bipush 39, 2) := by decide +kernel
theorem dX9_scanOne_52 : decode cX9_scanOne 52 = .ok (.if_icmp .ne 11, 3) := by decide +kernel
theorem dX9_scanOne_63 : decode cX9_scanOne 63 = .ok (.aload_n 0, 1) := by decide +kernel
theorem dX9_scanOne_64 : decode cX9_scanOne 64 = .ok (.iload_n 1, 1) := by decide +kernel
theorem dX9_scanOne_65 : decode cX9_scanOne 65 = .ok (.invokevirtual 82, 3) := by decide +kernel
theorem tw_436 : (.code yX9_scanSign cX9_scanSign 6 (some .int) : Cond) ∈ tw_W := tw_in (t8_3 (List.mem_of_getElem? (i := 89) rfl)) rfl
theorem tw_437 : ∀ w ∈ ([.methodLink RX9 82 yX9_scanSign, .instanceMethod yX9_scanSign, .selects RX9 yX9_scanSign yX9_scanSign, .initialized RX9] : List Cond), w ∈ tw_W := al_c (tw_in (t8_3 (List.mem_of_getElem? (i := 86) rfl)) rfl) (al_c (tw_in (t8_3 (List.mem_of_getElem? (i := 88) rfl)) rfl) (al_c (tw_in (t7_1 (q := (yX9_scanSign, 10)) (List.mem_of_getElem? (i := 9) rfl)) rfl) (al_c (tw_in (t8_1 (List.mem_of_getElem? (i := 10) rfl)) rfl) al_n)))
theorem dX9_scanOne_68 : decode cX9_scanOne 68 = .ok (.ireturn, 1) := by decide +kernel
theorem dX9_scanOne_55 : decode cX9_scanOne 55 = .ok (.aload_n 0, 1) := by decide +kernel
theorem dX9_scanOne_56 : decode cX9_scanOne 56 = .ok (.iload_n 1, 1) := by decide +kernel
theorem dX9_scanOne_57 : decode cX9_scanOne 57 = .ok (.invokevirtual 79, 3) := by decide +kernel
theorem tw_438 : (.code yX9_scanCharacter cX9_scanCharacter 4 (some .int) : Cond) ∈ tw_W := tw_in (t8_3 (List.mem_of_getElem? (i := 85) rfl)) rfl
theorem tw_439 : ∀ w ∈ ([.methodLink RX9 79 yX9_scanCharacter, .instanceMethod yX9_scanCharacter, .selects RX9 yX9_scanCharacter yX9_scanCharacter, .initialized RX9] : List Cond), w ∈ tw_W := al_c (tw_in (t8_3 (List.mem_of_getElem? (i := 82) rfl)) rfl) (al_c (tw_in (t8_3 (List.mem_of_getElem? (i := 84) rfl)) rfl) (al_c (tw_in (t7_1 (q := (yX9_scanCharacter, 10)) (List.mem_of_getElem? (i := 8) rfl)) rfl) (al_c (tw_in (t8_1 (List.mem_of_getElem? (i := 10) rfl)) rfl) al_n)))
theorem dX9_scanOne_60 : decode cX9_scanOne 60 = .ok (.goto 8, 3) := by decide +kernel
theorem dX9_scanOne_43 : decode cX9_scanOne 43 = .ok (.aload_n 0, 1) := by decide +kernel
theorem dX9_scanOne_44 : decode cX9_scanOne 44 = .ok (.iload_n 1, 1) := by decide +kernel
theorem dX9_scanOne_45 : decode cX9_scanOne 45 = .ok (.invokevirtual 76, 3) := by decide +kernel
theorem tw_440 : (.code yX9_scanNumber cX9_scanNumber 11 (some .int) : Cond) ∈ tw_W := tw_in (t8_3 (List.mem_of_getElem? (i := 77) rfl)) rfl
theorem tw_441 : ∀ w ∈ ([.methodLink RX9 76 yX9_scanNumber, .instanceMethod yX9_scanNumber, .selects RX9 yX9_scanNumber yX9_scanNumber, .initialized RX9] : List Cond), w ∈ tw_W := al_c (tw_in (t8_3 (List.mem_of_getElem? (i := 74) rfl)) rfl) (al_c (tw_in (t8_3 (List.mem_of_getElem? (i := 76) rfl)) rfl) (al_c (tw_in (t7_1 (q := (yX9_scanNumber, 10)) (List.mem_of_getElem? (i := 7) rfl)) rfl) (al_c (tw_in (t8_1 (List.mem_of_getElem? (i := 10) rfl)) rfl) al_n)))
theorem dX9_scanOne_48 : decode cX9_scanOne 48 = .ok (.ireturn, 1) := by decide +kernel
theorem dX9_scanOne_30 : decode cX9_scanOne 30 = .ok (.aload_n 0, 1) := by decide +kernel
theorem dX9_scanOne_31 : decode cX9_scanOne 31 = .ok (.iload_n 1, 1) := by decide +kernel
theorem dX9_scanOne_32 : decode cX9_scanOne 32 = .ok (.invokevirtual 70, 3) := by decide +kernel
theorem tw_442 : (.code yX9_scanName cX9_scanName 4 (some .int) : Cond) ∈ tw_W := tw_in (t8_3 (List.mem_of_getElem? (i := 1) rfl)) rfl
theorem tw_443 : ∀ w ∈ ([.methodLink RX9 70 yX9_scanName, .instanceMethod yX9_scanName, .selects RX9 yX9_scanName yX9_scanName, .initialized RX9] : List Cond), w ∈ tw_W := al_c (tw_in (t8_2 (List.mem_of_getElem? (i := 238) rfl)) rfl) (al_c (tw_in (t8_3 (List.mem_of_getElem? (i := 0) rfl)) rfl) (al_c (tw_in (t7_1 (q := (yX9_scanName, 10)) (List.mem_of_getElem? (i := 3) rfl)) rfl) (al_c (tw_in (t8_1 (List.mem_of_getElem? (i := 10) rfl)) rfl) al_n)))
theorem dX9_scanOne_35 : decode cX9_scanOne 35 = .ok (.ireturn, 1) := by decide +kernel
theorem dX9_scanOne_14 : decode cX9_scanOne 14 = .ok (.aload_n 0, 1) := by decide +kernel
theorem dX9_scanOne_15 : decode cX9_scanOne 15 = .ok (.iconst 0, 1) := by decide +kernel
theorem dX9_scanOne_16 : decode cX9_scanOne 16 = .ok (.iload_n 1, 1) := by decide +kernel
theorem dX9_scanOne_17 : decode cX9_scanOne 17 = .ok (.iconst 0, 1) := by decide +kernel
theorem dX9_scanOne_18 : decode cX9_scanOne 18 = .ok (.iconst 0, 1) := by decide +kernel
theorem dX9_scanOne_19 : decode cX9_scanOne 19 = .ok (.invokevirtual 62, 3) := by decide +kernel
theorem dX9_scanOne_22 : decode cX9_scanOne 22 = .ok (.ireturn, 1) := by decide +kernel
theorem dX9_scan_0 : decode cX9_scan 0 = .ok (.aload_n 0, 1) := by decide +kernel
theorem dX9_scan_1 : decode cX9_scan 1 = .ok (.aload_n 1, 1) := by decide +kernel
theorem dX9_scan_2 : decode cX9_scan 2 = .ok (.putfield 21, 3) := by decide +kernel
theorem dX9_scan_5 : decode cX9_scan 5 = .ok (.aload_n 0, 1) := by decide +kernel
theorem dX9_scan_6 : decode cX9_scan 6 = .ok (.iconst 0, 1) := by decide +kernel
theorem dX9_scan_7 : decode cX9_scan 7 = .ok (.putfield 28, 3) := by decide +kernel
theorem dX9_scan_10 : decode cX9_scan 10 = .ok (.aload_n 0, 1) := by decide +kernel
theorem dX9_scan_11 : decode cX9_scan 11 = .ok (.iconst 0, 1) := by decide +kernel
theorem dX9_scan_12 : decode cX9_scan 12 = .ok (.putfield 32, 3) := by decide +kernel
theorem tw_444 : (.fieldLink RX9 32 "PocketCompiler$Tokens" "at" "I" : Cond) ∈ tw_W := tw_in (t8_1 (List.mem_of_getElem? (i := 196) rfl)) rfl
theorem dX9_scan_15 : decode cX9_scan 15 = .ok (.aload_n 0, 1) := by decide +kernel
theorem dX9_scan_16 : decode cX9_scan 16 = .ok (.iconst 0, 1) := by decide +kernel
theorem dX9_scan_17 : decode cX9_scan 17 = .ok (.putfield 35, 3) := by decide +kernel
theorem tw_445 : (.fieldLink RX9 35 "PocketCompiler$Tokens" "opened" "I" : Cond) ∈ tw_W := tw_in (t8_1 (List.mem_of_getElem? (i := 197) rfl)) rfl
theorem dX9_scan_20 : decode cX9_scan 20 = .ok (.aload_n 0, 1) := by decide +kernel
theorem dX9_scan_21 : decode cX9_scan 21 = .ok (.iconst (-1), 1) := by decide +kernel
theorem dX9_scan_22 : decode cX9_scan 22 = .ok (.putfield 38, 3) := by decide +kernel
theorem tw_446 : (.fieldLink RX9 38 "PocketCompiler$Tokens" "dueAt" "I" : Cond) ∈ tw_W := tw_in (t8_1 (List.mem_of_getElem? (i := 198) rfl)) rfl
theorem dX9_scan_25 : decode cX9_scan 25 = .ok (.aload_n 0, 1) := by decide +kernel
theorem dX9_scan_26 : decode cX9_scan 26 = .ok (.iconst 0, 1) := by decide +kernel
theorem dX9_scan_27 : decode cX9_scan 27 = .ok (.putfield 41, 3) := by decide +kernel
theorem tw_447 : (.fieldLink RX9 41 "PocketCompiler$Tokens" "faultKind" "I" : Cond) ∈ tw_W := tw_in (t8_1 (List.mem_of_getElem? (i := 200) rfl)) rfl
theorem dX9_scan_30 : decode cX9_scan 30 = .ok (.aload_n 0, 1) := by decide +kernel
theorem dX9_scan_31 : decode cX9_scan 31 = .ok (.iconst (-1), 1) := by decide +kernel
theorem dX9_scan_32 : decode cX9_scan 32 = .ok (.putfield 44, 3) := by decide +kernel
theorem tw_448 : (.fieldLink RX9 44 "PocketCompiler$Tokens" "faultPlace" "I" : Cond) ∈ tw_W := tw_in (t8_1 (List.mem_of_getElem? (i := 202) rfl)) rfl
theorem dX9_scan_35 : decode cX9_scan 35 = .ok (.iconst 0, 1) := by decide +kernel
theorem dX9_scan_36 : decode cX9_scan 36 = .ok (.istore_n 2, 1) := by decide +kernel
theorem dX9_scan_37 : decode cX9_scan 37 = .ok (.iconst 0, 1) := by decide +kernel
theorem dX9_scan_38 : decode cX9_scan 38 = .ok (.istore_n 3, 1) := by decide +kernel
theorem dX9_scan_39 : decode cX9_scan 39 = .ok (.iload_n 3, 1) := by decide +kernel
theorem dX9_scan_40 : decode cX9_scan 40 = .ok (.sipush 1503, 3) := by decide +kernel
theorem dX9_scan_43 : decode cX9_scan 43 = .ok (.if_icmp .ge 39, 3) := by decide +kernel
theorem dX9_scan_82 : decode cX9_scan 82 = .ok (.return_, 1) := by decide +kernel
theorem dX9_scan_46 : decode cX9_scan 46 = .ok (.aload_n 0, 1) := by decide +kernel
theorem dX9_scan_47 : decode cX9_scan 47 = .ok (.aload_n 0, 1) := by decide +kernel
theorem dX9_scan_48 : decode cX9_scan 48 = .ok (.iload_n 2, 1) := by decide +kernel
theorem dX9_scan_49 : decode cX9_scan 49 = .ok (.invokevirtual 47, 3) := by decide +kernel
theorem tw_449 : (.code yX9_behindBlanks cX9_behindBlanks 5 (some .int) : Cond) ∈ tw_W := tw_in (t8_2 (List.mem_of_getElem? (i := 222) rfl)) rfl
theorem tw_450 : ∀ w ∈ ([.methodLink RX9 47 yX9_behindBlanks, .instanceMethod yX9_behindBlanks, .selects RX9 yX9_behindBlanks yX9_behindBlanks, .initialized RX9] : List Cond), w ∈ tw_W := al_c (tw_in (t8_2 (List.mem_of_getElem? (i := 219) rfl)) rfl) (al_c (tw_in (t8_2 (List.mem_of_getElem? (i := 221) rfl)) rfl) (al_c (tw_in (t7_1 (q := (yX9_behindBlanks, 10)) (List.mem_of_getElem? (i := 0) rfl)) rfl) (al_c (tw_in (t8_1 (List.mem_of_getElem? (i := 10) rfl)) rfl) al_n)))
theorem dX9_scan_52 : decode cX9_scan 52 = .ok (.invokevirtual 51, 3) := by decide +kernel
theorem tw_451 : (.code yX9_scanOne cX9_scanOne 3 (some .int) : Cond) ∈ tw_W := tw_in (t8_2 (List.mem_of_getElem? (i := 230) rfl)) rfl
theorem tw_452 : ∀ w ∈ ([.methodLink RX9 51 yX9_scanOne, .instanceMethod yX9_scanOne, .selects RX9 yX9_scanOne yX9_scanOne, .initialized RX9] : List Cond), w ∈ tw_W := al_c (tw_in (t8_2 (List.mem_of_getElem? (i := 227) rfl)) rfl) (al_c (tw_in (t8_2 (List.mem_of_getElem? (i := 229) rfl)) rfl) (al_c (tw_in (t7_1 (q := (yX9_scanOne, 10)) (List.mem_of_getElem? (i := 1) rfl)) rfl) (al_c (tw_in (t8_1 (List.mem_of_getElem? (i := 10) rfl)) rfl) al_n)))
theorem dX9_scan_55 : decode cX9_scan 55 = .ok (.istore_n 2, 1) := by decide +kernel
theorem dX9_scan_56 : decode cX9_scan 56 = .ok (.aload_n 0, 1) := by decide +kernel
theorem dX9_scan_57 : decode cX9_scan 57 = .ok (.getfield 11, 3) := by decide +kernel
theorem dX9_scan_60 : decode cX9_scan 60 = .ok (.iload_n 3, 1) := by decide +kernel
theorem dX9_scan_61 : decode cX9_scan 61 = .ok (.iaload, 1) := by decide +kernel
theorem dX9_scan_62 : decode cX9_scan 62 = .ok (.ifCond .eq 13, 3) := by decide +kernel
theorem dX9_scan_75 : decode cX9_scan 75 = .ok (.return_, 1) := by decide +kernel
theorem dX9_scan_65 : decode cX9_scan 65 = .ok (.aload_n 0, 1) := by decide +kernel
theorem dX9_scan_66 : decode cX9_scan 66 = .ok (.getfield 11, 3) := by decide +kernel
theorem dX9_scan_69 : decode cX9_scan 69 = .ok (.iload_n 3, 1) := by decide +kernel
theorem dX9_scan_70 : decode cX9_scan 70 = .ok (.iaload, 1) := by decide +kernel
theorem dX9_scan_71 : decode cX9_scan 71 = .ok (.iconst 1, 1) := by decide +kernel
theorem dX9_scan_72 : decode cX9_scan 72 = .ok (.if_icmp .ne 4, 3) := by decide +kernel
theorem dX9_scan_76 : decode cX9_scan 76 = .ok (.iinc 3 1, 3) := by decide +kernel
theorem dX9_scan_79 : decode cX9_scan 79 = .ok (.goto (-40), 3) := by decide +kernel
theorem om_281559df77 : (0 ≤ (0 : Int) ∧ (0 : Int) ≤ 40) := by omega
theorem om_2b88c20d58 {x0 : Int} (h0 : x0 < (18 : Int)) : x0 < 18 := by omega
theorem om_cab3821892 {x0 : Int} (h0 : 0 ≤ x0 ∧ x0 ≤ 40) : (0 ≤ x0 ∧ x0 ≤ 40) := by omega
set_option maxHeartbeats 4000000 in
set_option maxRecDepth 100000 in
theorem c_x_X9_strength (l : Launch) (dC : Nat → ClassId) (dI : Nat → Nat → Nat) (cI cB cZ cJ cR : ClassId) (tb : Nat → Nat) (sz : Nat) (pa : Int32)  : Met l yX9_strength (Cond.code yX9_strength cX9_strength 2 (some .int) :: tw_W) ({ frames := 0, cells := 0, slots := 0, locals := 0 }) (pc_ (dC, dI) (tyS cI cB cZ cJ cR) tb [] sz [.int pa]) (qi_ (dC, dI) [] sz (fun (r : Int32) (u : Unit) => (Q_x_X9_strength pa r) ∧ ((0 ≤ r.toInt ∧ r.toInt ≤ 40))) (fun (u : Unit) => [])) 0 0 (va_A [] sz) := by
  refine Met.ofW (cc := cX9_strength) (maxL := 2) (ret := (some .int)) (by decide) rfl ?_
  intro p e s m args below meth c s₁ B hml hv
  obtain ⟨rfl, hsz, hP, hKK, hD0, hFx⟩ := hv
  have hK := hKK.1
  have hx := B.exec
  have hb := B.bytes
  have hr := B.returns
  have ht : ∀ w ∈ tw_W, w.before _ s = true := fun w h => atoms_spec (ws := Cond.code yX9_strength cX9_strength 2 (some .int) :: tw_W) B.pre w (List.mem_cons_of_mem _ h)
  have hown : s.vm.findClass RX9 = some m.cls := findClass_of_methodNamed B.named
  have hlocks := B.notSynchronized
  subst hsz
  unfold qi_
  have hD := hD0.self (sz := s.heap.size)
  generalize hAe : va_A [] s.heap.size = A at hD hFx ⊢
  have hA : ∀ q : Nat, s.heap.size ≤ q → A q := fun q h => by rw [← hAe]; exact Or.inr h
  have hS : va_S A s.heap s.heap [] := va_S.rf
  have hl := lv_entry ([.int pa]) (n := 2) (Nat.le_of_ble_eq_true rfl)
  rw [lg_entry_eq]
  generalize (lg_sl ([.int pa]) ++ List.replicate (2 - (lg_sl ([.int pa])).length) Slot.unset).toArray = ls at hl ⊢
  have hl : lv_has ls 2 [(0, .int pa)] := hl
  refine lv_iload_n hx hb dX9_strength_0 rfl (lv_at hl 0 rfl) ?_
  refine lv_bipush (v := 53) hx hb dX9_strength_1 (by decide) ?_
  refine lv_isub hx hb dX9_strength_3 ?_
  refine lv_istore_n (lv' := [(1, .int (pa - (53 : Int32))), (0, .int pa)]) hx hb dX9_strength_4 rfl hl (by decide) rfl (fun ls hl => ?_)
  refine lv_iload_n hx hb dX9_strength_5 rfl (lv_at hl 0 rfl) ?_
  refine lv_if_lt (tgt := 25) hx hb dX9_strength_6 (by decide) (fun h1 => ?_) (fun h1 => ?_)
  · have z2 : (pa - (53 : Int32)).toInt < (0 : Int) := lt_z rfl (show (0 : Int32).toInt = (0 : Int) by decide) h1
    refine lv_iconst (v := 0) hx hb dX9_strength_25 (by decide) ?_
    exact W.iret (v := 0) hx hb hr (fun t ht9 hW => ⟨⟨0, (), rfl, ⟨(Or.inl ⟨z2, rfl⟩), om_281559df77⟩, by rw [ht9]; exact hP, hD⟩, hS.F ht9⟩) hS.2.2 dX9_strength_26
  · have z3 : (0 : Int) ≤ (pa - (53 : Int32)).toInt := nlt_z rfl (show (0 : Int32).toInt = (0 : Int) by decide) h1
    refine lv_iload_n hx hb dX9_strength_9 rfl (lv_at hl 0 rfl) ?_
    refine va_gets hx hb (show va_Z RX9 "STRENGTHS" "[I" (.ref (tb 5)) A s s.heap from (hFx.2.1 5 _ rfl).1) hS hown (ht _ tw_408) (fun _ h9 => h9) dX9_strength_10 ?_
    refine va_tlen (v := 18) hx hb (hFx.2.1 5 _ rfl).2 hS (by decide) dX9_strength_13 ?_
    refine lv_icmp_ge (tgt := 25) hx hb dX9_strength_14 (by decide) (fun h4 => ?_) (fun h4 => ?_)
    · have z5 : (18 : Int) ≤ (pa - (53 : Int32)).toInt := le_z (show (18 : Int32).toInt = (18 : Int) by decide) rfl h4
      refine lv_iconst (v := 0) hx hb dX9_strength_25 (by decide) ?_
      exact W.iret (v := 0) hx hb hr (fun t ht9 hW => ⟨⟨0, (), rfl, ⟨(Or.inr (⟨z3, (Or.inl ⟨z5, rfl⟩)⟩)), om_281559df77⟩, by rw [ht9]; exact hP, hD⟩, hS.F ht9⟩) hS.2.2 dX9_strength_26
    · have z6 : (pa - (53 : Int32)).toInt < (18 : Int) := nle_z (show (18 : Int32).toInt = (18 : Int) by decide) rfl h4
      refine va_gets hx hb (show va_Z RX9 "STRENGTHS" "[I" (.ref (tb 5)) A s s.heap from (hFx.2.1 5 _ rfl).1) hS hown (ht _ tw_408) (fun _ h9 => h9) dX9_strength_17 ?_
      refine lv_iload_n hx hb dX9_strength_20 rfl (lv_at hl 0 rfl) ?_
      refine va_ti (v := .int (([9, 9, 10, 10, 10, 5, 3, 4, 8, 8, 6, 6, 7, 7, 7, 7, 2, 1] : List Int32).getD (pa - (53 : Int32)).toNatClampNeg 0)) hx hb (hFx.2.1 5 _ rfl).2 hS (in_y (a := (pa - (53 : Int32)).toInt) (b := 18) rfl (om_51058f7f87 z3) (om_2b88c20d58 z6) rfl) rfl dX9_strength_21 ?_
      obtain ⟨g7, hg8⟩ : ∃ z : Int32, z = (([9, 9, 10, 10, 10, 5, 3, 4, 8, 8, 6, 6, 7, 7, 7, 7, 2, 1] : List Int32).getD (pa - (53 : Int32)).toNatClampNeg 0) := ⟨_, rfl⟩
      refine tp_i (y := g7) hg8.symm ?_
      have z9 : 0 ≤ g7.toInt ∧ g7.toInt ≤ 40 := tbr_f (by decide) hg8
      refine lv_goto (tgt := 26) hx hb dX9_strength_22 (by decide) ?_
      exact W.iret (v := g7) hx hb hr (fun t ht9 hW => ⟨⟨g7, (), rfl, ⟨(Or.inr (⟨z3, (Or.inr (⟨z6, g7, hg8, rfl⟩))⟩)), (om_cab3821892 z9)⟩, by rw [ht9]; exact hP, hD⟩, hS.F ht9⟩) hS.2.2 dX9_strength_26
theorem om_d684ea0dbb {x0 : Int} (h0 : x0 ≠ (16 : Int)) (h1 : x0 = (16 : Int)) : False := by omega
theorem om_54705a9b65 {x0 : Int} (h0 : x0 = (16 : Int)) (h1 : x0 ≠ (16 : Int)) : False := by omega
set_option maxHeartbeats 4000000 in
set_option maxRecDepth 100000 in
theorem c_x_X9_digitValue (l : Launch) (dC : Nat → ClassId) (dI : Nat → Nat → Nat) (cI cB cZ cJ cR : ClassId) (tb : Nat → Nat) (sz : Nat) (pa : Int32) (pb : Int32)  : Met l yX9_digitValue (Cond.code yX9_digitValue cX9_digitValue 2 (some .int) :: tw_W) ({ frames := 1, cells := 0, slots := 0, locals := 20 }) (pc_ (dC, dI) (tyS cI cB cZ cJ cR) tb [] sz [.int pa, .int pb]) (qi_ (dC, dI) [] sz (fun (r : Int32) (u : Unit) => (Q_x_X9_digitValue pa pb r)) (fun (u : Unit) => [])) 0 0 (va_A [] sz) := by
  refine Met.ofW (cc := cX9_digitValue) (maxL := 2) (ret := (some .int)) (by decide) rfl ?_
  intro p e s m args below meth c s₁ B hml hv
  obtain ⟨rfl, hsz, hP, hKK, hD0, hFx⟩ := hv
  have hK := hKK.1
  have hx := B.exec
  have hb := B.bytes
  have hr := B.returns
  have ht : ∀ w ∈ tw_W, w.before _ s = true := fun w h => atoms_spec (ws := Cond.code yX9_digitValue cX9_digitValue 2 (some .int) :: tw_W) B.pre w (List.mem_cons_of_mem _ h)
  have hown : s.vm.findClass RX9 = some m.cls := findClass_of_methodNamed B.named
  have hlocks := B.notSynchronized
  subst hsz
  unfold qi_
  have hD := hD0.self (sz := s.heap.size)
  generalize hAe : va_A [] s.heap.size = A at hD hFx ⊢
  have hA : ∀ q : Nat, s.heap.size ≤ q → A q := fun q h => by rw [← hAe]; exact Or.inr h
  have hS : va_S A s.heap s.heap [] := va_S.rf
  have hl := lv_entry ([.int pa, .int pb]) (n := 2) (Nat.le_of_ble_eq_true rfl)
  rw [lg_entry_eq]
  generalize (lg_sl ([.int pa, .int pb]) ++ List.replicate (2 - (lg_sl ([.int pa, .int pb])).length) Slot.unset).toArray = ls at hl ⊢
  have hl : lv_has ls 2 [(0, .int pa), (1, .int pb)] := hl
  refine lv_iload_n hx hb dX9_digitValue_0 rfl (lv_at hl 0 rfl) ?_
  refine cu_i (rn_S (n := 1) (As := [.int pa]) (rest := []) hx hb hml hown ht hKK hFx hP hD hS hA (c_x_X9_isDigit l dC dI cI cB cZ cJ cR tb s.heap.size pa ) tw_409 tw_410 (by decide +kernel) rfl rfl ⟨Nat.le_of_ble_eq_true rfl, Nat.le_of_ble_eq_true rfl⟩ [] rfl rfl rfl hl.1 rfl (Nat.le_of_ble_eq_true rfl) dX9_digitValue_1 ⟨Nat.le_of_ble_eq_true rfl, Nat.le_of_ble_eq_true rfl⟩) hP hD hS hA (fun r3 _ H locs hw1 hP hD hS => ?_)
  obtain ⟨ex1, b1, e1⟩ := hw1
  have b1 : (r3 = 0 ∨ r3 = 1) := b1
  have e1 : (0 ≤ r3.toInt ∧ r3.toInt ≤ 1) := e1
  refine W.widen (k := 0) (n := 0) (Nat.le_refl _) (Nat.le_refl _) ?_
  refine lv_if_eq (tgt := 12) hx hb dX9_digitValue_4 (by decide) (fun h4 => ?_) (fun h4 => ?_)
  · have z5 : r3.toInt = (0 : Int) := eq_z rfl (show (0 : Int32).toInt = (0 : Int) by decide) h4
    refine lv_iload_n hx hb dX9_digitValue_12 rfl (lv_at hl 1 rfl) ?_
    refine lv_bipush (v := 16) hx hb dX9_digitValue_13 (by decide) ?_
    refine lv_icmp_ne (tgt := 38) hx hb dX9_digitValue_15 (by decide) (fun h6 => ?_) (fun h6 => ?_)
    · have z7 : pb.toInt ≠ (16 : Int) := ne_z rfl (show (16 : Int32).toInt = (16 : Int) by decide) h6
      refine lv_iload_n hx hb dX9_digitValue_38 rfl (lv_at hl 1 rfl) ?_
      refine lv_bipush (v := 16) hx hb dX9_digitValue_39 (by decide) ?_
      refine lv_icmp_ne (tgt := 66) hx hb dX9_digitValue_41 (by decide) (fun h8 => ?_) (fun h8 => ?_)
      · have z9 : pb.toInt ≠ (16 : Int) := ne_z rfl (show (16 : Int32).toInt = (16 : Int) by decide) h8
        refine lv_iconst (v := -1) hx hb dX9_digitValue_66 (by decide) ?_
        exact W.iret (v := (-1)) hx hb hr (fun t ht9 hW => ⟨⟨(-1), (), rfl, ⟨r3, ex1, ⟨b1, e1⟩, (Or.inl ⟨z5, (Or.inl ⟨z7, z9, rfl⟩)⟩)⟩, by rw [ht9]; exact hP, hD⟩, hS.F ht9⟩) hS.2.2 dX9_digitValue_67
      · have z10 : pb.toInt = (16 : Int) := eq_z rfl (show (16 : Int32).toInt = (16 : Int) by decide) h8
        exact False.elim (om_d684ea0dbb z7 z10)
    · have z11 : pb.toInt = (16 : Int) := eq_z rfl (show (16 : Int32).toInt = (16 : Int) by decide) h6
      refine lv_iload_n hx hb dX9_digitValue_18 rfl (lv_at hl 0 rfl) ?_
      refine lv_bipush (v := 97) hx hb dX9_digitValue_19 (by decide) ?_
      refine lv_icmp_lt (tgt := 38) hx hb dX9_digitValue_21 (by decide) (fun h12 => ?_) (fun h12 => ?_)
      · have z13 : pa.toInt < (97 : Int) := lt_z rfl (show (97 : Int32).toInt = (97 : Int) by decide) h12
        refine lv_iload_n hx hb dX9_digitValue_38 rfl (lv_at hl 1 rfl) ?_
        refine lv_bipush (v := 16) hx hb dX9_digitValue_39 (by decide) ?_
        refine lv_icmp_ne (tgt := 66) hx hb dX9_digitValue_41 (by decide) (fun h14 => ?_) (fun h14 => ?_)
        · have z15 : pb.toInt ≠ (16 : Int) := ne_z rfl (show (16 : Int32).toInt = (16 : Int) by decide) h14
          exact False.elim (om_54705a9b65 z11 z15)
        · have z16 : pb.toInt = (16 : Int) := eq_z rfl (show (16 : Int32).toInt = (16 : Int) by decide) h14
          refine lv_iload_n hx hb dX9_digitValue_44 rfl (lv_at hl 0 rfl) ?_
          refine lv_bipush (v := 65) hx hb dX9_digitValue_45 (by decide) ?_
          refine lv_icmp_lt (tgt := 66) hx hb dX9_digitValue_47 (by decide) (fun h17 => ?_) (fun h17 => ?_)
          · have z18 : pa.toInt < (65 : Int) := lt_z rfl (show (65 : Int32).toInt = (65 : Int) by decide) h17
            refine lv_iconst (v := -1) hx hb dX9_digitValue_66 (by decide) ?_
            exact W.iret (v := (-1)) hx hb hr (fun t ht9 hW => ⟨⟨(-1), (), rfl, ⟨r3, ex1, ⟨b1, e1⟩, (Or.inl ⟨z5, (Or.inr (⟨z11, (Or.inl ⟨z13, z16, (Or.inl ⟨z18, rfl⟩)⟩)⟩))⟩)⟩, by rw [ht9]; exact hP, hD⟩, hS.F ht9⟩) hS.2.2 dX9_digitValue_67
          · have z19 : (65 : Int) ≤ pa.toInt := nlt_z rfl (show (65 : Int32).toInt = (65 : Int) by decide) h17
            refine lv_iload_n hx hb dX9_digitValue_50 rfl (lv_at hl 0 rfl) ?_
            refine lv_bipush (v := 70) hx hb dX9_digitValue_51 (by decide) ?_
            refine lv_icmp_gt (tgt := 66) hx hb dX9_digitValue_53 (by decide) (fun h20 => ?_) (fun h20 => ?_)
            · have z21 : (70 : Int) < pa.toInt := lt_z (show (70 : Int32).toInt = (70 : Int) by decide) rfl h20
              refine lv_iconst (v := -1) hx hb dX9_digitValue_66 (by decide) ?_
              exact W.iret (v := (-1)) hx hb hr (fun t ht9 hW => ⟨⟨(-1), (), rfl, ⟨r3, ex1, ⟨b1, e1⟩, (Or.inl ⟨z5, (Or.inr (⟨z11, (Or.inl ⟨z13, z16, (Or.inr (⟨z19, (Or.inl ⟨z21, rfl⟩)⟩))⟩)⟩))⟩)⟩, by rw [ht9]; exact hP, hD⟩, hS.F ht9⟩) hS.2.2 dX9_digitValue_67
            · have z22 : pa.toInt ≤ (70 : Int) := nlt_z (show (70 : Int32).toInt = (70 : Int) by decide) rfl h20
              refine lv_iload_n hx hb dX9_digitValue_56 rfl (lv_at hl 0 rfl) ?_
              refine lv_bipush (v := 65) hx hb dX9_digitValue_57 (by decide) ?_
              refine lv_isub hx hb dX9_digitValue_59 ?_
              have z23 : (pa - (65 : Int32)).toInt = pa.toInt - (65 : Int) := sub_z rfl (show (65 : Int32).toInt = (65 : Int) by decide) (om_60f31c015d z19) (om_6d58d28ea6 z22)
              refine lv_bipush (v := 10) hx hb dX9_digitValue_60 (by decide) ?_
              refine lv_iadd hx hb dX9_digitValue_62 ?_
              have z24 : ((pa - (65 : Int32)) + (10 : Int32)).toInt = (pa.toInt - (65 : Int)) + (10 : Int) := add_z z23 (show (10 : Int32).toInt = (10 : Int) by decide) (om_f8f82cab90 z19) (om_f834ec4c13 z22)
              refine lv_goto (tgt := 67) hx hb dX9_digitValue_63 (by decide) ?_
              exact W.iret (v := ((pa - (65 : Int32)) + (10 : Int32))) hx hb hr (fun t ht9 hW => ⟨⟨((pa - (65 : Int32)) + (10 : Int32)), (), rfl, ⟨r3, ex1, ⟨b1, e1⟩, (Or.inl ⟨z5, (Or.inr (⟨z11, (Or.inl ⟨z13, z16, (Or.inr (⟨z19, (Or.inr (⟨z22, rfl⟩))⟩))⟩)⟩))⟩)⟩, by rw [ht9]; exact hP, hD⟩, hS.F ht9⟩) hS.2.2 dX9_digitValue_67
      · have z25 : (97 : Int) ≤ pa.toInt := nlt_z rfl (show (97 : Int32).toInt = (97 : Int) by decide) h12
        refine lv_iload_n hx hb dX9_digitValue_24 rfl (lv_at hl 0 rfl) ?_
        refine lv_bipush (v := 102) hx hb dX9_digitValue_25 (by decide) ?_
        refine lv_icmp_gt (tgt := 38) hx hb dX9_digitValue_27 (by decide) (fun h26 => ?_) (fun h26 => ?_)
        · have z27 : (102 : Int) < pa.toInt := lt_z (show (102 : Int32).toInt = (102 : Int) by decide) rfl h26
          refine lv_iload_n hx hb dX9_digitValue_38 rfl (lv_at hl 1 rfl) ?_
          refine lv_bipush (v := 16) hx hb dX9_digitValue_39 (by decide) ?_
          refine lv_icmp_ne (tgt := 66) hx hb dX9_digitValue_41 (by decide) (fun h28 => ?_) (fun h28 => ?_)
          · have z29 : pb.toInt ≠ (16 : Int) := ne_z rfl (show (16 : Int32).toInt = (16 : Int) by decide) h28
            exact False.elim (om_54705a9b65 z11 z29)
          · have z30 : pb.toInt = (16 : Int) := eq_z rfl (show (16 : Int32).toInt = (16 : Int) by decide) h28
            refine lv_iload_n hx hb dX9_digitValue_44 rfl (lv_at hl 0 rfl) ?_
            refine lv_bipush (v := 65) hx hb dX9_digitValue_45 (by decide) ?_
            refine lv_icmp_lt (tgt := 66) hx hb dX9_digitValue_47 (by decide) (fun h31 => ?_) (fun h31 => ?_)
            · have z32 : pa.toInt < (65 : Int) := lt_z rfl (show (65 : Int32).toInt = (65 : Int) by decide) h31
              exact False.elim (om_7b8ef6797d z27 z32)
            · have z33 : (65 : Int) ≤ pa.toInt := nlt_z rfl (show (65 : Int32).toInt = (65 : Int) by decide) h31
              refine lv_iload_n hx hb dX9_digitValue_50 rfl (lv_at hl 0 rfl) ?_
              refine lv_bipush (v := 70) hx hb dX9_digitValue_51 (by decide) ?_
              refine lv_icmp_gt (tgt := 66) hx hb dX9_digitValue_53 (by decide) (fun h34 => ?_) (fun h34 => ?_)
              · have z35 : (70 : Int) < pa.toInt := lt_z (show (70 : Int32).toInt = (70 : Int) by decide) rfl h34
                refine lv_iconst (v := -1) hx hb dX9_digitValue_66 (by decide) ?_
                exact W.iret (v := (-1)) hx hb hr (fun t ht9 hW => ⟨⟨(-1), (), rfl, ⟨r3, ex1, ⟨b1, e1⟩, (Or.inl ⟨z5, (Or.inr (⟨z11, (Or.inr (⟨z25, (Or.inl ⟨z27, z30, z33, z35, rfl⟩)⟩))⟩))⟩)⟩, by rw [ht9]; exact hP, hD⟩, hS.F ht9⟩) hS.2.2 dX9_digitValue_67
              · have z36 : pa.toInt ≤ (70 : Int) := nlt_z (show (70 : Int32).toInt = (70 : Int) by decide) rfl h34
                exact False.elim (om_ce52802e31 z27 z36)
        · have z37 : pa.toInt ≤ (102 : Int) := nlt_z (show (102 : Int32).toInt = (102 : Int) by decide) rfl h26
          refine lv_iload_n hx hb dX9_digitValue_30 rfl (lv_at hl 0 rfl) ?_
          refine lv_bipush (v := 97) hx hb dX9_digitValue_31 (by decide) ?_
          refine lv_isub hx hb dX9_digitValue_33 ?_
          have z38 : (pa - (97 : Int32)).toInt = pa.toInt - (97 : Int) := sub_z rfl (show (97 : Int32).toInt = (97 : Int) by decide) (om_1c7caf910d z25) (om_0e772cc716 z37)
          refine lv_bipush (v := 10) hx hb dX9_digitValue_34 (by decide) ?_
          refine lv_iadd hx hb dX9_digitValue_36 ?_
          have z39 : ((pa - (97 : Int32)) + (10 : Int32)).toInt = (pa.toInt - (97 : Int)) + (10 : Int) := add_z z38 (show (10 : Int32).toInt = (10 : Int) by decide) (om_35e69abe49 z25) (om_898542f2cc z37)
          exact W.iret (v := ((pa - (97 : Int32)) + (10 : Int32))) hx hb hr (fun t ht9 hW => ⟨⟨((pa - (97 : Int32)) + (10 : Int32)), (), rfl, ⟨r3, ex1, ⟨b1, e1⟩, (Or.inl ⟨z5, (Or.inr (⟨z11, (Or.inr (⟨z25, (Or.inr (⟨z37, rfl⟩))⟩))⟩))⟩)⟩, by rw [ht9]; exact hP, hD⟩, hS.F ht9⟩) hS.2.2 dX9_digitValue_37
  · have z40 : r3.toInt ≠ (0 : Int) := ne_z rfl (show (0 : Int32).toInt = (0 : Int) by decide) h4
    refine lv_iload_n hx hb dX9_digitValue_7 rfl (lv_at hl 0 rfl) ?_
    refine lv_bipush (v := 48) hx hb dX9_digitValue_8 (by decide) ?_
    refine lv_isub hx hb dX9_digitValue_10 ?_
    exact W.iret (v := (pa - (48 : Int32))) hx hb hr (fun t ht9 hW => ⟨⟨(pa - (48 : Int32)), (), rfl, ⟨r3, ex1, ⟨b1, e1⟩, (Or.inr (⟨z40, rfl⟩))⟩, by rw [ht9]; exact hP, hD⟩, hS.F ht9⟩) hS.2.2 dX9_digitValue_11
theorem om_2993dd049b {x0 : Int} (h0 : 0 ≤ x0 ∧ x0 ≤ 1503) (h1 : (1503 : Int) ≤ x0) : 0 ≤ x0 ∧ x0 ≤ 1503 := by omega
theorem om_fb6af053eb {x0 : Int} (h0 : 0 ≤ x0 ∧ x0 ≤ 1503) : 0 ≤ x0 := by omega
theorem om_38135f3232 {x0 : Int} (h0 : x0 < (1503 : Int)) : x0 < 1503 := by omega
theorem om_30f45bbad8 {x0 : Int} (h0 : 0 ≤ x0 ∧ x0 ≤ 1503) : -2147483648 ≤ (x0) + (1 : Int) := by omega
theorem om_133b161cd3 {x0 : Int} (h0 : 0 ≤ x0 ∧ x0 ≤ 1503) : (x0) + (1 : Int) < 2147483648 := by omega
theorem om_617ec610fa {x0 x1 : Int} (h0 : 0 ≤ x0 ∧ x0 ≤ 1503) (h1 : x0 < (1503 : Int)) (h2 : x1 = (x0) + (1 : Int)) : 0 ≤ x1 ∧ x1 ≤ 1503 := by omega
set_option maxHeartbeats 4000000 in
set_option maxRecDepth 100000 in
theorem c_x_X9_add (l : Launch) (dC : Nat → ClassId) (dI : Nat → Nat → Nat) (cI cB cZ cJ cR : ClassId) (tb : Nat → Nat) (sz : Nat) (ad : Nat → Nat) (pr : Int32 → Nat) (N : Nat) (L1 L2 : List Nat) (v : MS) (pa : Int32) (pb : Int32) (pc1 : Int32) (pd : Int32) (z304 : 0 ≤ (v.1 0 304).toInt ∧ (v.1 0 304).toInt ≤ 1503) : Met l yX9_add (Cond.code yX9_add cX9_add 5 (some .int) :: tw_W) ({ frames := 0, cells := 0, slots := 0, locals := 0 }) (pc_ (dC, dI) (tyS cI cB cZ cJ cR) tb (cW ad pr N cI cR L1 L2 v) sz [.ref (ad 900), .int pa, .int pb, .int pc1, .int pd]) (qi_ (dC, dI) (cW ad pr N cI cR L1 L2 v) sz (fun (r : Int32) (u : MS) => FC [304] [0, 301, 302, 303] v u ∧ (Q_x_X9_add L1 L2 v pa pb pc1 pd r u) ∧ (0 ≤ (u.1 0 304).toInt ∧ (u.1 0 304).toInt ≤ 1503) ∧ (RS v u)) (fun (u : MS) => (cW ad pr N cI cR L1 L2 u))) 0 0 (va_A (cW ad pr N cI cR L1 L2 v) sz) := by
  refine Met.ofW (cc := cX9_add) (maxL := 5) (ret := (some .int)) (by decide) rfl ?_
  intro p e s m args below meth c s₁ B hml hv
  obtain ⟨rfl, hsz, hP, hKK, hD0, hFx⟩ := hv
  have hK := hKK.1
  have hx := B.exec
  have hb := B.bytes
  have hr := B.returns
  have ht : ∀ w ∈ tw_W, w.before _ s = true := fun w h => atoms_spec (ws := Cond.code yX9_add cX9_add 5 (some .int) :: tw_W) B.pre w (List.mem_cons_of_mem _ h)
  have hown : s.vm.findClass RX9 = some m.cls := findClass_of_methodNamed B.named
  have hlocks := B.notSynchronized
  subst hsz
  unfold qi_
  have hD := hD0.self (sz := s.heap.size)
  generalize hAe : va_A (cW ad pr N cI cR L1 L2 v) s.heap.size = A at hD hFx ⊢
  have hA : ∀ q : Nat, s.heap.size ≤ q → A q := fun q h => by rw [← hAe]; exact Or.inr h
  have hS : va_S A s.heap s.heap [] := va_S.rf
  have hl := lv_entry ([.ref (ad 900), .int pa, .int pb, .int pc1, .int pd]) (n := 5) (Nat.le_of_ble_eq_true rfl)
  rw [lg_entry_eq]
  generalize (lg_sl ([.ref (ad 900), .int pa, .int pb, .int pc1, .int pd]) ++ List.replicate (5 - (lg_sl ([.ref (ad 900), .int pa, .int pb, .int pc1, .int pd])).length) Slot.unset).toArray = ls at hl ⊢
  have hl : lv_has ls 5 [(0, .ref (ad 900)), (1, .int pa), (2, .int pb), (3, .int pc1), (4, .int pd)] := hl
  refine lv_aload_n hx hb dX9_add_0 rfl (lv_at hl 0 rfl) ?_
  refine va_get (D := (dC, dI)) (ci := 12) (fs := oF_X9 ad pr v) (v := .int (v.1 0 304)) (C := RX9) (T := TX9) (N := 10) hx hb ht itX9 hown hK hP 0 rfl rfl 4 (by decide) (ht _ tw_411) (fun _ h9 => h9) rfl dX9_add_1 ?_
  refine lv_sipush (v := 1503) hx hb dX9_add_4 (by decide) ?_
  refine lv_icmp_ge (tgt := 50) hx hb dX9_add_7 (by decide) (fun h1 => ?_) (fun h1 => ?_)
  · have z2 : (1503 : Int) ≤ (v.1 0 304).toInt := le_z (show (1503 : Int32).toInt = (1503 : Int) by decide) rfl h1
    refine lv_iload_n hx hb dX9_add_50 rfl (lv_at hl 2 rfl) ?_
    refine lv_iload hx hb dX9_add_51 (lv_at hl 4 rfl) ?_
    refine lv_iadd hx hb dX9_add_53 ?_
    exact W.iret (v := (pb + pd)) hx hb hr (fun t ht9 hW => ⟨⟨(pb + pd), v, rfl, ⟨(FC.rf _), ⟨z304, (Or.inl ⟨z2, rfl, rfl⟩)⟩, (show 0 ≤ (v.1 0 304).toInt ∧ (v.1 0 304).toInt ≤ 1503 from (om_2993dd049b z304 z2)), RS.rf⟩, by rw [ht9]; exact hP, hD⟩, hS.F ht9⟩) hS.2.2 dX9_add_54
  · have z3 : (v.1 0 304).toInt < (1503 : Int) := nle_z (show (1503 : Int32).toInt = (1503 : Int) by decide) rfl h1
    refine lv_aload_n hx hb dX9_add_10 rfl (lv_at hl 0 rfl) ?_
    refine va_get (D := (dC, dI)) (ci := 12) (fs := oF_X9 ad pr v) (v := .ref (ad 301)) (C := RX9) (T := TX9) (N := 10) hx hb ht itX9 hown hK hP 0 rfl rfl 1 (by decide) (ht _ tw_412) (fun _ h9 => h9) rfl dX9_add_11 ?_
    refine lv_aload_n hx hb dX9_add_14 rfl (lv_at hl 0 rfl) ?_
    refine va_get (D := (dC, dI)) (ci := 12) (fs := oF_X9 ad pr v) (v := .int (v.1 0 304)) (C := RX9) (T := TX9) (N := 10) hx hb ht itX9 hown hK hP 0 rfl rfl 4 (by decide) (ht _ tw_411) (fun _ h9 => h9) rfl dX9_add_15 ?_
    refine lv_iload_n hx hb dX9_add_18 rfl (lv_at hl 1 rfl) ?_
    refine va_iast (D := (dC, dI)) (f := (v.1 301)) hx hb hK hP hD hS 10 0 rfl rfl (in_y (a := (v.1 0 304).toInt) (b := 1503) rfl (om_fb6af053eb z304) (om_38135f3232 z3) rfl) dX9_add_19 (fun H locs hP hD hS => ?_)
    have hP := cP_ (cq_301 ad pr N cI cR L1 L2 v ((v.1 0 304).toNatClampNeg) pa) hP
    have hD := cD_ (cq_301 ad pr N cI cR L1 L2 v ((v.1 0 304).toNatClampNeg) pa) hD
    refine lv_aload_n hx hb dX9_add_20 rfl (lv_at hl 0 rfl) ?_
    refine va_get (D := (dC, dI)) (ci := 12) (fs := oF_X9 ad pr (wA v 301 ((v.1 0 304).toNatClampNeg) pa)) (v := .ref (ad 302)) (C := RX9) (T := TX9) (N := 10) hx hb ht itX9 hown hK hP 0 rfl rfl 2 (by decide) (ht _ tw_413) (fun _ h9 => h9) rfl dX9_add_21 ?_
    refine lv_aload_n hx hb dX9_add_24 rfl (lv_at hl 0 rfl) ?_
    refine va_get (D := (dC, dI)) (ci := 12) (fs := oF_X9 ad pr (wA v 301 ((v.1 0 304).toNatClampNeg) pa)) (v := .int (v.1 0 304)) (C := RX9) (T := TX9) (N := 10) hx hb ht itX9 hown hK hP 0 rfl rfl 4 (by decide) (ht _ tw_411) (fun _ h9 => h9) rfl dX9_add_25 ?_
    refine lv_iload_n hx hb dX9_add_28 rfl (lv_at hl 2 rfl) ?_
    refine va_iast (D := (dC, dI)) (f := (v.1 302)) hx hb hK hP hD hS 11 0 rfl rfl (in_y (a := (v.1 0 304).toInt) (b := 1503) rfl (om_fb6af053eb z304) (om_38135f3232 z3) rfl) dX9_add_29 (fun H locs hP hD hS => ?_)
    have hP := cP_ (cq_302 ad pr N cI cR L1 L2 (wA v 301 ((v.1 0 304).toNatClampNeg) pa) ((v.1 0 304).toNatClampNeg) pb) hP
    have hD := cD_ (cq_302 ad pr N cI cR L1 L2 (wA v 301 ((v.1 0 304).toNatClampNeg) pa) ((v.1 0 304).toNatClampNeg) pb) hD
    refine lv_aload_n hx hb dX9_add_30 rfl (lv_at hl 0 rfl) ?_
    refine va_get (D := (dC, dI)) (ci := 12) (fs := oF_X9 ad pr (wA (wA v 301 ((v.1 0 304).toNatClampNeg) pa) 302 ((v.1 0 304).toNatClampNeg) pb)) (v := .ref (ad 303)) (C := RX9) (T := TX9) (N := 10) hx hb ht itX9 hown hK hP 0 rfl rfl 3 (by decide) (ht _ tw_414) (fun _ h9 => h9) rfl dX9_add_31 ?_
    refine lv_aload_n hx hb dX9_add_34 rfl (lv_at hl 0 rfl) ?_
    refine va_get (D := (dC, dI)) (ci := 12) (fs := oF_X9 ad pr (wA (wA v 301 ((v.1 0 304).toNatClampNeg) pa) 302 ((v.1 0 304).toNatClampNeg) pb)) (v := .int (v.1 0 304)) (C := RX9) (T := TX9) (N := 10) hx hb ht itX9 hown hK hP 0 rfl rfl 4 (by decide) (ht _ tw_411) (fun _ h9 => h9) rfl dX9_add_35 ?_
    refine lv_iload_n hx hb dX9_add_38 rfl (lv_at hl 3 rfl) ?_
    refine va_iast (D := (dC, dI)) (f := (v.1 303)) hx hb hK hP hD hS 12 0 rfl rfl (in_y (a := (v.1 0 304).toInt) (b := 1503) rfl (om_fb6af053eb z304) (om_38135f3232 z3) rfl) dX9_add_39 (fun H locs hP hD hS => ?_)
    have hP := cP_ (cq_303 ad pr N cI cR L1 L2 (wA (wA v 301 ((v.1 0 304).toNatClampNeg) pa) 302 ((v.1 0 304).toNatClampNeg) pb) ((v.1 0 304).toNatClampNeg) pc1) hP
    have hD := cD_ (cq_303 ad pr N cI cR L1 L2 (wA (wA v 301 ((v.1 0 304).toNatClampNeg) pa) 302 ((v.1 0 304).toNatClampNeg) pb) ((v.1 0 304).toNatClampNeg) pc1) hD
    refine lv_aload_n hx hb dX9_add_40 rfl (lv_at hl 0 rfl) ?_
    refine lv_dup hx hb dX9_add_41 rfl ?_
    refine va_get (D := (dC, dI)) (ci := 12) (fs := oF_X9 ad pr (wA (wA (wA v 301 ((v.1 0 304).toNatClampNeg) pa) 302 ((v.1 0 304).toNatClampNeg) pb) 303 ((v.1 0 304).toNatClampNeg) pc1)) (v := .int (v.1 0 304)) (C := RX9) (T := TX9) (N := 10) hx hb ht itX9 hown hK hP 0 rfl rfl 4 (by decide) (ht _ tw_411) (fun _ h9 => h9) rfl dX9_add_42 ?_
    refine lv_iconst (v := 1) hx hb dX9_add_45 (by decide) ?_
    refine lv_iadd hx hb dX9_add_46 ?_
    have z4 : ((v.1 0 304) + (1 : Int32)).toInt = ((v.1 0 304).toInt) + (1 : Int) := add_z rfl (show (1 : Int32).toInt = (1 : Int) by decide) (om_30f45bbad8 z304) (om_133b161cd3 z304)
    refine va_put (D := (dC, dI)) (ci := 12) (fs := oF_X9 ad pr (wA (wA (wA v 301 ((v.1 0 304).toNatClampNeg) pa) 302 ((v.1 0 304).toNatClampNeg) pb) 303 ((v.1 0 304).toNatClampNeg) pc1)) (v := .int ((v.1 0 304) + (1 : Int32))) (ty := .int) (C := RX9) (T := TX9) (N := 10) hx hb ht itX9 tyX9 tyX9_ok nmX9 hown hK hP hD hS 0 rfl rfl 4 (by decide) (ht _ tw_411) (fun _ h9 => h9) rfl (by decide +kernel) rfl rfl (Nat.le_of_ble_eq_true rfl) dX9_add_47 (fun H locs hP hD hS => ?_)
    have hP := cP_ (cw_304 ad pr N cI cR L1 L2 (wA (wA (wA v 301 ((v.1 0 304).toNatClampNeg) pa) 302 ((v.1 0 304).toNatClampNeg) pb) 303 ((v.1 0 304).toNatClampNeg) pc1) ((v.1 0 304) + (1 : Int32))) hP
    have hD := cD_ (cw_304 ad pr N cI cR L1 L2 (wA (wA (wA v 301 ((v.1 0 304).toNatClampNeg) pa) 302 ((v.1 0 304).toNatClampNeg) pb) 303 ((v.1 0 304).toNatClampNeg) pc1) ((v.1 0 304) + (1 : Int32))) hD
    refine lv_iload_n hx hb dX9_add_50 rfl (lv_at hl 2 rfl) ?_
    refine lv_iload hx hb dX9_add_51 (lv_at hl 4 rfl) ?_
    refine lv_iadd hx hb dX9_add_53 ?_
    exact W.iret (v := (pb + pd)) hx hb hr (fun t ht9 hW => ⟨⟨(pb + pd), (wA (wA (wA (wA v 301 ((v.1 0 304).toNatClampNeg) pa) 302 ((v.1 0 304).toNatClampNeg) pb) 303 ((v.1 0 304).toNatClampNeg) pc1) 0 304 ((v.1 0 304) + (1 : Int32))), rfl, ⟨(FC.f (FC.a (FC.a (FC.a (FC.rf _) ((v.1 0 304).toNatClampNeg) pa (by decide) (by decide)) ((v.1 0 304).toNatClampNeg) pb (by decide) (by decide)) ((v.1 0 304).toNatClampNeg) pc1 (by decide) (by decide)) ((v.1 0 304) + (1 : Int32)) (by decide)), ⟨z304, (Or.inr (⟨z3, rfl, rfl⟩))⟩, (show 0 ≤ ((v.1 0 304) + (1 : Int32)).toInt ∧ ((v.1 0 304) + (1 : Int32)).toInt ≤ 1503 from (om_617ec610fa z304 z3 z4)), (RS.w0 (RS.w (RS.w (RS.w RS.rf (by decide)) (by decide)) (by decide)) (by decide))⟩, by rw [ht9]; exact hP, hD⟩, hS.F ht9⟩) hS.2.2 dX9_add_54
theorem om_51b4fa88fa {x0 x1 : Int} (h0 : x0 = x1 + 1) : 4000 - x0 < 4000 - x1 := by omega
theorem om_be420ba5f6 {x0 : Int} (h0 : x0 = (47 : Int)) (h1 : x0 = (9 : Int)) : False := by omega
theorem om_b2d3a10c1e {x0 : Int} (h0 : x0 = (47 : Int)) (h1 : x0 = (10 : Int)) : False := by omega
theorem om_a5f29ddb79 {x0 : Int} (h0 : x0 = (47 : Int)) (h1 : x0 = (13 : Int)) : False := by omega
theorem om_ed1489e2f0 {x0 : Int} (h0 : x0 = (47 : Int)) (h1 : x0 = (32 : Int)) : False := by omega
set_option maxHeartbeats 4000000 in
set_option maxRecDepth 100000 in
theorem c_x_X9_behindBlanks (l : Launch) (dC : Nat → ClassId) (dI : Nat → Nat → Nat) (cI cB cZ cJ cR : ClassId) (tb : Nat → Nat) (sz : Nat) (ad : Nat → Nat) (pr : Int32 → Nat) (N : Nat) (L1 L2 : List Nat) (v : MS) (pa : Int32) (ps : Int32) (z373 : 0 ≤ (v.1 0 373).toInt ∧ (v.1 0 373).toInt ≤ 4000) (hps : pr ps = ad 908) (es300 : (v.1 0 300) = ps) : Met l yX9_behindBlanks (Cond.code yX9_behindBlanks cX9_behindBlanks 5 (some .int) :: tw_W) ({ frames := 1, cells := 0, slots := 0, locals := 21 }) (pc_ (dC, dI) (tyS cI cB cZ cJ cR) tb (cW ad pr N cI cR L1 L2 v) sz [.ref (ad 900), .int pa]) (qi_ (dC, dI) (cW ad pr N cI cR L1 L2 v) sz (fun (r : Int32) (u : MS) => v = u ∧ (Q_x_X9_behindBlanks L1 L2 v pa r)) (fun (u : MS) => (cW ad pr N cI cR L1 L2 u))) 0 0 (va_A (cW ad pr N cI cR L1 L2 v) sz) := by
  refine Met.ofW (cc := cX9_behindBlanks) (maxL := 5) (ret := (some .int)) (by decide) rfl ?_
  intro p e s m args below meth c s₁ B hml hv
  obtain ⟨rfl, hsz, hP, hKK, hD0, hFx⟩ := hv
  have hK := hKK.1
  have hx := B.exec
  have hb := B.bytes
  have hr := B.returns
  have ht : ∀ w ∈ tw_W, w.before _ s = true := fun w h => atoms_spec (ws := Cond.code yX9_behindBlanks cX9_behindBlanks 5 (some .int) :: tw_W) B.pre w (List.mem_cons_of_mem _ h)
  have hown : s.vm.findClass RX9 = some m.cls := findClass_of_methodNamed B.named
  have hlocks := B.notSynchronized
  subst hsz
  unfold qi_
  have hD := hD0.self (sz := s.heap.size)
  generalize hAe : va_A (cW ad pr N cI cR L1 L2 v) s.heap.size = A at hD hFx ⊢
  have hA : ∀ q : Nat, s.heap.size ≤ q → A q := fun q h => by rw [← hAe]; exact Or.inr h
  have hS : va_S A s.heap s.heap [] := va_S.rf
  have hl := lv_entry ([.ref (ad 900), .int pa]) (n := 5) (Nat.le_of_ble_eq_true rfl)
  rw [lg_entry_eq]
  generalize (lg_sl ([.ref (ad 900), .int pa]) ++ List.replicate (5 - (lg_sl ([.ref (ad 900), .int pa])).length) Slot.unset).toArray = ls at hl ⊢
  have hl : lv_has ls 5 [(0, .ref (ad 900)), (1, .int pa)] := hl
  refine lv_iconst (v := 0) hx hb dX9_behindBlanks_0 (by decide) ?_
  refine lv_istore_n (lv' := [(2, .int 0), (0, .ref (ad 900)), (1, .int pa)]) hx hb dX9_behindBlanks_1 rfl hl (by decide) rfl (fun ls hl => ?_)
  refine lv_iload_n hx hb dX9_behindBlanks_2 rfl (lv_at hl 2 rfl) ?_
  refine lv_istore_n (lv' := [(3, .int pa), (2, .int 0), (0, .ref (ad 900)), (1, .int pa)]) hx hb dX9_behindBlanks_3 rfl hl (by decide) rfl (fun ls hl => ?_)
  refine lpm_ (X := Int32 × Int32) (P := (fun (x9 : Int32 × Int32) (H : Heap) (locs : List Loc) (ls : Array Slot) => (RT (Q_x_X9_behindBlanks_L0 L1 L2 v) (0, pa) (x9.1, x9.2)) ∧ va_P (dC, dI) vwCl (cW ad pr N cI cR L1 L2 v) H ∧ va_D A (cW ad pr N cI cR L1 L2 v) ∧ va_S A s.heap H locs ∧ lv_has ls 5 [(3, .int x9.2), (2, .int x9.1), (0, .ref (ad 900)), (1, .int pa)])) (fun x9 => (4000 - x9.2.toInt).toNat) 4 (fun x9 H locs ls hh ih4 => ?_) (0, pa) _ _ _ ⟨RT.rf, hP, hD, hS, lv_sub hl [0, 1, 2, 3] rfl⟩
  obtain ⟨ib, ka⟩ := x9
  obtain ⟨exL4, hP, hD, hS, hl⟩ := hh
  have hl : lv_has ls 5 [(3, .int ka), (2, .int ib), (0, .ref (ad 900)), (1, .int pa)] := hl
  refine lv_iload_n hx hb dX9_behindBlanks_4 rfl (lv_at hl 0 rfl) ?_
  refine lv_aload_n hx hb dX9_behindBlanks_5 rfl (lv_at hl 2 rfl) ?_
  refine va_get (D := (dC, dI)) (ci := 12) (fs := oF_X9 ad pr v) (v := .ref (pr (v.1 0 300))) (C := RX9) (T := TX9) (N := 10) hx hb ht itX9 hown hK hP 0 rfl rfl 0 (by decide) (ht _ tw_415) (fun _ h9 => h9) rfl dX9_behindBlanks_6 ?_
  refine W.eq (g2 := F0 m 9 ls [.ref (ad 908), .int ka]) (by rw [show pr (v.1 0 300) = (ad 908) from (by rw [show (v.1 0 300) = ps from es300]; exact hps)]) ?_
  refine va_get (D := (dC, dI)) (ci := 10) (fs := oF_X7 ad pr v) (v := .int (v.1 0 373)) (C := RX7) (T := TX7) (N := 13) hx hb ht itX7 hown hK hP 8 rfl rfl 1 (by decide) (ht _ tw_416) (fun _ h9 => h9) rfl dX9_behindBlanks_9 ?_
  refine lv_icmp_ge (tgt := 108) hx hb dX9_behindBlanks_12 (by decide) (fun h1 => ?_) (fun h1 => ?_)
  · have z2 : (v.1 0 373).toInt ≤ ka.toInt := le_z rfl rfl h1
    refine lv_aload_n hx hb dX9_behindBlanks_108 rfl (lv_at hl 2 rfl) ?_
    refine va_get (D := (dC, dI)) (ci := 12) (fs := oF_X9 ad pr v) (v := .ref (pr (v.1 0 300))) (C := RX9) (T := TX9) (N := 10) hx hb ht itX9 hown hK hP 0 rfl rfl 0 (by decide) (ht _ tw_415) (fun _ h9 => h9) rfl dX9_behindBlanks_109 ?_
    refine W.eq (g2 := F0 m 112 ls [.ref (ad 908)]) (by rw [show pr (v.1 0 300) = (ad 908) from (by rw [show (v.1 0 300) = ps from es300]; exact hps)]) ?_
    refine va_get (D := (dC, dI)) (ci := 10) (fs := oF_X7 ad pr v) (v := .int (v.1 0 373)) (C := RX7) (T := TX7) (N := 13) hx hb ht itX7 hown hK hP 8 rfl rfl 1 (by decide) (ht _ tw_416) (fun _ h9 => h9) rfl dX9_behindBlanks_112 ?_
    exact W.iret (v := (v.1 0 373)) hx hb hr (fun t ht9 hW => ⟨⟨(v.1 0 373), v, rfl, ⟨rfl, ⟨z373, ib, ka, exL4, (Or.inl ⟨z2, rfl⟩)⟩⟩, by rw [ht9]; exact hP, hD⟩, hS.F ht9⟩) hS.2.2 dX9_behindBlanks_115
  · have z3 : ka.toInt < (v.1 0 373).toInt := nle_z rfl rfl h1
    refine lv_aload_n hx hb dX9_behindBlanks_15 rfl (lv_at hl 2 rfl) ?_
    refine va_get (D := (dC, dI)) (ci := 12) (fs := oF_X9 ad pr v) (v := .ref (pr (v.1 0 300))) (C := RX9) (T := TX9) (N := 10) hx hb ht itX9 hown hK hP 0 rfl rfl 0 (by decide) (ht _ tw_415) (fun _ h9 => h9) rfl dX9_behindBlanks_16 ?_
    refine lv_iload_n hx hb dX9_behindBlanks_19 rfl (lv_at hl 0 rfl) ?_
    refine W.eq (g2 := F0 m 20 ls [.int ka, .ref (ad 908)]) (by rw [show pr (v.1 0 300) = (ad 908) from (by rw [show (v.1 0 300) = ps from es300]; exact hps)]) ?_
    refine cu_i (rn_Vk (n := 1) (As := [.int ka]) (rest := []) hx hb hml hown ht hKK hFx hP hD hS hA (c_x_X7_byteAt l dC dI cI cB cZ cJ cR tb H.size ad pr N L1 L2 v ka (show 0 ≤ (v.1 0 373).toInt ∧ (v.1 0 373).toInt ≤ 4000 from (om_c74a68af25 z373))) tw_392 tw_417 (by decide +kernel) rfl rfl ⟨Nat.le_of_ble_eq_true rfl, Nat.le_of_ble_eq_true rfl⟩ (List.range (cW ad pr N cI cR L1 L2 v).length) (rg_map _) (nd_range _) 8 rfl rfl rfl rfl hl.1 rfl (Nat.le_of_ble_eq_true rfl) dX9_behindBlanks_20 ⟨Nat.le_of_ble_eq_true rfl, Nat.le_of_ble_eq_true rfl⟩) hP hD hS hA (fun r6 u5 H locs hw4 hP hD hS => ?_)
    obtain ⟨rfl, ex4⟩ := hw4
    refine W.widen (k := 0) (n := 0) (Nat.le_refl _) (Nat.le_refl _) ?_
    refine lv_istore (lv' := [(4, .int r6), (3, .int ka), (2, .int ib), (0, .ref (ad 900)), (1, .int pa)]) hx hb dX9_behindBlanks_23 hl (by decide) rfl (fun ls hl => ?_)
    refine lv_iload_n hx hb dX9_behindBlanks_25 rfl (lv_at hl 2 rfl) ?_
    refine lv_if_eq (tgt := 45) hx hb dX9_behindBlanks_26 (by decide) (fun h7 => ?_) (fun h7 => ?_)
    · have z8 : ib.toInt = (0 : Int) := eq_z rfl (show (0 : Int32).toInt = (0 : Int) by decide) h7
      refine lv_iload hx hb dX9_behindBlanks_45 (lv_at hl 0 rfl) ?_
      refine lv_bipush (v := 47) hx hb dX9_behindBlanks_47 (by decide) ?_
      refine lv_icmp_ne (tgt := 72) hx hb dX9_behindBlanks_49 (by decide) (fun h9 => ?_) (fun h9 => ?_)
      · have z10 : r6.toInt ≠ (47 : Int) := ne_z rfl (show (47 : Int32).toInt = (47 : Int) by decide) h9
        refine lv_iload hx hb dX9_behindBlanks_72 (lv_at hl 0 rfl) ?_
        refine lv_bipush (v := 9) hx hb dX9_behindBlanks_74 (by decide) ?_
        refine lv_icmp_eq (tgt := 102) hx hb dX9_behindBlanks_76 (by decide) (fun h11 => ?_) (fun h11 => ?_)
        · have z12 : r6.toInt = (9 : Int) := eq_z rfl (show (9 : Int32).toInt = (9 : Int) by decide) h11
          refine lv_iinc (v := (ka + (1 : Int32))) (lv' := [(3, .int (ka + (1 : Int32))), (4, .int r6), (2, .int ib), (0, .ref (ad 900)), (1, .int pa)]) hx hb dX9_behindBlanks_102 hl (k := 1) rfl (rfl) (by decide) rfl (fun ls hl => ?_)
          have z13 : (ka + (1 : Int32)).toInt = ka.toInt + 1 := inc_lt z3
          refine lv_goto (tgt := 4) hx hb dX9_behindBlanks_105 (by decide) ?_
          exact ih4 (ib, (ka + (1 : Int32))) _ _ _ (show (4000 - (ka + (1 : Int32)).toInt).toNat < (4000 - ka.toInt).toNat from tn_z (om_51b4fa88fa z13) (om_1e8508cb57 z373 z3)) ⟨(RT.st exL4 ⟨z3, r6, ex4, (Or.inl ⟨z8, (Or.inl ⟨z10, (Or.inl ⟨z12, rfl⟩)⟩)⟩)⟩), hP, hD, hS, lv_sub hl [0, 2, 3, 4] rfl⟩
        · have z14 : r6.toInt ≠ (9 : Int) := ne_z rfl (show (9 : Int32).toInt = (9 : Int) by decide) h11
          refine lv_iload hx hb dX9_behindBlanks_79 (lv_at hl 0 rfl) ?_
          refine lv_bipush (v := 10) hx hb dX9_behindBlanks_81 (by decide) ?_
          refine lv_icmp_eq (tgt := 102) hx hb dX9_behindBlanks_83 (by decide) (fun h15 => ?_) (fun h15 => ?_)
          · have z16 : r6.toInt = (10 : Int) := eq_z rfl (show (10 : Int32).toInt = (10 : Int) by decide) h15
            refine lv_iinc (v := (ka + (1 : Int32))) (lv' := [(3, .int (ka + (1 : Int32))), (4, .int r6), (2, .int ib), (0, .ref (ad 900)), (1, .int pa)]) hx hb dX9_behindBlanks_102 hl (k := 1) rfl (rfl) (by decide) rfl (fun ls hl => ?_)
            have z17 : (ka + (1 : Int32)).toInt = ka.toInt + 1 := inc_lt z3
            refine lv_goto (tgt := 4) hx hb dX9_behindBlanks_105 (by decide) ?_
            exact ih4 (ib, (ka + (1 : Int32))) _ _ _ (show (4000 - (ka + (1 : Int32)).toInt).toNat < (4000 - ka.toInt).toNat from tn_z (om_51b4fa88fa z17) (om_1e8508cb57 z373 z3)) ⟨(RT.st exL4 ⟨z3, r6, ex4, (Or.inl ⟨z8, (Or.inl ⟨z10, (Or.inr (⟨z14, (Or.inl ⟨z16, rfl⟩)⟩))⟩)⟩)⟩), hP, hD, hS, lv_sub hl [0, 2, 3, 4] rfl⟩
          · have z18 : r6.toInt ≠ (10 : Int) := ne_z rfl (show (10 : Int32).toInt = (10 : Int) by decide) h15
            refine lv_iload hx hb dX9_behindBlanks_86 (lv_at hl 0 rfl) ?_
            refine lv_bipush (v := 13) hx hb dX9_behindBlanks_88 (by decide) ?_
            refine lv_icmp_eq (tgt := 102) hx hb dX9_behindBlanks_90 (by decide) (fun h19 => ?_) (fun h19 => ?_)
            · have z20 : r6.toInt = (13 : Int) := eq_z rfl (show (13 : Int32).toInt = (13 : Int) by decide) h19
              refine lv_iinc (v := (ka + (1 : Int32))) (lv' := [(3, .int (ka + (1 : Int32))), (4, .int r6), (2, .int ib), (0, .ref (ad 900)), (1, .int pa)]) hx hb dX9_behindBlanks_102 hl (k := 1) rfl (rfl) (by decide) rfl (fun ls hl => ?_)
              have z21 : (ka + (1 : Int32)).toInt = ka.toInt + 1 := inc_lt z3
              refine lv_goto (tgt := 4) hx hb dX9_behindBlanks_105 (by decide) ?_
              exact ih4 (ib, (ka + (1 : Int32))) _ _ _ (show (4000 - (ka + (1 : Int32)).toInt).toNat < (4000 - ka.toInt).toNat from tn_z (om_51b4fa88fa z21) (om_1e8508cb57 z373 z3)) ⟨(RT.st exL4 ⟨z3, r6, ex4, (Or.inl ⟨z8, (Or.inl ⟨z10, (Or.inr (⟨z14, (Or.inr (⟨z18, (Or.inl ⟨z20, rfl⟩)⟩))⟩))⟩)⟩)⟩), hP, hD, hS, lv_sub hl [0, 2, 3, 4] rfl⟩
            · have z22 : r6.toInt ≠ (13 : Int) := ne_z rfl (show (13 : Int32).toInt = (13 : Int) by decide) h19
              refine lv_iload hx hb dX9_behindBlanks_93 (lv_at hl 0 rfl) ?_
              refine lv_bipush (v := 32) hx hb dX9_behindBlanks_95 (by decide) ?_
              refine lv_icmp_eq (tgt := 102) hx hb dX9_behindBlanks_97 (by decide) (fun h23 => ?_) (fun h23 => ?_)
              · have z24 : r6.toInt = (32 : Int) := eq_z rfl (show (32 : Int32).toInt = (32 : Int) by decide) h23
                refine lv_iinc (v := (ka + (1 : Int32))) (lv' := [(3, .int (ka + (1 : Int32))), (4, .int r6), (2, .int ib), (0, .ref (ad 900)), (1, .int pa)]) hx hb dX9_behindBlanks_102 hl (k := 1) rfl (rfl) (by decide) rfl (fun ls hl => ?_)
                have z25 : (ka + (1 : Int32)).toInt = ka.toInt + 1 := inc_lt z3
                refine lv_goto (tgt := 4) hx hb dX9_behindBlanks_105 (by decide) ?_
                exact ih4 (ib, (ka + (1 : Int32))) _ _ _ (show (4000 - (ka + (1 : Int32)).toInt).toNat < (4000 - ka.toInt).toNat from tn_z (om_51b4fa88fa z25) (om_1e8508cb57 z373 z3)) ⟨(RT.st exL4 ⟨z3, r6, ex4, (Or.inl ⟨z8, (Or.inl ⟨z10, (Or.inr (⟨z14, (Or.inr (⟨z18, (Or.inr (⟨z22, z24, rfl⟩))⟩))⟩))⟩)⟩)⟩), hP, hD, hS, lv_sub hl [0, 2, 3, 4] rfl⟩
              · have z26 : r6.toInt ≠ (32 : Int) := ne_z rfl (show (32 : Int32).toInt = (32 : Int) by decide) h23
                refine lv_iload_n hx hb dX9_behindBlanks_100 rfl (lv_at hl 1 rfl) ?_
                exact W.iret (v := ka) hx hb hr (fun t ht9 hW => ⟨⟨ka, v, rfl, ⟨rfl, ⟨z373, ib, ka, exL4, (Or.inr (⟨z3, r6, ex4, z8, (Or.inl ⟨z10, z14, z18, z22, z26, rfl⟩)⟩))⟩⟩, by rw [ht9]; exact hP, hD⟩, hS.F ht9⟩) hS.2.2 dX9_behindBlanks_101
      · have z27 : r6.toInt = (47 : Int) := eq_z rfl (show (47 : Int32).toInt = (47 : Int) by decide) h9
        refine lv_aload_n hx hb dX9_behindBlanks_52 rfl (lv_at hl 3 rfl) ?_
        refine va_get (D := (dC, dI)) (ci := 12) (fs := oF_X9 ad pr v) (v := .ref (pr (v.1 0 300))) (C := RX9) (T := TX9) (N := 10) hx hb ht itX9 hown hK hP 0 rfl rfl 0 (by decide) (ht _ tw_415) (fun _ h9 => h9) rfl dX9_behindBlanks_53 ?_
        refine lv_iload_n hx hb dX9_behindBlanks_56 rfl (lv_at hl 1 rfl) ?_
        refine lv_iconst (v := 1) hx hb dX9_behindBlanks_57 (by decide) ?_
        refine lv_iadd hx hb dX9_behindBlanks_58 ?_
        have z28 : (ka + (1 : Int32)).toInt = ka.toInt + 1 := inc_lt z3
        refine W.eq (g2 := F0 m 59 ls [.int (ka + (1 : Int32)), .ref (ad 908)]) (by rw [show pr (v.1 0 300) = (ad 908) from (by rw [show (v.1 0 300) = ps from es300]; exact hps)]) ?_
        refine cu_i (rn_Vk (n := 1) (As := [.int (ka + (1 : Int32))]) (rest := []) hx hb hml hown ht hKK hFx hP hD hS hA (c_x_X7_byteAt l dC dI cI cB cZ cJ cR tb H.size ad pr N L1 L2 v (ka + (1 : Int32)) (show 0 ≤ (v.1 0 373).toInt ∧ (v.1 0 373).toInt ≤ 4000 from (om_c74a68af25 z373))) tw_392 tw_417 (by decide +kernel) rfl rfl ⟨Nat.le_of_ble_eq_true rfl, Nat.le_of_ble_eq_true rfl⟩ (List.range (cW ad pr N cI cR L1 L2 v).length) (rg_map _) (nd_range _) 8 rfl rfl rfl rfl hl.1 rfl (Nat.le_of_ble_eq_true rfl) dX9_behindBlanks_59 ⟨Nat.le_of_ble_eq_true rfl, Nat.le_of_ble_eq_true rfl⟩) hP hD hS hA (fun r31 u30 H locs hw29 hP hD hS => ?_)
        obtain ⟨rfl, ex29⟩ := hw29
        refine W.widen (k := 0) (n := 0) (Nat.le_refl _) (Nat.le_refl _) ?_
        refine lv_bipush (v := 47) hx hb dX9_behindBlanks_62 (by decide) ?_
        refine lv_icmp_ne (tgt := 72) hx hb dX9_behindBlanks_64 (by decide) (fun h32 => ?_) (fun h32 => ?_)
        · have z33 : r31.toInt ≠ (47 : Int) := ne_z rfl (show (47 : Int32).toInt = (47 : Int) by decide) h32
          refine lv_iload hx hb dX9_behindBlanks_72 (lv_at hl 0 rfl) ?_
          refine lv_bipush (v := 9) hx hb dX9_behindBlanks_74 (by decide) ?_
          refine lv_icmp_eq (tgt := 102) hx hb dX9_behindBlanks_76 (by decide) (fun h34 => ?_) (fun h34 => ?_)
          · have z35 : r6.toInt = (9 : Int) := eq_z rfl (show (9 : Int32).toInt = (9 : Int) by decide) h34
            exact False.elim (om_be420ba5f6 z27 z35)
          · have z36 : r6.toInt ≠ (9 : Int) := ne_z rfl (show (9 : Int32).toInt = (9 : Int) by decide) h34
            refine lv_iload hx hb dX9_behindBlanks_79 (lv_at hl 0 rfl) ?_
            refine lv_bipush (v := 10) hx hb dX9_behindBlanks_81 (by decide) ?_
            refine lv_icmp_eq (tgt := 102) hx hb dX9_behindBlanks_83 (by decide) (fun h37 => ?_) (fun h37 => ?_)
            · have z38 : r6.toInt = (10 : Int) := eq_z rfl (show (10 : Int32).toInt = (10 : Int) by decide) h37
              exact False.elim (om_b2d3a10c1e z27 z38)
            · have z39 : r6.toInt ≠ (10 : Int) := ne_z rfl (show (10 : Int32).toInt = (10 : Int) by decide) h37
              refine lv_iload hx hb dX9_behindBlanks_86 (lv_at hl 0 rfl) ?_
              refine lv_bipush (v := 13) hx hb dX9_behindBlanks_88 (by decide) ?_
              refine lv_icmp_eq (tgt := 102) hx hb dX9_behindBlanks_90 (by decide) (fun h40 => ?_) (fun h40 => ?_)
              · have z41 : r6.toInt = (13 : Int) := eq_z rfl (show (13 : Int32).toInt = (13 : Int) by decide) h40
                exact False.elim (om_a5f29ddb79 z27 z41)
              · have z42 : r6.toInt ≠ (13 : Int) := ne_z rfl (show (13 : Int32).toInt = (13 : Int) by decide) h40
                refine lv_iload hx hb dX9_behindBlanks_93 (lv_at hl 0 rfl) ?_
                refine lv_bipush (v := 32) hx hb dX9_behindBlanks_95 (by decide) ?_
                refine lv_icmp_eq (tgt := 102) hx hb dX9_behindBlanks_97 (by decide) (fun h43 => ?_) (fun h43 => ?_)
                · have z44 : r6.toInt = (32 : Int) := eq_z rfl (show (32 : Int32).toInt = (32 : Int) by decide) h43
                  exact False.elim (om_ed1489e2f0 z27 z44)
                · have z45 : r6.toInt ≠ (32 : Int) := ne_z rfl (show (32 : Int32).toInt = (32 : Int) by decide) h43
                  refine lv_iload_n hx hb dX9_behindBlanks_100 rfl (lv_at hl 1 rfl) ?_
                  exact W.iret (v := ka) hx hb hr (fun t ht9 hW => ⟨⟨ka, v, rfl, ⟨rfl, ⟨z373, ib, ka, exL4, (Or.inr (⟨z3, r6, ex4, z8, (Or.inr (⟨z27, r31, ex29, z33, z36, z39, z42, z45, rfl⟩))⟩))⟩⟩, by rw [ht9]; exact hP, hD⟩, hS.F ht9⟩) hS.2.2 dX9_behindBlanks_101
        · have z46 : r31.toInt = (47 : Int) := eq_z rfl (show (47 : Int32).toInt = (47 : Int) by decide) h32
          refine lv_iconst (v := 1) hx hb dX9_behindBlanks_67 (by decide) ?_
          refine lv_istore_n (lv' := [(2, .int 1), (4, .int r6), (3, .int ka), (0, .ref (ad 900)), (1, .int pa)]) hx hb dX9_behindBlanks_68 rfl hl (by decide) rfl (fun ls hl => ?_)
          refine lv_goto (tgt := 102) hx hb dX9_behindBlanks_69 (by decide) ?_
          refine lv_iinc (v := (ka + (1 : Int32))) (lv' := [(3, .int (ka + (1 : Int32))), (2, .int 1), (4, .int r6), (0, .ref (ad 900)), (1, .int pa)]) hx hb dX9_behindBlanks_102 hl (k := 2) rfl (rfl) (by decide) rfl (fun ls hl => ?_)
          have z47 : (ka + (1 : Int32)).toInt = ka.toInt + 1 := inc_lt z3
          refine lv_goto (tgt := 4) hx hb dX9_behindBlanks_105 (by decide) ?_
          exact ih4 (1, (ka + (1 : Int32))) _ _ _ (show (4000 - (ka + (1 : Int32)).toInt).toNat < (4000 - ka.toInt).toNat from tn_z (om_51b4fa88fa z28) (om_1e8508cb57 z373 z3)) ⟨(RT.st exL4 ⟨z3, r6, ex4, (Or.inl ⟨z8, (Or.inr (⟨z27, r31, ex29, z46, rfl⟩))⟩)⟩), hP, hD, hS, lv_sub hl [0, 1, 3, 4] rfl⟩
    · have z48 : ib.toInt ≠ (0 : Int) := ne_z rfl (show (0 : Int32).toInt = (0 : Int) by decide) h7
      refine lv_iload hx hb dX9_behindBlanks_29 (lv_at hl 0 rfl) ?_
      refine lv_bipush (v := 10) hx hb dX9_behindBlanks_31 (by decide) ?_
      refine lv_icmp_eq (tgt := 40) hx hb dX9_behindBlanks_33 (by decide) (fun h49 => ?_) (fun h49 => ?_)
      · have z50 : r6.toInt = (10 : Int) := eq_z rfl (show (10 : Int32).toInt = (10 : Int) by decide) h49
        refine lv_iconst (v := 0) hx hb dX9_behindBlanks_40 (by decide) ?_
        refine lv_istore_n (lv' := [(2, .int 0), (4, .int r6), (3, .int ka), (0, .ref (ad 900)), (1, .int pa)]) hx hb dX9_behindBlanks_41 rfl hl (by decide) rfl (fun ls hl => ?_)
        refine lv_goto (tgt := 102) hx hb dX9_behindBlanks_42 (by decide) ?_
        refine lv_iinc (v := (ka + (1 : Int32))) (lv' := [(3, .int (ka + (1 : Int32))), (2, .int 0), (4, .int r6), (0, .ref (ad 900)), (1, .int pa)]) hx hb dX9_behindBlanks_102 hl (k := 2) rfl (rfl) (by decide) rfl (fun ls hl => ?_)
        have z51 : (ka + (1 : Int32)).toInt = ka.toInt + 1 := inc_lt z3
        refine lv_goto (tgt := 4) hx hb dX9_behindBlanks_105 (by decide) ?_
        exact ih4 (0, (ka + (1 : Int32))) _ _ _ (show (4000 - (ka + (1 : Int32)).toInt).toNat < (4000 - ka.toInt).toNat from tn_z (om_51b4fa88fa z51) (om_1e8508cb57 z373 z3)) ⟨(RT.st exL4 ⟨z3, r6, ex4, (Or.inr (⟨z48, (Or.inl ⟨z50, rfl⟩)⟩))⟩), hP, hD, hS, lv_sub hl [0, 1, 3, 4] rfl⟩
      · have z52 : r6.toInt ≠ (10 : Int) := ne_z rfl (show (10 : Int32).toInt = (10 : Int) by decide) h49
        refine lv_iconst (v := 1) hx hb dX9_behindBlanks_36 (by decide) ?_
        refine lv_goto (tgt := 41) hx hb dX9_behindBlanks_37 (by decide) ?_
        refine lv_istore_n (lv' := [(2, .int 1), (4, .int r6), (3, .int ka), (0, .ref (ad 900)), (1, .int pa)]) hx hb dX9_behindBlanks_41 rfl hl (by decide) rfl (fun ls hl => ?_)
        refine lv_goto (tgt := 102) hx hb dX9_behindBlanks_42 (by decide) ?_
        refine lv_iinc (v := (ka + (1 : Int32))) (lv' := [(3, .int (ka + (1 : Int32))), (2, .int 1), (4, .int r6), (0, .ref (ad 900)), (1, .int pa)]) hx hb dX9_behindBlanks_102 hl (k := 2) rfl (rfl) (by decide) rfl (fun ls hl => ?_)
        have z53 : (ka + (1 : Int32)).toInt = ka.toInt + 1 := inc_lt z3
        refine lv_goto (tgt := 4) hx hb dX9_behindBlanks_105 (by decide) ?_
        exact ih4 (1, (ka + (1 : Int32))) _ _ _ (show (4000 - (ka + (1 : Int32)).toInt).toNat < (4000 - ka.toInt).toNat from tn_z (om_51b4fa88fa z53) (om_1e8508cb57 z373 z3)) ⟨(RT.st exL4 ⟨z3, r6, ex4, (Or.inr (⟨z48, (Or.inr (⟨z52, rfl⟩))⟩))⟩), hP, hD, hS, lv_sub hl [0, 1, 3, 4] rfl⟩
set_option maxHeartbeats 4000000 in
set_option maxRecDepth 100000 in
theorem c_x_X9_isAlike (l : Launch) (dC : Nat → ClassId) (dI : Nat → Nat → Nat) (cI cB cZ cJ cR : ClassId) (tb : Nat → Nat) (sz : Nat) (ad : Nat → Nat) (pr : Int32 → Nat) (N : Nat) (L1 L2 : List Nat) (v : MS) (pa : Int32) (pb : Int32) (pc1 : Int32) (ps : Int32) (z373 : 0 ≤ (v.1 0 373).toInt ∧ (v.1 0 373).toInt ≤ 4000) (hps : pr ps = ad 908) (es300 : (v.1 0 300) = ps) : Met l yX9_isAlike (Cond.code yX9_isAlike cX9_isAlike 5 (some .boolean) :: tw_W) ({ frames := 1, cells := 0, slots := 0, locals := 21 }) (pc_ (dC, dI) (tyS cI cB cZ cJ cR) tb (cW ad pr N cI cR L1 L2 v) sz [.ref (ad 900), .int pa, .int pb, .int pc1]) (qi_ (dC, dI) (cW ad pr N cI cR L1 L2 v) sz (fun (r : Int32) (u : MS) => v = u ∧ (Q_x_X9_isAlike L1 L2 v pa pb pc1 r) ∧ (r = 0 ∨ r = 1) ∧ (0 ≤ r.toInt ∧ r.toInt ≤ 1)) (fun (u : MS) => (cW ad pr N cI cR L1 L2 u))) 0 0 (va_A (cW ad pr N cI cR L1 L2 v) sz) := by
  refine Met.ofW (cc := cX9_isAlike) (maxL := 5) (ret := (some .boolean)) (by decide) rfl ?_
  intro p e s m args below meth c s₁ B hml hv
  obtain ⟨rfl, hsz, hP, hKK, hD0, hFx⟩ := hv
  have hK := hKK.1
  have hx := B.exec
  have hb := B.bytes
  have hr := B.returns
  have ht : ∀ w ∈ tw_W, w.before _ s = true := fun w h => atoms_spec (ws := Cond.code yX9_isAlike cX9_isAlike 5 (some .boolean) :: tw_W) B.pre w (List.mem_cons_of_mem _ h)
  have hown : s.vm.findClass RX9 = some m.cls := findClass_of_methodNamed B.named
  have hlocks := B.notSynchronized
  subst hsz
  unfold qi_
  have hD := hD0.self (sz := s.heap.size)
  generalize hAe : va_A (cW ad pr N cI cR L1 L2 v) s.heap.size = A at hD hFx ⊢
  have hA : ∀ q : Nat, s.heap.size ≤ q → A q := fun q h => by rw [← hAe]; exact Or.inr h
  have hS : va_S A s.heap s.heap [] := va_S.rf
  have hl := lv_entry ([.ref (ad 900), .int pa, .int pb, .int pc1]) (n := 5) (Nat.le_of_ble_eq_true rfl)
  rw [lg_entry_eq]
  generalize (lg_sl ([.ref (ad 900), .int pa, .int pb, .int pc1]) ++ List.replicate (5 - (lg_sl ([.ref (ad 900), .int pa, .int pb, .int pc1])).length) Slot.unset).toArray = ls at hl ⊢
  have hl : lv_has ls 5 [(0, .ref (ad 900)), (1, .int pa), (2, .int pb), (3, .int pc1)] := hl
  refine lv_iconst (v := 0) hx hb dX9_isAlike_0 (by decide) ?_
  refine lv_istore (lv' := [(4, .int 0), (0, .ref (ad 900)), (1, .int pa), (2, .int pb), (3, .int pc1)]) hx hb dX9_isAlike_1 hl (by decide) rfl (fun ls hl => ?_)
  refine lpm_ (X := Int32) (P := (fun (x9 : Int32) (H : Heap) (locs : List Loc) (ls : Array Slot) => (0 ≤ x9.toInt) ∧ (RT (Q_x_X9_isAlike_L0 L1 L2 v pa pb pc1) 0 x9) ∧ va_P (dC, dI) vwCl (cW ad pr N cI cR L1 L2 v) H ∧ va_D A (cW ad pr N cI cR L1 L2 v) ∧ va_S A s.heap H locs ∧ lv_has ls 5 [(4, .int x9), (0, .ref (ad 900)), (1, .int pa), (2, .int pb), (3, .int pc1)])) (fun x9 => (pc1.toInt - x9.toInt).toNat) 3 (fun ka H locs ls hh ih3 => ?_) 0 _ _ _ ⟨(show 0 ≤ (0 : Int) from om_342087eeda), RT.rf, hP, hD, hS, lv_sub hl [0, 1, 2, 3, 4] rfl⟩
  obtain ⟨f1L3, exL3, hP, hD, hS, hl⟩ := hh
  have f1L3 : 0 ≤ ka.toInt := f1L3
  have hl : lv_has ls 5 [(4, .int ka), (0, .ref (ad 900)), (1, .int pa), (2, .int pb), (3, .int pc1)] := hl
  refine lv_iload hx hb dX9_isAlike_3 (lv_at hl 0 rfl) ?_
  refine lv_iload_n hx hb dX9_isAlike_5 rfl (lv_at hl 4 rfl) ?_
  refine lv_icmp_ge (tgt := 42) hx hb dX9_isAlike_6 (by decide) (fun h1 => ?_) (fun h1 => ?_)
  · have z2 : pc1.toInt ≤ ka.toInt := le_z rfl rfl h1
    refine lv_aload_n hx hb dX9_isAlike_42 rfl (lv_at hl 1 rfl) ?_
    refine va_get (D := (dC, dI)) (ci := 12) (fs := oF_X9 ad pr v) (v := .ref (pr (v.1 0 300))) (C := RX9) (T := TX9) (N := 10) hx hb ht itX9 hown hK hP 0 rfl rfl 0 (by decide) (ht _ tw_415) (fun _ h9 => h9) rfl dX9_isAlike_43 ?_
    refine lv_iload_n hx hb dX9_isAlike_46 rfl (lv_at hl 2 rfl) ?_
    refine lv_iload_n hx hb dX9_isAlike_47 rfl (lv_at hl 4 rfl) ?_
    refine lv_iadd hx hb dX9_isAlike_48 ?_
    refine W.eq (g2 := F0 m 49 ls [.int (pa + pc1), .ref (ad 908)]) (by rw [show pr (v.1 0 300) = (ad 908) from (by rw [show (v.1 0 300) = ps from es300]; exact hps)]) ?_
    refine cu_i (rn_Vk (n := 1) (As := [.int (pa + pc1)]) (rest := []) hx hb hml hown ht hKK hFx hP hD hS hA (c_x_X7_byteAt l dC dI cI cB cZ cJ cR tb H.size ad pr N L1 L2 v (pa + pc1) (show 0 ≤ (v.1 0 373).toInt ∧ (v.1 0 373).toInt ≤ 4000 from (om_c74a68af25 z373))) tw_392 tw_417 (by decide +kernel) rfl rfl ⟨Nat.le_of_ble_eq_true rfl, Nat.le_of_ble_eq_true rfl⟩ (List.range (cW ad pr N cI cR L1 L2 v).length) (rg_map _) (nd_range _) 8 rfl rfl rfl rfl hl.1 rfl (Nat.le_of_ble_eq_true rfl) dX9_isAlike_49 ⟨Nat.le_of_ble_eq_true rfl, Nat.le_of_ble_eq_true rfl⟩) hP hD hS hA (fun r5 u4 H locs hw3 hP hD hS => ?_)
    obtain ⟨rfl, ex3⟩ := hw3
    refine W.widen (k := 0) (n := 0) (Nat.le_refl _) (Nat.le_refl _) ?_
    refine cu_s (nd_range _) (rn_S (n := 1) (As := [.int r5]) (rest := []) hx hb hml hown ht hKK hFx hP hD hS hA (c_x_X9_isNamePart l dC dI cI cB cZ cJ cR tb H.size r5 ) tw_394 tw_418 (by decide +kernel) rfl rfl ⟨Nat.le_of_ble_eq_true rfl, Nat.le_of_ble_eq_true rfl⟩ [] rfl rfl rfl hl.1 rfl (Nat.le_of_ble_eq_true rfl) dX9_isAlike_52 ⟨Nat.le_of_ble_eq_true rfl, Nat.le_of_ble_eq_true rfl⟩) hP hD hS hA (fun r8 H locs hw6 hP hD hS => ?_)
    obtain ⟨ex6, b6, e6⟩ := hw6
    refine W.widen (k := 0) (n := 0) (Nat.le_refl _) (Nat.le_refl _) ?_
    refine lv_if_ne (tgt := 62) hx hb dX9_isAlike_55 (by decide) (fun h9 => ?_) (fun h9 => ?_)
    · have z10 : r8.toInt ≠ (0 : Int) := ne_z rfl (show (0 : Int32).toInt = (0 : Int) by decide) h9
      refine lv_iconst (v := 0) hx hb dX9_isAlike_62 (by decide) ?_
      exact W.zret (v := 0) hx hb hr rfl (fun t ht9 hW => ⟨⟨0, v, rfl, ⟨rfl, ⟨z373, ka, exL3, f1L3, (Or.inl ⟨z2, r5, ex3, r8, ex6, ⟨b6, e6⟩, (Or.inl ⟨z10, rfl⟩)⟩)⟩, ⟨Or.inl rfl, (by decide)⟩⟩, by rw [ht9]; exact hP, hD⟩, hS.F ht9⟩) hS.2.2 dX9_isAlike_63
    · have z11 : r8.toInt = (0 : Int) := eq_z rfl (show (0 : Int32).toInt = (0 : Int) by decide) h9
      refine lv_iconst (v := 1) hx hb dX9_isAlike_58 (by decide) ?_
      refine lv_goto (tgt := 63) hx hb dX9_isAlike_59 (by decide) ?_
      exact W.zret (v := 1) hx hb hr rfl (fun t ht9 hW => ⟨⟨1, v, rfl, ⟨rfl, ⟨z373, ka, exL3, f1L3, (Or.inl ⟨z2, r5, ex3, r8, ex6, ⟨b6, e6⟩, (Or.inr (⟨z11, rfl⟩))⟩)⟩, ⟨Or.inr rfl, (by decide)⟩⟩, by rw [ht9]; exact hP, hD⟩, hS.F ht9⟩) hS.2.2 dX9_isAlike_63
  · have z12 : ka.toInt < pc1.toInt := nle_z rfl rfl h1
    refine lv_aload_n hx hb dX9_isAlike_9 rfl (lv_at hl 1 rfl) ?_
    refine va_get (D := (dC, dI)) (ci := 12) (fs := oF_X9 ad pr v) (v := .ref (pr (v.1 0 300))) (C := RX9) (T := TX9) (N := 10) hx hb ht itX9 hown hK hP 0 rfl rfl 0 (by decide) (ht _ tw_415) (fun _ h9 => h9) rfl dX9_isAlike_10 ?_
    refine lv_iload_n hx hb dX9_isAlike_13 rfl (lv_at hl 2 rfl) ?_
    refine lv_iload hx hb dX9_isAlike_14 (lv_at hl 0 rfl) ?_
    refine lv_iadd hx hb dX9_isAlike_16 ?_
    refine W.eq (g2 := F0 m 17 ls [.int (pa + ka), .ref (ad 908)]) (by rw [show pr (v.1 0 300) = (ad 908) from (by rw [show (v.1 0 300) = ps from es300]; exact hps)]) ?_
    refine cu_i (rn_Vk (n := 1) (As := [.int (pa + ka)]) (rest := []) hx hb hml hown ht hKK hFx hP hD hS hA (c_x_X7_byteAt l dC dI cI cB cZ cJ cR tb H.size ad pr N L1 L2 v (pa + ka) (show 0 ≤ (v.1 0 373).toInt ∧ (v.1 0 373).toInt ≤ 4000 from (om_c74a68af25 z373))) tw_392 tw_417 (by decide +kernel) rfl rfl ⟨Nat.le_of_ble_eq_true rfl, Nat.le_of_ble_eq_true rfl⟩ (List.range (cW ad pr N cI cR L1 L2 v).length) (rg_map _) (nd_range _) 8 rfl rfl rfl rfl hl.1 rfl (Nat.le_of_ble_eq_true rfl) dX9_isAlike_17 ⟨Nat.le_of_ble_eq_true rfl, Nat.le_of_ble_eq_true rfl⟩) hP hD hS hA (fun r15 u14 H locs hw13 hP hD hS => ?_)
    obtain ⟨rfl, ex13⟩ := hw13
    refine W.widen (k := 0) (n := 0) (Nat.le_refl _) (Nat.le_refl _) ?_
    refine lv_aload_n hx hb dX9_isAlike_20 rfl (lv_at hl 1 rfl) ?_
    refine va_get (D := (dC, dI)) (ci := 12) (fs := oF_X9 ad pr v) (v := .ref (pr (v.1 0 300))) (C := RX9) (T := TX9) (N := 10) hx hb ht itX9 hown hK hP 0 rfl rfl 0 (by decide) (ht _ tw_415) (fun _ h9 => h9) rfl dX9_isAlike_21 ?_
    refine lv_iload_n hx hb dX9_isAlike_24 rfl (lv_at hl 3 rfl) ?_
    refine lv_iload hx hb dX9_isAlike_25 (lv_at hl 0 rfl) ?_
    refine lv_iadd hx hb dX9_isAlike_27 ?_
    refine W.eq (g2 := F0 m 28 ls [.int (pb + ka), .ref (ad 908), .int r15]) (by rw [show pr (v.1 0 300) = (ad 908) from (by rw [show (v.1 0 300) = ps from es300]; exact hps)]) ?_
    refine cu_i (rn_Vk (n := 1) (As := [.int (pb + ka)]) (rest := [.int r15]) hx hb hml hown ht hKK hFx hP hD hS hA (c_x_X7_byteAt l dC dI cI cB cZ cJ cR tb H.size ad pr N L1 L2 v (pb + ka) (show 0 ≤ (v.1 0 373).toInt ∧ (v.1 0 373).toInt ≤ 4000 from (om_c74a68af25 z373))) tw_392 tw_417 (by decide +kernel) rfl rfl ⟨Nat.le_of_ble_eq_true rfl, Nat.le_of_ble_eq_true rfl⟩ (List.range (cW ad pr N cI cR L1 L2 v).length) (rg_map _) (nd_range _) 8 rfl rfl rfl rfl hl.1 rfl (Nat.le_of_ble_eq_true rfl) dX9_isAlike_28 ⟨Nat.le_of_ble_eq_true rfl, Nat.le_of_ble_eq_true rfl⟩) hP hD hS hA (fun r18 u17 H locs hw16 hP hD hS => ?_)
    obtain ⟨rfl, ex16⟩ := hw16
    refine W.widen (k := 0) (n := 0) (Nat.le_refl _) (Nat.le_refl _) ?_
    refine lv_icmp_eq (tgt := 36) hx hb dX9_isAlike_31 (by decide) (fun h19 => ?_) (fun h19 => ?_)
    · have z20 : r15.toInt = r18.toInt := eq_z rfl rfl h19
      refine lv_iinc (v := (ka + (1 : Int32))) (lv' := [(4, .int (ka + (1 : Int32))), (0, .ref (ad 900)), (1, .int pa), (2, .int pb), (3, .int pc1)]) hx hb dX9_isAlike_36 hl (k := 0) rfl (rfl) (by decide) rfl (fun ls hl => ?_)
      have z21 : (ka + (1 : Int32)).toInt = ka.toInt + 1 := inc_lt z12
      refine lv_goto (tgt := 3) hx hb dX9_isAlike_39 (by decide) ?_
      exact ih3 (ka + (1 : Int32)) _ _ _ (show (pc1.toInt - (ka + (1 : Int32)).toInt).toNat < (pc1.toInt - ka.toInt).toNat from tn_z (om_7310d536e1 z21) (om_fe525f7549 z12)) ⟨(show 0 ≤ (ka + (1 : Int32)).toInt from (om_db977a0953 f1L3 z21)), (RT.st exL3 ⟨f1L3, z12, r15, ex13, r18, ex16, z20, rfl⟩), hP, hD, hS, lv_sub hl [0, 1, 2, 3, 4] rfl⟩
    · have z22 : r15.toInt ≠ r18.toInt := ne_z rfl rfl h19
      refine lv_iconst (v := 0) hx hb dX9_isAlike_34 (by decide) ?_
      exact W.zret (v := 0) hx hb hr rfl (fun t ht9 hW => ⟨⟨0, v, rfl, ⟨rfl, ⟨z373, ka, exL3, f1L3, (Or.inr (⟨z12, r15, ex13, r18, ex16, z22, rfl⟩))⟩, ⟨Or.inl rfl, (by decide)⟩⟩, by rw [ht9]; exact hP, hD⟩, hS.F ht9⟩) hS.2.2 dX9_isAlike_35
theorem om_ddb4813fde {x0 : Int} (h0 : 0 ≤ x0 ∧ x0 ≤ 1503) : 0 ≤ (0 : Int) ∧ (0 : Int) ≤ x0 := by omega
theorem om_a42527f4a4 {x0 x1 : Int} (h0 : 0 ≤ x0 ∧ x0 ≤ 1503) (h1 : x1 < x0) : x1 < 1503 := by omega
set_option maxHeartbeats 4000000 in
set_option maxRecDepth 100000 in
theorem c_x_X9_firstAlike (l : Launch) (dC : Nat → ClassId) (dI : Nat → Nat → Nat) (cI cB cZ cJ cR : ClassId) (tb : Nat → Nat) (sz : Nat) (ad : Nat → Nat) (pr : Int32 → Nat) (N : Nat) (L1 L2 : List Nat) (v : MS) (pa : Int32) (pb : Int32) (ps : Int32) (z304 : 0 ≤ (v.1 0 304).toInt ∧ (v.1 0 304).toInt ≤ 1503) (z373 : 0 ≤ (v.1 0 373).toInt ∧ (v.1 0 373).toInt ≤ 4000) (hps : pr ps = ad 908) (es300 : (v.1 0 300) = ps) : Met l yX9_firstAlike (Cond.code yX9_firstAlike cX9_firstAlike 4 (some .int) :: tw_W) ({ frames := 2, cells := 0, slots := 0, locals := 45 }) (pc_ (dC, dI) (tyS cI cB cZ cJ cR) tb (cW ad pr N cI cR L1 L2 v) sz [.ref (ad 900), .int pa, .int pb]) (qi_ (dC, dI) (cW ad pr N cI cR L1 L2 v) sz (fun (r : Int32) (u : MS) => v = u ∧ (Q_x_X9_firstAlike L1 L2 v pa pb r)) (fun (u : MS) => (cW ad pr N cI cR L1 L2 u))) 0 0 (va_A (cW ad pr N cI cR L1 L2 v) sz) := by
  refine Met.ofW (cc := cX9_firstAlike) (maxL := 4) (ret := (some .int)) (by decide) rfl ?_
  intro p e s m args below meth c s₁ B hml hv
  obtain ⟨rfl, hsz, hP, hKK, hD0, hFx⟩ := hv
  have hK := hKK.1
  have hx := B.exec
  have hb := B.bytes
  have hr := B.returns
  have ht : ∀ w ∈ tw_W, w.before _ s = true := fun w h => atoms_spec (ws := Cond.code yX9_firstAlike cX9_firstAlike 4 (some .int) :: tw_W) B.pre w (List.mem_cons_of_mem _ h)
  have hown : s.vm.findClass RX9 = some m.cls := findClass_of_methodNamed B.named
  have hlocks := B.notSynchronized
  subst hsz
  unfold qi_
  have hD := hD0.self (sz := s.heap.size)
  generalize hAe : va_A (cW ad pr N cI cR L1 L2 v) s.heap.size = A at hD hFx ⊢
  have hA : ∀ q : Nat, s.heap.size ≤ q → A q := fun q h => by rw [← hAe]; exact Or.inr h
  have hS : va_S A s.heap s.heap [] := va_S.rf
  have hl := lv_entry ([.ref (ad 900), .int pa, .int pb]) (n := 4) (Nat.le_of_ble_eq_true rfl)
  rw [lg_entry_eq]
  generalize (lg_sl ([.ref (ad 900), .int pa, .int pb]) ++ List.replicate (4 - (lg_sl ([.ref (ad 900), .int pa, .int pb])).length) Slot.unset).toArray = ls at hl ⊢
  have hl : lv_has ls 4 [(0, .ref (ad 900)), (1, .int pa), (2, .int pb)] := hl
  refine lv_iconst (v := 0) hx hb dX9_firstAlike_0 (by decide) ?_
  refine lv_istore_n (lv' := [(3, .int 0), (0, .ref (ad 900)), (1, .int pa), (2, .int pb)]) hx hb dX9_firstAlike_1 rfl hl (by decide) rfl (fun ls hl => ?_)
  refine lpm_ (X := Int32) (P := (fun (x9 : Int32) (H : Heap) (locs : List Loc) (ls : Array Slot) => (0 ≤ x9.toInt ∧ x9.toInt ≤ (v.1 0 304).toInt) ∧ (RT (Q_x_X9_firstAlike_L0 L1 L2 v pa pb) 0 x9) ∧ va_P (dC, dI) vwCl (cW ad pr N cI cR L1 L2 v) H ∧ va_D A (cW ad pr N cI cR L1 L2 v) ∧ va_S A s.heap H locs ∧ lv_has ls 4 [(3, .int x9), (0, .ref (ad 900)), (1, .int pa), (2, .int pb)])) (fun x9 => ((v.1 0 304).toInt - x9.toInt).toNat) 2 (fun ka H locs ls hh ih2 => ?_) 0 _ _ _ ⟨(show 0 ≤ (0 : Int) ∧ (0 : Int) ≤ (v.1 0 304).toInt from (om_ddb4813fde z304)), RT.rf, hP, hD, hS, lv_sub hl [0, 1, 2, 3] rfl⟩
  obtain ⟨f1L2, exL2, hP, hD, hS, hl⟩ := hh
  have f1L2 : 0 ≤ ka.toInt ∧ ka.toInt ≤ (v.1 0 304).toInt := f1L2
  have hl : lv_has ls 4 [(3, .int ka), (0, .ref (ad 900)), (1, .int pa), (2, .int pb)] := hl
  refine lv_iload_n hx hb dX9_firstAlike_2 rfl (lv_at hl 0 rfl) ?_
  refine lv_aload_n hx hb dX9_firstAlike_3 rfl (lv_at hl 1 rfl) ?_
  refine va_get (D := (dC, dI)) (ci := 12) (fs := oF_X9 ad pr v) (v := .int (v.1 0 304)) (C := RX9) (T := TX9) (N := 10) hx hb ht itX9 hown hK hP 0 rfl rfl 4 (by decide) (ht _ tw_411) (fun _ h9 => h9) rfl dX9_firstAlike_4 ?_
  refine lv_icmp_ge (tgt := 53) hx hb dX9_firstAlike_7 (by decide) (fun h1 => ?_) (fun h1 => ?_)
  · have z2 : (v.1 0 304).toInt ≤ ka.toInt := le_z rfl rfl h1
    refine lv_aload_n hx hb dX9_firstAlike_53 rfl (lv_at hl 1 rfl) ?_
    refine va_get (D := (dC, dI)) (ci := 12) (fs := oF_X9 ad pr v) (v := .int (v.1 0 304)) (C := RX9) (T := TX9) (N := 10) hx hb ht itX9 hown hK hP 0 rfl rfl 4 (by decide) (ht _ tw_411) (fun _ h9 => h9) rfl dX9_firstAlike_54 ?_
    exact W.iret (v := (v.1 0 304)) hx hb hr (fun t ht9 hW => ⟨⟨(v.1 0 304), v, rfl, ⟨rfl, ⟨z304, z373, ka, exL2, f1L2, (Or.inl ⟨z2, rfl⟩)⟩⟩, by rw [ht9]; exact hP, hD⟩, hS.F ht9⟩) hS.2.2 dX9_firstAlike_57
  · have z3 : ka.toInt < (v.1 0 304).toInt := nle_z rfl rfl h1
    refine lv_aload_n hx hb dX9_firstAlike_10 rfl (lv_at hl 1 rfl) ?_
    refine va_get (D := (dC, dI)) (ci := 12) (fs := oF_X9 ad pr v) (v := .ref (ad 301)) (C := RX9) (T := TX9) (N := 10) hx hb ht itX9 hown hK hP 0 rfl rfl 1 (by decide) (ht _ tw_412) (fun _ h9 => h9) rfl dX9_firstAlike_11 ?_
    refine lv_iload_n hx hb dX9_firstAlike_14 rfl (lv_at hl 0 rfl) ?_
    refine va_iald (D := (dC, dI)) (f := (v.1 301)) hx hb hK hP 10 0 rfl rfl (in_y (a := ka.toInt) (b := 1503) rfl (om_ac00129bfc f1L2) (om_a42527f4a4 z304 z3) rfl) dX9_firstAlike_15 ?_
    refine lv_iconst (v := 2) hx hb dX9_firstAlike_16 (by decide) ?_
    refine lv_icmp_ne (tgt := 47) hx hb dX9_firstAlike_17 (by decide) (fun h4 => ?_) (fun h4 => ?_)
    · have z5 : ((v.1 301) ka.toNatClampNeg).toInt ≠ (2 : Int) := ne_z rfl (show (2 : Int32).toInt = (2 : Int) by decide) h4
      refine lv_iinc (v := (ka + (1 : Int32))) (lv' := [(3, .int (ka + (1 : Int32))), (0, .ref (ad 900)), (1, .int pa), (2, .int pb)]) hx hb dX9_firstAlike_47 hl (k := 0) rfl (rfl) (by decide) rfl (fun ls hl => ?_)
      have z6 : (ka + (1 : Int32)).toInt = ka.toInt + 1 := inc_lt z3
      refine lv_goto (tgt := 2) hx hb dX9_firstAlike_50 (by decide) ?_
      exact ih2 (ka + (1 : Int32)) _ _ _ (show ((v.1 0 304).toInt - (ka + (1 : Int32)).toInt).toNat < ((v.1 0 304).toInt - ka.toInt).toNat from tn_z (om_7310d536e1 z6) (om_fe525f7549 z3)) ⟨(show 0 ≤ (ka + (1 : Int32)).toInt ∧ (ka + (1 : Int32)).toInt ≤ (v.1 0 304).toInt from (om_9c2bd96bbb f1L2 z3 z6)), (RT.st exL2 ⟨f1L2, z3, (Or.inl ⟨z5, rfl⟩)⟩), hP, hD, hS, lv_sub hl [0, 1, 2, 3] rfl⟩
    · have z7 : ((v.1 301) ka.toNatClampNeg).toInt = (2 : Int) := eq_z rfl (show (2 : Int32).toInt = (2 : Int) by decide) h4
      refine lv_aload_n hx hb dX9_firstAlike_20 rfl (lv_at hl 1 rfl) ?_
      refine va_get (D := (dC, dI)) (ci := 12) (fs := oF_X9 ad pr v) (v := .ref (ad 303)) (C := RX9) (T := TX9) (N := 10) hx hb ht itX9 hown hK hP 0 rfl rfl 3 (by decide) (ht _ tw_414) (fun _ h9 => h9) rfl dX9_firstAlike_21 ?_
      refine lv_iload_n hx hb dX9_firstAlike_24 rfl (lv_at hl 0 rfl) ?_
      refine va_iald (D := (dC, dI)) (f := (v.1 303)) hx hb hK hP 12 0 rfl rfl (in_y (a := ka.toInt) (b := 1503) rfl (om_ac00129bfc f1L2) (om_a42527f4a4 z304 z3) rfl) dX9_firstAlike_25 ?_
      refine lv_iload_n hx hb dX9_firstAlike_26 rfl (lv_at hl 0 rfl) ?_
      refine lv_icmp_ne (tgt := 47) hx hb dX9_firstAlike_27 (by decide) (fun h8 => ?_) (fun h8 => ?_)
      · have z9 : ((v.1 303) ka.toNatClampNeg).toInt ≠ ka.toInt := ne_z rfl rfl h8
        refine lv_iinc (v := (ka + (1 : Int32))) (lv' := [(3, .int (ka + (1 : Int32))), (0, .ref (ad 900)), (1, .int pa), (2, .int pb)]) hx hb dX9_firstAlike_47 hl (k := 0) rfl (rfl) (by decide) rfl (fun ls hl => ?_)
        have z10 : (ka + (1 : Int32)).toInt = ka.toInt + 1 := inc_lt z3
        refine lv_goto (tgt := 2) hx hb dX9_firstAlike_50 (by decide) ?_
        exact ih2 (ka + (1 : Int32)) _ _ _ (show ((v.1 0 304).toInt - (ka + (1 : Int32)).toInt).toNat < ((v.1 0 304).toInt - ka.toInt).toNat from tn_z (om_7310d536e1 z10) (om_fe525f7549 z3)) ⟨(show 0 ≤ (ka + (1 : Int32)).toInt ∧ (ka + (1 : Int32)).toInt ≤ (v.1 0 304).toInt from (om_9c2bd96bbb f1L2 z3 z10)), (RT.st exL2 ⟨f1L2, z3, (Or.inr (⟨z7, (Or.inl ⟨z9, rfl⟩)⟩))⟩), hP, hD, hS, lv_sub hl [0, 1, 2, 3] rfl⟩
      · have z11 : ((v.1 303) ka.toNatClampNeg).toInt = ka.toInt := eq_z rfl rfl h8
        refine lv_aload_n hx hb dX9_firstAlike_30 rfl (lv_at hl 1 rfl) ?_
        refine lv_aload_n hx hb dX9_firstAlike_31 rfl (lv_at hl 1 rfl) ?_
        refine va_get (D := (dC, dI)) (ci := 12) (fs := oF_X9 ad pr v) (v := .ref (ad 302)) (C := RX9) (T := TX9) (N := 10) hx hb ht itX9 hown hK hP 0 rfl rfl 2 (by decide) (ht _ tw_413) (fun _ h9 => h9) rfl dX9_firstAlike_32 ?_
        refine lv_iload_n hx hb dX9_firstAlike_35 rfl (lv_at hl 0 rfl) ?_
        refine va_iald (D := (dC, dI)) (f := (v.1 302)) hx hb hK hP 11 0 rfl rfl (in_y (a := ka.toInt) (b := 1503) rfl (om_ac00129bfc f1L2) (om_a42527f4a4 z304 z3) rfl) dX9_firstAlike_36 ?_
        refine lv_iload_n hx hb dX9_firstAlike_37 rfl (lv_at hl 2 rfl) ?_
        refine lv_iload_n hx hb dX9_firstAlike_38 rfl (lv_at hl 3 rfl) ?_
        refine cu_i (rn_Vk (n := 3) (As := [.int ((v.1 302) ka.toNatClampNeg), .int pa, .int pb]) (rest := []) hx hb hml hown ht hKK hFx hP hD hS hA (c_x_X9_isAlike l dC dI cI cB cZ cJ cR tb H.size ad pr N L1 L2 v ((v.1 302) ka.toNatClampNeg) pa pb ps (show 0 ≤ (v.1 0 373).toInt ∧ (v.1 0 373).toInt ≤ 4000 from (om_c74a68af25 z373)) (show pr ps = ad 908 from hps) (show (v.1 0 300) = ps from es300)) tw_419 tw_420 (by decide +kernel) rfl rfl ⟨Nat.le_of_ble_eq_true rfl, Nat.le_of_ble_eq_true rfl⟩ (List.range (cW ad pr N cI cR L1 L2 v).length) (rg_map _) (nd_range _) 0 rfl rfl rfl rfl hl.1 rfl (Nat.le_of_ble_eq_true rfl) dX9_firstAlike_39 ⟨Nat.le_of_ble_eq_true rfl, Nat.le_of_ble_eq_true rfl⟩) hP hD hS hA (fun r14 u13 H locs hw12 hP hD hS => ?_)
        obtain ⟨rfl, ex12, b12, e12⟩ := hw12
        refine W.widen (k := 0) (n := 0) (Nat.le_refl _) (Nat.le_refl _) ?_
        refine lv_if_eq (tgt := 47) hx hb dX9_firstAlike_42 (by decide) (fun h15 => ?_) (fun h15 => ?_)
        · have z16 : r14.toInt = (0 : Int) := eq_z rfl (show (0 : Int32).toInt = (0 : Int) by decide) h15
          refine lv_iinc (v := (ka + (1 : Int32))) (lv' := [(3, .int (ka + (1 : Int32))), (0, .ref (ad 900)), (1, .int pa), (2, .int pb)]) hx hb dX9_firstAlike_47 hl (k := 0) rfl (rfl) (by decide) rfl (fun ls hl => ?_)
          have z17 : (ka + (1 : Int32)).toInt = ka.toInt + 1 := inc_lt z3
          refine lv_goto (tgt := 2) hx hb dX9_firstAlike_50 (by decide) ?_
          exact ih2 (ka + (1 : Int32)) _ _ _ (show ((v.1 0 304).toInt - (ka + (1 : Int32)).toInt).toNat < ((v.1 0 304).toInt - ka.toInt).toNat from tn_z (om_7310d536e1 z17) (om_fe525f7549 z3)) ⟨(show 0 ≤ (ka + (1 : Int32)).toInt ∧ (ka + (1 : Int32)).toInt ≤ (v.1 0 304).toInt from (om_9c2bd96bbb f1L2 z3 z17)), (RT.st exL2 ⟨f1L2, z3, (Or.inr (⟨z7, (Or.inr (⟨z11, r14, ex12, ⟨b12, e12⟩, z16, rfl⟩))⟩))⟩), hP, hD, hS, lv_sub hl [0, 1, 2, 3] rfl⟩
        · have z18 : r14.toInt ≠ (0 : Int) := ne_z rfl (show (0 : Int32).toInt = (0 : Int) by decide) h15
          refine lv_iload_n hx hb dX9_firstAlike_45 rfl (lv_at hl 0 rfl) ?_
          exact W.iret (v := ka) hx hb hr (fun t ht9 hW => ⟨⟨ka, v, rfl, ⟨rfl, ⟨z304, z373, ka, exL2, f1L2, (Or.inr (⟨z3, z7, z11, r14, ex12, ⟨b12, e12⟩, z18, rfl⟩))⟩⟩, by rw [ht9]; exact hP, hD⟩, hS.F ht9⟩) hS.2.2 dX9_firstAlike_46
theorem om_d3faec84c5 {x0 : Int} (h0 : x0 < (88 : Int)) : x0 < 88 := by omega
set_option maxHeartbeats 4000000 in
set_option maxRecDepth 100000 in
theorem c_x_spelledK (l : Launch) (dC : Nat → ClassId) (dI : Nat → Nat → Nat) (cI cB cZ cJ cR : ClassId) (tb : Nat → Nat) (sz : Nat) (ad : Nat → Nat) (pr : Int32 → Nat) (N : Nat) (L1 L2 : List Nat) (v : MS) (pa : Int32) (pb : Int32) (pc1 : Int32) (ps : Int32) (z373 : 0 ≤ (v.1 0 373).toInt ∧ (v.1 0 373).toInt ≤ 4000) (hps : pr ps = ad 908) (es300 : (v.1 0 300) = ps) : Met l yX9_spelled (Cond.code yX9_spelled cX9_spelled 8 (some .int) :: tw_W) ({ frames := 4, cells := 0, slots := 0, locals := 85 }) (pc_ (dC, dI) (tyS cI cB cZ cJ cR) tb (cW ad pr N cI cR L1 L2 v) sz [.ref (ad 900), .ref (tb (100 + 0)), .int pa, .int pb, .int pc1]) (qi_ (dC, dI) (cW ad pr N cI cR L1 L2 v) sz (fun (r : Int32) (u : MS) => v = u ∧ (Q_x_spelledK L1 L2 v pa pb pc1 r)) (fun (u : MS) => (cW ad pr N cI cR L1 L2 u))) 0 0 (va_A (cW ad pr N cI cR L1 L2 v) sz) := by
  refine Met.ofW (cc := cX9_spelled) (maxL := 8) (ret := (some .int)) (by decide) rfl ?_
  intro p e s m args below meth c s₁ B hml hv
  obtain ⟨rfl, hsz, hP, hKK, hD0, hFx⟩ := hv
  have hK := hKK.1
  have hx := B.exec
  have hb := B.bytes
  have hr := B.returns
  have ht : ∀ w ∈ tw_W, w.before _ s = true := fun w h => atoms_spec (ws := Cond.code yX9_spelled cX9_spelled 8 (some .int) :: tw_W) B.pre w (List.mem_cons_of_mem _ h)
  have hown : s.vm.findClass RX9 = some m.cls := findClass_of_methodNamed B.named
  have hlocks := B.notSynchronized
  subst hsz
  unfold qi_
  have hD := hD0.self (sz := s.heap.size)
  generalize hAe : va_A (cW ad pr N cI cR L1 L2 v) s.heap.size = A at hD hFx ⊢
  have hA : ∀ q : Nat, s.heap.size ≤ q → A q := fun q h => by rw [← hAe]; exact Or.inr h
  have hS : va_S A s.heap s.heap [] := va_S.rf
  have hl := lv_entry ([.ref (ad 900), .ref (tb (100 + 0)), .int pa, .int pb, .int pc1]) (n := 8) (Nat.le_of_ble_eq_true rfl)
  rw [lg_entry_eq]
  generalize (lg_sl ([.ref (ad 900), .ref (tb (100 + 0)), .int pa, .int pb, .int pc1]) ++ List.replicate (8 - (lg_sl ([.ref (ad 900), .ref (tb (100 + 0)), .int pa, .int pb, .int pc1])).length) Slot.unset).toArray = ls at hl ⊢
  have hl : lv_has ls 8 [(0, .ref (ad 900)), (1, .ref (tb (100 + 0))), (2, .int pa), (3, .int pb), (4, .int pc1)] := hl
  refine lv_iconst (v := 0) hx hb dX9_spelled_0 (by decide) ?_
  refine lv_istore (lv' := [(5, .int 0), (0, .ref (ad 900)), (1, .ref (tb (100 + 0))), (2, .int pa), (3, .int pb), (4, .int pc1)]) hx hb dX9_spelled_1 hl (by decide) rfl (fun ls hl => ?_)
  refine lpm_ (X := Int32) (P := (fun (x9 : Int32) (H : Heap) (locs : List Loc) (ls : Array Slot) => (0 ≤ x9.toInt) ∧ (RT (Q_x_spelledK_L0 L1 L2 v pa pb pc1) 0 x9) ∧ va_P (dC, dI) vwCl (cW ad pr N cI cR L1 L2 v) H ∧ va_D A (cW ad pr N cI cR L1 L2 v) ∧ va_S A s.heap H locs ∧ lv_has ls 8 [(5, .int x9), (0, .ref (ad 900)), (1, .ref (tb (100 + 0))), (2, .int pa), (3, .int pb), (4, .int pc1)])) (fun x9 => (pa.toInt - x9.toInt).toNat) 3 (fun ka H locs ls hh ih3 => ?_) 0 _ _ _ ⟨(show 0 ≤ (0 : Int) from om_342087eeda), RT.rf, hP, hD, hS, lv_sub hl [0, 1, 2, 3, 4, 5] rfl⟩
  obtain ⟨f1L3, exL3, hP, hD, hS, hl⟩ := hh
  have f1L3 : 0 ≤ ka.toInt := f1L3
  have hl : lv_has ls 8 [(5, .int ka), (0, .ref (ad 900)), (1, .ref (tb (100 + 0))), (2, .int pa), (3, .int pb), (4, .int pc1)] := hl
  refine lv_iload hx hb dX9_spelled_3 (lv_at hl 0 rfl) ?_
  refine lv_iload_n hx hb dX9_spelled_5 rfl (lv_at hl 3 rfl) ?_
  refine lv_icmp_ge (tgt := 79) hx hb dX9_spelled_6 (by decide) (fun h1 => ?_) (fun h1 => ?_)
  · have z2 : pa.toInt ≤ ka.toInt := le_z rfl rfl h1
    refine lv_iload_n hx hb dX9_spelled_79 rfl (lv_at hl 3 rfl) ?_
    exact W.iret (v := pa) hx hb hr (fun t ht9 hW => ⟨⟨pa, v, rfl, ⟨rfl, ⟨z373, ka, exL3, f1L3, (Or.inl ⟨z2, rfl⟩)⟩⟩, by rw [ht9]; exact hP, hD⟩, hS.F ht9⟩) hS.2.2 dX9_spelled_80
  · have z3 : ka.toInt < pa.toInt := nle_z rfl rfl h1
    refine lv_iload_n hx hb dX9_spelled_9 rfl (lv_at hl 4 rfl) ?_
    refine lv_iload_n hx hb dX9_spelled_10 rfl (lv_at hl 3 rfl) ?_
    refine lv_imul hx hb dX9_spelled_11 ?_
    refine lv_iload hx hb dX9_spelled_12 (lv_at hl 0 rfl) ?_
    refine lv_iadd hx hb dX9_spelled_14 ?_
    refine lv_istore (lv' := [(6, .int ((pb * pa) + ka)), (5, .int ka), (0, .ref (ad 900)), (1, .ref (tb (100 + 0))), (2, .int pa), (3, .int pb), (4, .int pc1)]) hx hb dX9_spelled_15 hl (by decide) rfl (fun ls hl => ?_)
    refine lv_iload hx hb dX9_spelled_17 (lv_at hl 0 rfl) ?_
    refine lv_if_lt (tgt := 40) hx hb dX9_spelled_19 (by decide) (fun h4 => ?_) (fun h4 => ?_)
    · have z5 : ((pb * pa) + ka).toInt < (0 : Int) := lt_z rfl (show (0 : Int32).toInt = (0 : Int) by decide) h4
      refine lv_bipush (v := 32) hx hb dX9_spelled_40 (by decide) ?_
      refine lv_istore (lv' := [(7, .int 32), (6, .int ((pb * pa) + ka)), (5, .int ka), (0, .ref (ad 900)), (1, .ref (tb (100 + 0))), (2, .int pa), (3, .int pb), (4, .int pc1)]) hx hb dX9_spelled_42 hl (by decide) rfl (fun ls hl => ?_)
      refine lv_iload hx hb dX9_spelled_44 (lv_at hl 0 rfl) ?_
      refine lv_bipush (v := 32) hx hb dX9_spelled_46 (by decide) ?_
      refine lv_icmp_ne (tgt := 54) hx hb dX9_spelled_48 (by decide) (fun k6 => absurd k6 (by decide)) (fun _ => ?_)
      refine lv_iload hx hb dX9_spelled_51 (lv_at hl 2 rfl) ?_
      exact W.iret (v := ka) hx hb hr (fun t ht9 hW => ⟨⟨ka, v, rfl, ⟨rfl, ⟨z373, ka, exL3, f1L3, (Or.inr (⟨z3, (Or.inl ⟨z5, rfl⟩)⟩))⟩⟩, by rw [ht9]; exact hP, hD⟩, hS.F ht9⟩) hS.2.2 dX9_spelled_53
    · have z7 : (0 : Int) ≤ ((pb * pa) + ka).toInt := nlt_z rfl (show (0 : Int32).toInt = (0 : Int) by decide) h4
      refine lv_iload hx hb dX9_spelled_22 (lv_at hl 0 rfl) ?_
      refine lv_aload_n hx hb dX9_spelled_24 rfl (lv_at hl 3 rfl) ?_
      refine cu_s (nd_range _) (rn_VS (n := 0) (As := []) (rest := [.int ((pb * pa) + ka)]) hx hb hml hown ht hKK hFx hP hD hS hA (i := 0) (by decide) (c_sh_strLen l dC dI cI cB cZ cJ cR tb H.size 0 (by decide)) tw_279 tw_421 (by decide +kernel) rfl rfl ⟨Nat.le_of_ble_eq_true rfl, Nat.le_of_ble_eq_true rfl⟩ [] rfl (by decide) rfl hl.1 rfl (Nat.le_of_ble_eq_true rfl) dX9_spelled_25 ⟨Nat.le_of_ble_eq_true rfl, Nat.le_of_ble_eq_true rfl⟩) hP hD hS hA (fun r9 H locs hw8 hP hD hS => ?_)
      obtain rfl := hw8
      refine tp_i (y := 88) (by decide) ?_
      refine W.widen (k := 0) (n := 0) (Nat.le_refl _) (Nat.le_refl _) ?_
      refine lv_icmp_ge (tgt := 40) hx hb dX9_spelled_28 (by decide) (fun h10 => ?_) (fun h10 => ?_)
      · have z11 : (88 : Int) ≤ ((pb * pa) + ka).toInt := le_z (show (88 : Int32).toInt = (88 : Int) by decide) rfl h10
        refine lv_bipush (v := 32) hx hb dX9_spelled_40 (by decide) ?_
        refine lv_istore (lv' := [(7, .int 32), (6, .int ((pb * pa) + ka)), (5, .int ka), (0, .ref (ad 900)), (1, .ref (tb (100 + 0))), (2, .int pa), (3, .int pb), (4, .int pc1)]) hx hb dX9_spelled_42 hl (by decide) rfl (fun ls hl => ?_)
        refine lv_iload hx hb dX9_spelled_44 (lv_at hl 0 rfl) ?_
        refine lv_bipush (v := 32) hx hb dX9_spelled_46 (by decide) ?_
        refine lv_icmp_ne (tgt := 54) hx hb dX9_spelled_48 (by decide) (fun k12 => absurd k12 (by decide)) (fun _ => ?_)
        refine lv_iload hx hb dX9_spelled_51 (lv_at hl 2 rfl) ?_
        exact W.iret (v := ka) hx hb hr (fun t ht9 hW => ⟨⟨ka, v, rfl, ⟨rfl, ⟨z373, ka, exL3, f1L3, (Or.inr (⟨z3, (Or.inr (⟨z7, (Or.inl ⟨z11, rfl⟩)⟩))⟩))⟩⟩, by rw [ht9]; exact hP, hD⟩, hS.F ht9⟩) hS.2.2 dX9_spelled_53
      · have z13 : ((pb * pa) + ka).toInt < (88 : Int) := nle_z (show (88 : Int32).toInt = (88 : Int) by decide) rfl h10
        refine lv_aload_n hx hb dX9_spelled_31 rfl (lv_at hl 3 rfl) ?_
        refine lv_iload hx hb dX9_spelled_32 (lv_at hl 0 rfl) ?_
        refine tp_i (y := nI (((pb * pa) + ka).toNatClampNeg)) (nI_self (om_51058f7f87 z7)) ?_
        refine cu_s (nd_range _) (rn_VS (n := 1) (As := [.int (nI ((pb * pa) + ka).toNatClampNeg)]) (rest := []) hx hb hml hown ht hKK hFx hP hD hS hA (i := 0) (by decide) (c_sh_charAt l dC dI cI cB cZ cJ cR tb H.size 0 (((pb * pa) + ka).toNatClampNeg) (by decide) (by have h9 := nat_z (x := ((pb * pa) + ka)) (om_51058f7f87 z7); have h8 : ((pb * pa) + ka).toInt < 88 := (om_d3faec84c5 z13); show ((pb * pa) + ka).toNatClampNeg < 88; omega) (by decide)) tw_281 tw_422 (by decide +kernel) rfl rfl ⟨Nat.le_of_ble_eq_true rfl, Nat.le_of_ble_eq_true rfl⟩ [] rfl (by decide) rfl hl.1 rfl (Nat.le_of_ble_eq_true rfl) dX9_spelled_34 ⟨Nat.le_of_ble_eq_true rfl, Nat.le_of_ble_eq_true rfl⟩) hP hD hS hA (fun r15 H locs hw14 hP hD hS => ?_)
        refine W.widen (k := 0) (n := 0) (Nat.le_refl _) (Nat.le_refl _) ?_
        refine lv_goto (tgt := 42) hx hb dX9_spelled_37 (by decide) ?_
        refine lv_istore (lv' := [(7, .int r15), (6, .int ((pb * pa) + ka)), (5, .int ka), (0, .ref (ad 900)), (1, .ref (tb (100 + 0))), (2, .int pa), (3, .int pb), (4, .int pc1)]) hx hb dX9_spelled_42 hl (by decide) rfl (fun ls hl => ?_)
        refine lv_iload hx hb dX9_spelled_44 (lv_at hl 0 rfl) ?_
        refine lv_bipush (v := 32) hx hb dX9_spelled_46 (by decide) ?_
        refine lv_icmp_ne (tgt := 54) hx hb dX9_spelled_48 (by decide) (fun h16 => ?_) (fun h16 => ?_)
        · have z17 : r15.toInt ≠ (32 : Int) := ne_z rfl (show (32 : Int32).toInt = (32 : Int) by decide) h16
          refine lv_aload_n hx hb dX9_spelled_54 rfl (lv_at hl 3 rfl) ?_
          refine va_get (D := (dC, dI)) (ci := 12) (fs := oF_X9 ad pr v) (v := .ref (pr (v.1 0 300))) (C := RX9) (T := TX9) (N := 10) hx hb ht itX9 hown hK hP 0 rfl rfl 0 (by decide) (ht _ tw_415) (fun _ h9 => h9) rfl dX9_spelled_55 ?_
          refine lv_iload hx hb dX9_spelled_58 (lv_at hl 7 rfl) ?_
          refine lv_iload hx hb dX9_spelled_60 (lv_at hl 2 rfl) ?_
          refine lv_iadd hx hb dX9_spelled_62 ?_
          refine W.eq (g2 := F0 m 63 ls [.int (pc1 + ka), .ref (ad 908)]) (by rw [show pr (v.1 0 300) = (ad 908) from (by rw [show (v.1 0 300) = ps from es300]; exact hps)]) ?_
          refine cu_i (rn_Vk (n := 1) (As := [.int (pc1 + ka)]) (rest := []) hx hb hml hown ht hKK hFx hP hD hS hA (c_x_X7_byteAt l dC dI cI cB cZ cJ cR tb H.size ad pr N L1 L2 v (pc1 + ka) (show 0 ≤ (v.1 0 373).toInt ∧ (v.1 0 373).toInt ≤ 4000 from (om_c74a68af25 z373))) tw_392 tw_417 (by decide +kernel) rfl rfl ⟨Nat.le_of_ble_eq_true rfl, Nat.le_of_ble_eq_true rfl⟩ (List.range (cW ad pr N cI cR L1 L2 v).length) (rg_map _) (nd_range _) 8 rfl rfl rfl rfl hl.1 rfl (Nat.le_of_ble_eq_true rfl) dX9_spelled_63 ⟨Nat.le_of_ble_eq_true rfl, Nat.le_of_ble_eq_true rfl⟩) hP hD hS hA (fun r20 u19 H locs hw18 hP hD hS => ?_)
          obtain ⟨rfl, ex18⟩ := hw18
          refine W.widen (k := 0) (n := 0) (Nat.le_refl _) (Nat.le_refl _) ?_
          refine lv_iload hx hb dX9_spelled_66 (lv_at hl 0 rfl) ?_
          refine lv_icmp_eq (tgt := 73) hx hb dX9_spelled_68 (by decide) (fun h21 => ?_) (fun h21 => ?_)
          · have z22 : r20.toInt = r15.toInt := eq_z rfl rfl h21
            refine lv_iinc (v := (ka + (1 : Int32))) (lv' := [(5, .int (ka + (1 : Int32))), (7, .int r15), (6, .int ((pb * pa) + ka)), (0, .ref (ad 900)), (1, .ref (tb (100 + 0))), (2, .int pa), (3, .int pb), (4, .int pc1)]) hx hb dX9_spelled_73 hl (k := 2) rfl (rfl) (by decide) rfl (fun ls hl => ?_)
            have z23 : (ka + (1 : Int32)).toInt = ka.toInt + 1 := inc_lt z3
            refine lv_goto (tgt := 3) hx hb dX9_spelled_76 (by decide) ?_
            exact ih3 (ka + (1 : Int32)) _ _ _ (show (pa.toInt - (ka + (1 : Int32)).toInt).toNat < (pa.toInt - ka.toInt).toNat from tn_z (om_7310d536e1 z23) (om_fe525f7549 z3)) ⟨(show 0 ≤ (ka + (1 : Int32)).toInt from (om_db977a0953 f1L3 z23)), (RT.st exL3 ⟨f1L3, z3, z7, z13, r15, hw14, z17, r20, ex18, z22, rfl⟩), hP, hD, hS, lv_sub hl [0, 3, 4, 5, 6, 7] rfl⟩
          · have z24 : r20.toInt ≠ r15.toInt := ne_z rfl rfl h21
            refine lv_iconst (v := 0) hx hb dX9_spelled_71 (by decide) ?_
            exact W.iret (v := 0) hx hb hr (fun t ht9 hW => ⟨⟨0, v, rfl, ⟨rfl, ⟨z373, ka, exL3, f1L3, (Or.inr (⟨z3, (Or.inr (⟨z7, (Or.inr (⟨z13, r15, hw14, (Or.inl ⟨z17, r20, ex18, z24, rfl⟩)⟩))⟩))⟩))⟩⟩, by rw [ht9]; exact hP, hD⟩, hS.F ht9⟩) hS.2.2 dX9_spelled_72
        · have z25 : r15.toInt = (32 : Int) := eq_z rfl (show (32 : Int32).toInt = (32 : Int) by decide) h16
          refine lv_iload hx hb dX9_spelled_51 (lv_at hl 2 rfl) ?_
          exact W.iret (v := ka) hx hb hr (fun t ht9 hW => ⟨⟨ka, v, rfl, ⟨rfl, ⟨z373, ka, exL3, f1L3, (Or.inr (⟨z3, (Or.inr (⟨z7, (Or.inr (⟨z13, r15, hw14, (Or.inr (⟨z25, rfl⟩))⟩))⟩))⟩))⟩⟩, by rw [ht9]; exact hP, hD⟩, hS.F ht9⟩) hS.2.2 dX9_spelled_53
theorem om_3c39ec9612 {x0 : Int} (h0 : x0 < (123 : Int)) : x0 < 123 := by omega
set_option maxHeartbeats 4000000 in
set_option maxRecDepth 100000 in
theorem c_x_spelledS (l : Launch) (dC : Nat → ClassId) (dI : Nat → Nat → Nat) (cI cB cZ cJ cR : ClassId) (tb : Nat → Nat) (sz : Nat) (ad : Nat → Nat) (pr : Int32 → Nat) (N : Nat) (L1 L2 : List Nat) (v : MS) (pa : Int32) (pb : Int32) (pc1 : Int32) (ps : Int32) (z373 : 0 ≤ (v.1 0 373).toInt ∧ (v.1 0 373).toInt ≤ 4000) (hps : pr ps = ad 908) (es300 : (v.1 0 300) = ps) : Met l yX9_spelled (Cond.code yX9_spelled cX9_spelled 8 (some .int) :: tw_W) ({ frames := 4, cells := 0, slots := 0, locals := 85 }) (pc_ (dC, dI) (tyS cI cB cZ cJ cR) tb (cW ad pr N cI cR L1 L2 v) sz [.ref (ad 900), .ref (tb (100 + 1)), .int pa, .int pb, .int pc1]) (qi_ (dC, dI) (cW ad pr N cI cR L1 L2 v) sz (fun (r : Int32) (u : MS) => v = u ∧ (Q_x_spelledS L1 L2 v pa pb pc1 r)) (fun (u : MS) => (cW ad pr N cI cR L1 L2 u))) 0 0 (va_A (cW ad pr N cI cR L1 L2 v) sz) := by
  refine Met.ofW (cc := cX9_spelled) (maxL := 8) (ret := (some .int)) (by decide) rfl ?_
  intro p e s m args below meth c s₁ B hml hv
  obtain ⟨rfl, hsz, hP, hKK, hD0, hFx⟩ := hv
  have hK := hKK.1
  have hx := B.exec
  have hb := B.bytes
  have hr := B.returns
  have ht : ∀ w ∈ tw_W, w.before _ s = true := fun w h => atoms_spec (ws := Cond.code yX9_spelled cX9_spelled 8 (some .int) :: tw_W) B.pre w (List.mem_cons_of_mem _ h)
  have hown : s.vm.findClass RX9 = some m.cls := findClass_of_methodNamed B.named
  have hlocks := B.notSynchronized
  subst hsz
  unfold qi_
  have hD := hD0.self (sz := s.heap.size)
  generalize hAe : va_A (cW ad pr N cI cR L1 L2 v) s.heap.size = A at hD hFx ⊢
  have hA : ∀ q : Nat, s.heap.size ≤ q → A q := fun q h => by rw [← hAe]; exact Or.inr h
  have hS : va_S A s.heap s.heap [] := va_S.rf
  have hl := lv_entry ([.ref (ad 900), .ref (tb (100 + 1)), .int pa, .int pb, .int pc1]) (n := 8) (Nat.le_of_ble_eq_true rfl)
  rw [lg_entry_eq]
  generalize (lg_sl ([.ref (ad 900), .ref (tb (100 + 1)), .int pa, .int pb, .int pc1]) ++ List.replicate (8 - (lg_sl ([.ref (ad 900), .ref (tb (100 + 1)), .int pa, .int pb, .int pc1])).length) Slot.unset).toArray = ls at hl ⊢
  have hl : lv_has ls 8 [(0, .ref (ad 900)), (1, .ref (tb (100 + 1))), (2, .int pa), (3, .int pb), (4, .int pc1)] := hl
  refine lv_iconst (v := 0) hx hb dX9_spelled_0 (by decide) ?_
  refine lv_istore (lv' := [(5, .int 0), (0, .ref (ad 900)), (1, .ref (tb (100 + 1))), (2, .int pa), (3, .int pb), (4, .int pc1)]) hx hb dX9_spelled_1 hl (by decide) rfl (fun ls hl => ?_)
  refine lpm_ (X := Int32) (P := (fun (x9 : Int32) (H : Heap) (locs : List Loc) (ls : Array Slot) => (0 ≤ x9.toInt) ∧ (RT (Q_x_spelledS_L0 L1 L2 v pa pb pc1) 0 x9) ∧ va_P (dC, dI) vwCl (cW ad pr N cI cR L1 L2 v) H ∧ va_D A (cW ad pr N cI cR L1 L2 v) ∧ va_S A s.heap H locs ∧ lv_has ls 8 [(5, .int x9), (0, .ref (ad 900)), (1, .ref (tb (100 + 1))), (2, .int pa), (3, .int pb), (4, .int pc1)])) (fun x9 => (pa.toInt - x9.toInt).toNat) 3 (fun ka H locs ls hh ih3 => ?_) 0 _ _ _ ⟨(show 0 ≤ (0 : Int) from om_342087eeda), RT.rf, hP, hD, hS, lv_sub hl [0, 1, 2, 3, 4, 5] rfl⟩
  obtain ⟨f1L3, exL3, hP, hD, hS, hl⟩ := hh
  have f1L3 : 0 ≤ ka.toInt := f1L3
  have hl : lv_has ls 8 [(5, .int ka), (0, .ref (ad 900)), (1, .ref (tb (100 + 1))), (2, .int pa), (3, .int pb), (4, .int pc1)] := hl
  refine lv_iload hx hb dX9_spelled_3 (lv_at hl 0 rfl) ?_
  refine lv_iload_n hx hb dX9_spelled_5 rfl (lv_at hl 3 rfl) ?_
  refine lv_icmp_ge (tgt := 79) hx hb dX9_spelled_6 (by decide) (fun h1 => ?_) (fun h1 => ?_)
  · have z2 : pa.toInt ≤ ka.toInt := le_z rfl rfl h1
    refine lv_iload_n hx hb dX9_spelled_79 rfl (lv_at hl 3 rfl) ?_
    exact W.iret (v := pa) hx hb hr (fun t ht9 hW => ⟨⟨pa, v, rfl, ⟨rfl, ⟨z373, ka, exL3, f1L3, (Or.inl ⟨z2, rfl⟩)⟩⟩, by rw [ht9]; exact hP, hD⟩, hS.F ht9⟩) hS.2.2 dX9_spelled_80
  · have z3 : ka.toInt < pa.toInt := nle_z rfl rfl h1
    refine lv_iload_n hx hb dX9_spelled_9 rfl (lv_at hl 4 rfl) ?_
    refine lv_iload_n hx hb dX9_spelled_10 rfl (lv_at hl 3 rfl) ?_
    refine lv_imul hx hb dX9_spelled_11 ?_
    refine lv_iload hx hb dX9_spelled_12 (lv_at hl 0 rfl) ?_
    refine lv_iadd hx hb dX9_spelled_14 ?_
    refine lv_istore (lv' := [(6, .int ((pb * pa) + ka)), (5, .int ka), (0, .ref (ad 900)), (1, .ref (tb (100 + 1))), (2, .int pa), (3, .int pb), (4, .int pc1)]) hx hb dX9_spelled_15 hl (by decide) rfl (fun ls hl => ?_)
    refine lv_iload hx hb dX9_spelled_17 (lv_at hl 0 rfl) ?_
    refine lv_if_lt (tgt := 40) hx hb dX9_spelled_19 (by decide) (fun h4 => ?_) (fun h4 => ?_)
    · have z5 : ((pb * pa) + ka).toInt < (0 : Int) := lt_z rfl (show (0 : Int32).toInt = (0 : Int) by decide) h4
      refine lv_bipush (v := 32) hx hb dX9_spelled_40 (by decide) ?_
      refine lv_istore (lv' := [(7, .int 32), (6, .int ((pb * pa) + ka)), (5, .int ka), (0, .ref (ad 900)), (1, .ref (tb (100 + 1))), (2, .int pa), (3, .int pb), (4, .int pc1)]) hx hb dX9_spelled_42 hl (by decide) rfl (fun ls hl => ?_)
      refine lv_iload hx hb dX9_spelled_44 (lv_at hl 0 rfl) ?_
      refine lv_bipush (v := 32) hx hb dX9_spelled_46 (by decide) ?_
      refine lv_icmp_ne (tgt := 54) hx hb dX9_spelled_48 (by decide) (fun k6 => absurd k6 (by decide)) (fun _ => ?_)
      refine lv_iload hx hb dX9_spelled_51 (lv_at hl 2 rfl) ?_
      exact W.iret (v := ka) hx hb hr (fun t ht9 hW => ⟨⟨ka, v, rfl, ⟨rfl, ⟨z373, ka, exL3, f1L3, (Or.inr (⟨z3, (Or.inl ⟨z5, rfl⟩)⟩))⟩⟩, by rw [ht9]; exact hP, hD⟩, hS.F ht9⟩) hS.2.2 dX9_spelled_53
    · have z7 : (0 : Int) ≤ ((pb * pa) + ka).toInt := nlt_z rfl (show (0 : Int32).toInt = (0 : Int) by decide) h4
      refine lv_iload hx hb dX9_spelled_22 (lv_at hl 0 rfl) ?_
      refine lv_aload_n hx hb dX9_spelled_24 rfl (lv_at hl 3 rfl) ?_
      refine cu_s (nd_range _) (rn_VS (n := 0) (As := []) (rest := [.int ((pb * pa) + ka)]) hx hb hml hown ht hKK hFx hP hD hS hA (i := 1) (by decide) (c_sh_strLen l dC dI cI cB cZ cJ cR tb H.size 1 (by decide)) tw_279 tw_421 (by decide +kernel) rfl rfl ⟨Nat.le_of_ble_eq_true rfl, Nat.le_of_ble_eq_true rfl⟩ [] rfl (by decide) rfl hl.1 rfl (Nat.le_of_ble_eq_true rfl) dX9_spelled_25 ⟨Nat.le_of_ble_eq_true rfl, Nat.le_of_ble_eq_true rfl⟩) hP hD hS hA (fun r9 H locs hw8 hP hD hS => ?_)
      obtain rfl := hw8
      refine tp_i (y := 123) (by decide) ?_
      refine W.widen (k := 0) (n := 0) (Nat.le_refl _) (Nat.le_refl _) ?_
      refine lv_icmp_ge (tgt := 40) hx hb dX9_spelled_28 (by decide) (fun h10 => ?_) (fun h10 => ?_)
      · have z11 : (123 : Int) ≤ ((pb * pa) + ka).toInt := le_z (show (123 : Int32).toInt = (123 : Int) by decide) rfl h10
        refine lv_bipush (v := 32) hx hb dX9_spelled_40 (by decide) ?_
        refine lv_istore (lv' := [(7, .int 32), (6, .int ((pb * pa) + ka)), (5, .int ka), (0, .ref (ad 900)), (1, .ref (tb (100 + 1))), (2, .int pa), (3, .int pb), (4, .int pc1)]) hx hb dX9_spelled_42 hl (by decide) rfl (fun ls hl => ?_)
        refine lv_iload hx hb dX9_spelled_44 (lv_at hl 0 rfl) ?_
        refine lv_bipush (v := 32) hx hb dX9_spelled_46 (by decide) ?_
        refine lv_icmp_ne (tgt := 54) hx hb dX9_spelled_48 (by decide) (fun k12 => absurd k12 (by decide)) (fun _ => ?_)
        refine lv_iload hx hb dX9_spelled_51 (lv_at hl 2 rfl) ?_
        exact W.iret (v := ka) hx hb hr (fun t ht9 hW => ⟨⟨ka, v, rfl, ⟨rfl, ⟨z373, ka, exL3, f1L3, (Or.inr (⟨z3, (Or.inr (⟨z7, (Or.inl ⟨z11, rfl⟩)⟩))⟩))⟩⟩, by rw [ht9]; exact hP, hD⟩, hS.F ht9⟩) hS.2.2 dX9_spelled_53
      · have z13 : ((pb * pa) + ka).toInt < (123 : Int) := nle_z (show (123 : Int32).toInt = (123 : Int) by decide) rfl h10
        refine lv_aload_n hx hb dX9_spelled_31 rfl (lv_at hl 3 rfl) ?_
        refine lv_iload hx hb dX9_spelled_32 (lv_at hl 0 rfl) ?_
        refine tp_i (y := nI (((pb * pa) + ka).toNatClampNeg)) (nI_self (om_51058f7f87 z7)) ?_
        refine cu_s (nd_range _) (rn_VS (n := 1) (As := [.int (nI ((pb * pa) + ka).toNatClampNeg)]) (rest := []) hx hb hml hown ht hKK hFx hP hD hS hA (i := 1) (by decide) (c_sh_charAt l dC dI cI cB cZ cJ cR tb H.size 1 (((pb * pa) + ka).toNatClampNeg) (by decide) (by have h9 := nat_z (x := ((pb * pa) + ka)) (om_51058f7f87 z7); have h8 : ((pb * pa) + ka).toInt < 123 := (om_3c39ec9612 z13); show ((pb * pa) + ka).toNatClampNeg < 123; omega) (by decide)) tw_281 tw_422 (by decide +kernel) rfl rfl ⟨Nat.le_of_ble_eq_true rfl, Nat.le_of_ble_eq_true rfl⟩ [] rfl (by decide) rfl hl.1 rfl (Nat.le_of_ble_eq_true rfl) dX9_spelled_34 ⟨Nat.le_of_ble_eq_true rfl, Nat.le_of_ble_eq_true rfl⟩) hP hD hS hA (fun r15 H locs hw14 hP hD hS => ?_)
        refine W.widen (k := 0) (n := 0) (Nat.le_refl _) (Nat.le_refl _) ?_
        refine lv_goto (tgt := 42) hx hb dX9_spelled_37 (by decide) ?_
        refine lv_istore (lv' := [(7, .int r15), (6, .int ((pb * pa) + ka)), (5, .int ka), (0, .ref (ad 900)), (1, .ref (tb (100 + 1))), (2, .int pa), (3, .int pb), (4, .int pc1)]) hx hb dX9_spelled_42 hl (by decide) rfl (fun ls hl => ?_)
        refine lv_iload hx hb dX9_spelled_44 (lv_at hl 0 rfl) ?_
        refine lv_bipush (v := 32) hx hb dX9_spelled_46 (by decide) ?_
        refine lv_icmp_ne (tgt := 54) hx hb dX9_spelled_48 (by decide) (fun h16 => ?_) (fun h16 => ?_)
        · have z17 : r15.toInt ≠ (32 : Int) := ne_z rfl (show (32 : Int32).toInt = (32 : Int) by decide) h16
          refine lv_aload_n hx hb dX9_spelled_54 rfl (lv_at hl 3 rfl) ?_
          refine va_get (D := (dC, dI)) (ci := 12) (fs := oF_X9 ad pr v) (v := .ref (pr (v.1 0 300))) (C := RX9) (T := TX9) (N := 10) hx hb ht itX9 hown hK hP 0 rfl rfl 0 (by decide) (ht _ tw_415) (fun _ h9 => h9) rfl dX9_spelled_55 ?_
          refine lv_iload hx hb dX9_spelled_58 (lv_at hl 7 rfl) ?_
          refine lv_iload hx hb dX9_spelled_60 (lv_at hl 2 rfl) ?_
          refine lv_iadd hx hb dX9_spelled_62 ?_
          refine W.eq (g2 := F0 m 63 ls [.int (pc1 + ka), .ref (ad 908)]) (by rw [show pr (v.1 0 300) = (ad 908) from (by rw [show (v.1 0 300) = ps from es300]; exact hps)]) ?_
          refine cu_i (rn_Vk (n := 1) (As := [.int (pc1 + ka)]) (rest := []) hx hb hml hown ht hKK hFx hP hD hS hA (c_x_X7_byteAt l dC dI cI cB cZ cJ cR tb H.size ad pr N L1 L2 v (pc1 + ka) (show 0 ≤ (v.1 0 373).toInt ∧ (v.1 0 373).toInt ≤ 4000 from (om_c74a68af25 z373))) tw_392 tw_417 (by decide +kernel) rfl rfl ⟨Nat.le_of_ble_eq_true rfl, Nat.le_of_ble_eq_true rfl⟩ (List.range (cW ad pr N cI cR L1 L2 v).length) (rg_map _) (nd_range _) 8 rfl rfl rfl rfl hl.1 rfl (Nat.le_of_ble_eq_true rfl) dX9_spelled_63 ⟨Nat.le_of_ble_eq_true rfl, Nat.le_of_ble_eq_true rfl⟩) hP hD hS hA (fun r20 u19 H locs hw18 hP hD hS => ?_)
          obtain ⟨rfl, ex18⟩ := hw18
          refine W.widen (k := 0) (n := 0) (Nat.le_refl _) (Nat.le_refl _) ?_
          refine lv_iload hx hb dX9_spelled_66 (lv_at hl 0 rfl) ?_
          refine lv_icmp_eq (tgt := 73) hx hb dX9_spelled_68 (by decide) (fun h21 => ?_) (fun h21 => ?_)
          · have z22 : r20.toInt = r15.toInt := eq_z rfl rfl h21
            refine lv_iinc (v := (ka + (1 : Int32))) (lv' := [(5, .int (ka + (1 : Int32))), (7, .int r15), (6, .int ((pb * pa) + ka)), (0, .ref (ad 900)), (1, .ref (tb (100 + 1))), (2, .int pa), (3, .int pb), (4, .int pc1)]) hx hb dX9_spelled_73 hl (k := 2) rfl (rfl) (by decide) rfl (fun ls hl => ?_)
            have z23 : (ka + (1 : Int32)).toInt = ka.toInt + 1 := inc_lt z3
            refine lv_goto (tgt := 3) hx hb dX9_spelled_76 (by decide) ?_
            exact ih3 (ka + (1 : Int32)) _ _ _ (show (pa.toInt - (ka + (1 : Int32)).toInt).toNat < (pa.toInt - ka.toInt).toNat from tn_z (om_7310d536e1 z23) (om_fe525f7549 z3)) ⟨(show 0 ≤ (ka + (1 : Int32)).toInt from (om_db977a0953 f1L3 z23)), (RT.st exL3 ⟨f1L3, z3, z7, z13, r15, hw14, z17, r20, ex18, z22, rfl⟩), hP, hD, hS, lv_sub hl [0, 3, 4, 5, 6, 7] rfl⟩
          · have z24 : r20.toInt ≠ r15.toInt := ne_z rfl rfl h21
            refine lv_iconst (v := 0) hx hb dX9_spelled_71 (by decide) ?_
            exact W.iret (v := 0) hx hb hr (fun t ht9 hW => ⟨⟨0, v, rfl, ⟨rfl, ⟨z373, ka, exL3, f1L3, (Or.inr (⟨z3, (Or.inr (⟨z7, (Or.inr (⟨z13, r15, hw14, (Or.inl ⟨z17, r20, ex18, z24, rfl⟩)⟩))⟩))⟩))⟩⟩, by rw [ht9]; exact hP, hD⟩, hS.F ht9⟩) hS.2.2 dX9_spelled_72
        · have z25 : r15.toInt = (32 : Int) := eq_z rfl (show (32 : Int32).toInt = (32 : Int) by decide) h16
          refine lv_iload hx hb dX9_spelled_51 (lv_at hl 2 rfl) ?_
          exact W.iret (v := ka) hx hb hr (fun t ht9 hW => ⟨⟨ka, v, rfl, ⟨rfl, ⟨z373, ka, exL3, f1L3, (Or.inr (⟨z3, (Or.inr (⟨z7, (Or.inr (⟨z13, r15, hw14, (Or.inr (⟨z25, rfl⟩))⟩))⟩))⟩))⟩⟩, by rw [ht9]; exact hP, hD⟩, hS.F ht9⟩) hS.2.2 dX9_spelled_53
theorem om_c99648273b {x0 : Int} (h0 : 0 ≤ x0 ∧ x0 ≤ 1503) : 0 ≤ x0 ∧ x0 ≤ 1503 := by omega
theorem om_d64a792b2e {x0 : Int} (h0 : 0 ≤ x0) : -2147483648 ≤ x0 + (1 : Int) := by omega
theorem om_f336be9828 {x0 : Int} (h0 : x0 < (11 : Int)) : x0 + (1 : Int) < 2147483648 := by omega
theorem om_d99f09c756 {x0 x1 : Int} (h0 : 0 ≤ x0) (h1 : x1 = x0 + (1 : Int)) : 0 ≤ x1 := by omega
theorem om_5c607c8cae {x0 x1 : Int} (h0 : x0 = x1 + (1 : Int)) : 11 - x0 < 11 - x1 := by omega
theorem om_cf788973ef {x0 : Int} (h0 : x0 < (11 : Int)) : 0 < 11 - x0 := by omega
theorem om_9697ffd754 {x0 : Int} (h0 : 0 ≤ x0) : -2147483648 ≤ (10 : Int) + x0 := by omega
theorem om_347881aea8 {x0 : Int} (h0 : x0 < (11 : Int)) : (10 : Int) + x0 < 2147483648 := by omega
set_option maxHeartbeats 4000000 in
set_option maxRecDepth 100000 in
theorem c_x_X9_scanName (l : Launch) (dC : Nat → ClassId) (dI : Nat → Nat → Nat) (cI cB cZ cJ cR : ClassId) (tb : Nat → Nat) (sz : Nat) (ad : Nat → Nat) (pr : Int32 → Nat) (N : Nat) (L1 L2 : List Nat) (v : MS) (pa : Int32) (ps : Int32) (z304 : 0 ≤ (v.1 0 304).toInt ∧ (v.1 0 304).toInt ≤ 1503) (z373 : 0 ≤ (v.1 0 373).toInt ∧ (v.1 0 373).toInt ≤ 4000) (hps : pr ps = ad 908) (es300 : (v.1 0 300) = ps) : Met l yX9_scanName (Cond.code yX9_scanName cX9_scanName 4 (some .int) :: tw_W) ({ frames := 5, cells := 0, slots := 0, locals := 112 }) (pc_ (dC, dI) (tyS cI cB cZ cJ cR) tb (cW ad pr N cI cR L1 L2 v) sz [.ref (ad 900), .int pa]) (qi_ (dC, dI) (cW ad pr N cI cR L1 L2 v) sz (fun (r : Int32) (u : MS) => FC [304] [0, 301, 302, 303] v u ∧ (Q_x_X9_scanName L1 L2 v pa r u) ∧ (0 ≤ (u.1 0 304).toInt ∧ (u.1 0 304).toInt ≤ 1503) ∧ (RS v u)) (fun (u : MS) => (cW ad pr N cI cR L1 L2 u))) 0 0 (va_A (cW ad pr N cI cR L1 L2 v) sz) := by
  refine Met.ofW (cc := cX9_scanName) (maxL := 4) (ret := (some .int)) (by decide) rfl ?_
  intro p e s m args below meth c s₁ B hml hv
  obtain ⟨rfl, hsz, hP, hKK, hD0, hFx⟩ := hv
  have hK := hKK.1
  have hx := B.exec
  have hb := B.bytes
  have hr := B.returns
  have ht : ∀ w ∈ tw_W, w.before _ s = true := fun w h => atoms_spec (ws := Cond.code yX9_scanName cX9_scanName 4 (some .int) :: tw_W) B.pre w (List.mem_cons_of_mem _ h)
  have hown : s.vm.findClass RX9 = some m.cls := findClass_of_methodNamed B.named
  have hlocks := B.notSynchronized
  subst hsz
  unfold qi_
  have hD := hD0.self (sz := s.heap.size)
  generalize hAe : va_A (cW ad pr N cI cR L1 L2 v) s.heap.size = A at hD hFx ⊢
  have hA : ∀ q : Nat, s.heap.size ≤ q → A q := fun q h => by rw [← hAe]; exact Or.inr h
  have hS : va_S A s.heap s.heap [] := va_S.rf
  have hl := lv_entry ([.ref (ad 900), .int pa]) (n := 4) (Nat.le_of_ble_eq_true rfl)
  rw [lg_entry_eq]
  generalize (lg_sl ([.ref (ad 900), .int pa]) ++ List.replicate (4 - (lg_sl ([.ref (ad 900), .int pa])).length) Slot.unset).toArray = ls at hl ⊢
  have hl : lv_has ls 4 [(0, .ref (ad 900)), (1, .int pa)] := hl
  refine lv_aload_n hx hb dX9_scanName_0 rfl (lv_at hl 0 rfl) ?_
  refine va_get (D := (dC, dI)) (ci := 12) (fs := oF_X9 ad pr v) (v := .ref (pr (v.1 0 300))) (C := RX9) (T := TX9) (N := 10) hx hb ht itX9 hown hK hP 0 rfl rfl 0 (by decide) (ht _ tw_415) (fun _ h9 => h9) rfl dX9_scanName_1 ?_
  refine lv_iload_n hx hb dX9_scanName_4 rfl (lv_at hl 1 rfl) ?_
  refine W.eq (g2 := F0 m 5 ls [.int pa, .ref (ad 908)]) (by rw [show pr (v.1 0 300) = (ad 908) from (by rw [show (v.1 0 300) = ps from es300]; exact hps)]) ?_
  refine cu_i (rn_Vk (n := 1) (As := [.int pa]) (rest := []) hx hb hml hown ht hKK hFx hP hD hS hA (c_x_X7_nameBytes l dC dI cI cB cZ cJ cR tb s.heap.size ad pr N L1 L2 v pa (show 0 ≤ (v.1 0 373).toInt ∧ (v.1 0 373).toInt ≤ 4000 from (om_c74a68af25 z373))) tw_423 tw_424 (by decide +kernel) rfl rfl ⟨Nat.le_of_ble_eq_true rfl, Nat.le_of_ble_eq_true rfl⟩ (List.range (cW ad pr N cI cR L1 L2 v).length) (rg_map _) (nd_range _) 8 rfl rfl rfl rfl hl.1 rfl (Nat.le_of_ble_eq_true rfl) dX9_scanName_5 ⟨Nat.le_of_ble_eq_true rfl, Nat.le_of_ble_eq_true rfl⟩) hP hD hS hA (fun r3 u2 H locs hw1 hP hD hS => ?_)
  obtain ⟨rfl, ex1⟩ := hw1
  refine W.widen (k := 0) (n := 0) (Nat.le_refl _) (Nat.le_refl _) ?_
  refine lv_istore_n (lv' := [(2, .int r3), (0, .ref (ad 900)), (1, .int pa)]) hx hb dX9_scanName_8 rfl hl (by decide) rfl (fun ls hl => ?_)
  refine lv_iload_n hx hb dX9_scanName_9 rfl (lv_at hl 0 rfl) ?_
  refine lv_bipush (v := 16) hx hb dX9_scanName_10 (by decide) ?_
  refine lv_icmp_le (tgt := 24) hx hb dX9_scanName_12 (by decide) (fun h4 => ?_) (fun h4 => ?_)
  · have z5 : r3.toInt ≤ (16 : Int) := le_z rfl (show (16 : Int32).toInt = (16 : Int) by decide) h4
    refine lv_iconst (v := 0) hx hb dX9_scanName_24 (by decide) ?_
    refine lv_istore_n (lv' := [(3, .int 0), (2, .int r3), (0, .ref (ad 900)), (1, .int pa)]) hx hb dX9_scanName_25 rfl hl (by decide) rfl (fun ls hl => ?_)
    refine lpm_ (X := Int32) (P := (fun (x9 : Int32) (H : Heap) (locs : List Loc) (ls : Array Slot) => (0 ≤ x9.toInt) ∧ (RT (Q_x_X9_scanName_L0 L1 L2 v pa r3) 0 x9) ∧ va_P (dC, dI) vwCl (cW ad pr N cI cR L1 L2 v) H ∧ va_D A (cW ad pr N cI cR L1 L2 v) ∧ va_S A s.heap H locs ∧ lv_has ls 4 [(3, .int x9), (2, .int r3), (0, .ref (ad 900)), (1, .int pa)])) (fun x9 => (11 - x9.toInt).toNat) 26 (fun ka H locs ls hh ih26 => ?_) 0 _ _ _ ⟨(show 0 ≤ (0 : Int) from om_342087eeda), RT.rf, hP, hD, hS, lv_sub hl [0, 1, 2, 3] rfl⟩
    obtain ⟨f1L26, exL26, hP, hD, hS, hl⟩ := hh
    have f1L26 : 0 ≤ ka.toInt := f1L26
    have hl : lv_has ls 4 [(3, .int ka), (2, .int r3), (0, .ref (ad 900)), (1, .int pa)] := hl
    refine lv_iload_n hx hb dX9_scanName_26 rfl (lv_at hl 0 rfl) ?_
    refine va_ldcS hx hb hown (st_ hKK 0 (own := RX9) (idx := 88) (tx := "int     if      else    while   do      for     break   continuereturn  put     get     ") (n := 0) rfl) dX9_scanName_27 ?_
    refine cu_s (nd_range _) (rn_VS (n := 0) (As := []) (rest := [.int ka]) hx hb hml hown ht hKK hFx hP hD hS hA (i := 0) (by decide) (c_sh_strLen l dC dI cI cB cZ cJ cR tb H.size 0 (by decide)) tw_279 tw_421 (by decide +kernel) rfl rfl ⟨Nat.le_of_ble_eq_true rfl, Nat.le_of_ble_eq_true rfl⟩ [] rfl (by decide) rfl hl.1 rfl (Nat.le_of_ble_eq_true rfl) dX9_scanName_29 ⟨Nat.le_of_ble_eq_true rfl, Nat.le_of_ble_eq_true rfl⟩) hP hD hS hA (fun r7 H locs hw6 hP hD hS => ?_)
    obtain rfl := hw6
    refine tp_i (y := 88) (by decide) ?_
    refine W.widen (k := 0) (n := 0) (Nat.le_refl _) (Nat.le_refl _) ?_
    refine lv_bipush (v := 8) hx hb dX9_scanName_32 (by decide) ?_
    refine lv_idiv hx hb dX9_scanName_34 (by decide) ?_
    refine tp_i (y := 11) (by decide) ?_
    refine lv_icmp_ge (tgt := 70) hx hb dX9_scanName_35 (by decide) (fun h8 => ?_) (fun h8 => ?_)
    · have z9 : (11 : Int) ≤ ka.toInt := le_z (show (11 : Int32).toInt = (11 : Int) by decide) rfl h8
      refine lv_aload_n hx hb dX9_scanName_70 rfl (lv_at hl 2 rfl) ?_
      refine lv_iconst (v := 2) hx hb dX9_scanName_71 (by decide) ?_
      refine lv_iload_n hx hb dX9_scanName_72 rfl (lv_at hl 3 rfl) ?_
      refine lv_aload_n hx hb dX9_scanName_73 rfl (lv_at hl 2 rfl) ?_
      refine lv_iload_n hx hb dX9_scanName_74 rfl (lv_at hl 3 rfl) ?_
      refine lv_iload_n hx hb dX9_scanName_75 rfl (lv_at hl 1 rfl) ?_
      refine cu_i (rn_Vk (n := 2) (As := [.int pa, .int r3]) (rest := [.int pa, .int 2, .ref (ad 900)]) hx hb hml hown ht hKK hFx hP hD hS hA (c_x_X9_firstAlike l dC dI cI cB cZ cJ cR tb H.size ad pr N L1 L2 v pa r3 ps (show 0 ≤ (v.1 0 304).toInt ∧ (v.1 0 304).toInt ≤ 1503 from (om_c99648273b z304)) (show 0 ≤ (v.1 0 373).toInt ∧ (v.1 0 373).toInt ≤ 4000 from (om_c74a68af25 z373)) (show pr ps = ad 908 from hps) (show (v.1 0 300) = ps from es300)) tw_425 tw_426 (by decide +kernel) rfl rfl ⟨Nat.le_of_ble_eq_true rfl, Nat.le_of_ble_eq_true rfl⟩ (List.range (cW ad pr N cI cR L1 L2 v).length) (rg_map _) (nd_range _) 0 rfl rfl rfl rfl hl.1 rfl (Nat.le_of_ble_eq_true rfl) dX9_scanName_76 ⟨Nat.le_of_ble_eq_true rfl, Nat.le_of_ble_eq_true rfl⟩) hP hD hS hA (fun r12 u11 H locs hw10 hP hD hS => ?_)
      obtain ⟨rfl, ex10⟩ := hw10
      refine W.widen (k := 0) (n := 0) (Nat.le_refl _) (Nat.le_refl _) ?_
      refine lv_iload_n hx hb dX9_scanName_79 rfl (lv_at hl 1 rfl) ?_
      refine cu_i (rn_Vk (n := 4) (As := [.int 2, .int pa, .int r12, .int r3]) (rest := []) hx hb hml hown ht hKK hFx hP hD hS hA (c_x_X9_add l dC dI cI cB cZ cJ cR tb H.size ad pr N L1 L2 v (2 : Int32) pa r12 r3 (show 0 ≤ (v.1 0 304).toInt ∧ (v.1 0 304).toInt ≤ 1503 from (om_c99648273b z304))) tw_427 tw_428 (by decide +kernel) rfl rfl ⟨Nat.le_of_ble_eq_true rfl, Nat.le_of_ble_eq_true rfl⟩ (List.range (cW ad pr N cI cR L1 L2 v).length) (rg_map _) (nd_range _) 0 rfl rfl rfl rfl hl.1 rfl (Nat.le_of_ble_eq_true rfl) dX9_scanName_80 ⟨Nat.le_of_ble_eq_true rfl, Nat.le_of_ble_eq_true rfl⟩) hP hD hS hA (fun r15 u14 H locs hw13 hP hD hS => ?_)
      obtain ⟨fr13, ex13, i30413, rs13⟩ := hw13
      refine W.widen (k := 0) (n := 0) (Nat.le_refl _) (Nat.le_refl _) ?_
      exact W.iret (v := r15) hx hb hr (fun t ht9 hW => ⟨⟨r15, u14, rfl, ⟨(FC.tr (FC.rf _) (FC.up fr13 (by decide) (by decide))), ⟨z304, z373, r3, ex1, (Or.inl ⟨z5, ka, exL26, f1L26, (Or.inl ⟨z9, r12, ex10, r15, u14, ex13, ⟨fr13, i30413, rs13⟩, rfl, rfl⟩)⟩)⟩, (show 0 ≤ (u14.1 0 304).toInt ∧ (u14.1 0 304).toInt ≤ 1503 from (om_c99648273b i30413)), (RS.tr RS.rf rs13)⟩, by rw [ht9]; exact hP, hD⟩, hS.F ht9⟩) hS.2.2 dX9_scanName_83
    · have z16 : ka.toInt < (11 : Int) := nle_z (show (11 : Int32).toInt = (11 : Int) by decide) rfl h8
      refine lv_aload_n hx hb dX9_scanName_38 rfl (lv_at hl 2 rfl) ?_
      refine va_ldcS hx hb hown (st_ hKK 0 (own := RX9) (idx := 88) (tx := "int     if      else    while   do      for     break   continuereturn  put     get     ") (n := 0) rfl) dX9_scanName_39 ?_
      refine lv_bipush (v := 8) hx hb dX9_scanName_41 (by decide) ?_
      refine lv_iload_n hx hb dX9_scanName_43 rfl (lv_at hl 0 rfl) ?_
      refine lv_iload_n hx hb dX9_scanName_44 rfl (lv_at hl 3 rfl) ?_
      refine cu_i (rn_Vk (n := 4) (As := [.ref (tb (100 + 0)), .int 8, .int ka, .int pa]) (rest := []) hx hb hml hown ht hKK hFx hP hD hS hA (c_x_spelledK l dC dI cI cB cZ cJ cR tb H.size ad pr N L1 L2 v (8 : Int32) ka pa ps (show 0 ≤ (v.1 0 373).toInt ∧ (v.1 0 373).toInt ≤ 4000 from (om_c74a68af25 z373)) (show pr ps = ad 908 from hps) (show (v.1 0 300) = ps from es300)) tw_429 tw_430 (by decide +kernel) rfl rfl ⟨Nat.le_of_ble_eq_true rfl, Nat.le_of_ble_eq_true rfl⟩ (List.range (cW ad pr N cI cR L1 L2 v).length) (rg_map _) (nd_range _) 0 rfl rfl rfl rfl hl.1 rfl (Nat.le_of_ble_eq_true rfl) dX9_scanName_45 ⟨Nat.le_of_ble_eq_true rfl, Nat.le_of_ble_eq_true rfl⟩) hP hD hS hA (fun r19 u18 H locs hw17 hP hD hS => ?_)
      obtain ⟨rfl, ex17⟩ := hw17
      refine W.widen (k := 0) (n := 0) (Nat.le_refl _) (Nat.le_refl _) ?_
      refine lv_iload_n hx hb dX9_scanName_48 rfl (lv_at hl 1 rfl) ?_
      refine lv_icmp_ne (tgt := 64) hx hb dX9_scanName_49 (by decide) (fun h20 => ?_) (fun h20 => ?_)
      · have z21 : r19.toInt ≠ r3.toInt := ne_z rfl rfl h20
        refine lv_iinc (v := (ka + (1 : Int32))) (lv' := [(3, .int (ka + (1 : Int32))), (2, .int r3), (0, .ref (ad 900)), (1, .int pa)]) hx hb dX9_scanName_64 hl (k := 0) rfl (rfl) (by decide) rfl (fun ls hl => ?_)
        have z22 : (ka + (1 : Int32)).toInt = ka.toInt + (1 : Int) := add_z rfl (show (1 : Int32).toInt = (1 : Int) by decide) (om_d64a792b2e f1L26) (om_f336be9828 z16)
        refine lv_goto (tgt := 26) hx hb dX9_scanName_67 (by decide) ?_
        exact ih26 (ka + (1 : Int32)) _ _ _ (show (11 - (ka + (1 : Int32)).toInt).toNat < (11 - ka.toInt).toNat from tn_z (om_5c607c8cae z22) (om_cf788973ef z16)) ⟨(show 0 ≤ (ka + (1 : Int32)).toInt from (om_d99f09c756 f1L26 z22)), (RT.st exL26 ⟨f1L26, z16, r19, ex17, z21, rfl⟩), hP, hD, hS, lv_sub hl [0, 1, 2, 3] rfl⟩
      · have z23 : r19.toInt = r3.toInt := eq_z rfl rfl h20
        refine lv_aload_n hx hb dX9_scanName_52 rfl (lv_at hl 2 rfl) ?_
        refine lv_bipush (v := 10) hx hb dX9_scanName_53 (by decide) ?_
        refine lv_iload_n hx hb dX9_scanName_55 rfl (lv_at hl 0 rfl) ?_
        refine lv_iadd hx hb dX9_scanName_56 ?_
        have z24 : ((10 : Int32) + ka).toInt = (10 : Int) + ka.toInt := add_z (show (10 : Int32).toInt = (10 : Int) by decide) rfl (om_9697ffd754 f1L26) (om_347881aea8 z16)
        refine lv_iload_n hx hb dX9_scanName_57 rfl (lv_at hl 3 rfl) ?_
        refine lv_iconst (v := 0) hx hb dX9_scanName_58 (by decide) ?_
        refine lv_iload_n hx hb dX9_scanName_59 rfl (lv_at hl 1 rfl) ?_
        refine cu_i (rn_Vk (n := 4) (As := [.int ((10 : Int32) + ka), .int pa, .int 0, .int r3]) (rest := []) hx hb hml hown ht hKK hFx hP hD hS hA (c_x_X9_add l dC dI cI cB cZ cJ cR tb H.size ad pr N L1 L2 v ((10 : Int32) + ka) pa (0 : Int32) r3 (show 0 ≤ (v.1 0 304).toInt ∧ (v.1 0 304).toInt ≤ 1503 from (om_c99648273b z304))) tw_427 tw_428 (by decide +kernel) rfl rfl ⟨Nat.le_of_ble_eq_true rfl, Nat.le_of_ble_eq_true rfl⟩ (List.range (cW ad pr N cI cR L1 L2 v).length) (rg_map _) (nd_range _) 0 rfl rfl rfl rfl hl.1 rfl (Nat.le_of_ble_eq_true rfl) dX9_scanName_60 ⟨Nat.le_of_ble_eq_true rfl, Nat.le_of_ble_eq_true rfl⟩) hP hD hS hA (fun r27 u26 H locs hw25 hP hD hS => ?_)
        obtain ⟨fr25, ex25, i30425, rs25⟩ := hw25
        refine W.widen (k := 0) (n := 0) (Nat.le_refl _) (Nat.le_refl _) ?_
        exact W.iret (v := r27) hx hb hr (fun t ht9 hW => ⟨⟨r27, u26, rfl, ⟨(FC.tr (FC.rf _) (FC.up fr25 (by decide) (by decide))), ⟨z304, z373, r3, ex1, (Or.inl ⟨z5, ka, exL26, f1L26, (Or.inr (⟨z16, r19, ex17, z23, r27, u26, ex25, ⟨fr25, i30425, rs25⟩, rfl, rfl⟩))⟩)⟩, (show 0 ≤ (u26.1 0 304).toInt ∧ (u26.1 0 304).toInt ≤ 1503 from (om_c99648273b i30425)), (RS.tr RS.rf rs25)⟩, by rw [ht9]; exact hP, hD⟩, hS.F ht9⟩) hS.2.2 dX9_scanName_63
  · have z28 : (16 : Int) < r3.toInt := nle_z rfl (show (16 : Int32).toInt = (16 : Int) by decide) h4
    refine lv_aload_n hx hb dX9_scanName_15 rfl (lv_at hl 1 rfl) ?_
    refine lv_iconst (v := 1) hx hb dX9_scanName_16 (by decide) ?_
    refine lv_iload_n hx hb dX9_scanName_17 rfl (lv_at hl 2 rfl) ?_
    refine lv_iconst (v := 0) hx hb dX9_scanName_18 (by decide) ?_
    refine lv_iconst (v := 0) hx hb dX9_scanName_19 (by decide) ?_
    refine cu_i (rn_Vk (n := 4) (As := [.int 1, .int pa, .int 0, .int 0]) (rest := []) hx hb hml hown ht hKK hFx hP hD hS hA (c_x_X9_add l dC dI cI cB cZ cJ cR tb H.size ad pr N L1 L2 v (1 : Int32) pa (0 : Int32) (0 : Int32) (show 0 ≤ (v.1 0 304).toInt ∧ (v.1 0 304).toInt ≤ 1503 from (om_c99648273b z304))) tw_427 tw_428 (by decide +kernel) rfl rfl ⟨Nat.le_of_ble_eq_true rfl, Nat.le_of_ble_eq_true rfl⟩ (List.range (cW ad pr N cI cR L1 L2 v).length) (rg_map _) (nd_range _) 0 rfl rfl rfl rfl hl.1 rfl (Nat.le_of_ble_eq_true rfl) dX9_scanName_20 ⟨Nat.le_of_ble_eq_true rfl, Nat.le_of_ble_eq_true rfl⟩) hP hD hS hA (fun r31 u30 H locs hw29 hP hD hS => ?_)
    obtain ⟨fr29, ex29, i30429, rs29⟩ := hw29
    refine W.widen (k := 0) (n := 0) (Nat.le_refl _) (Nat.le_refl _) ?_
    exact W.iret (v := r31) hx hb hr (fun t ht9 hW => ⟨⟨r31, u30, rfl, ⟨(FC.tr (FC.rf _) (FC.up fr29 (by decide) (by decide))), ⟨z304, z373, r3, ex1, (Or.inr (⟨z28, r31, u30, ex29, ⟨fr29, i30429, rs29⟩, rfl, rfl⟩))⟩, (show 0 ≤ (u30.1 0 304).toInt ∧ (u30.1 0 304).toInt ≤ 1503 from (om_c99648273b i30429)), (RS.tr RS.rf rs29)⟩, by rw [ht9]; exact hP, hD⟩, hS.F ht9⟩) hS.2.2 dX9_scanName_23
theorem om_f5ae9516a7 {x0 : Int} (h0 : x0 < (41 : Int)) : x0 + (1 : Int) < 2147483648 := by omega
theorem om_33d37a6df8 {x0 x1 : Int} (h0 : x0 = x1 + (1 : Int)) : 41 - x0 < 41 - x1 := by omega
theorem om_f6efa61b9c {x0 : Int} (h0 : x0 < (41 : Int)) : 0 < 41 - x0 := by omega
theorem om_b91c912179 {x0 : Int} (h0 : 0 ≤ x0) : -2147483648 ≤ (30 : Int) + x0 := by omega
theorem om_357b2e5ba4 {x0 : Int} (h0 : x0 < (41 : Int)) : (30 : Int) + x0 < 2147483648 := by omega
set_option maxHeartbeats 4000000 in
set_option maxRecDepth 100000 in
theorem c_x_X9_scanSign (l : Launch) (dC : Nat → ClassId) (dI : Nat → Nat → Nat) (cI cB cZ cJ cR : ClassId) (tb : Nat → Nat) (sz : Nat) (ad : Nat → Nat) (pr : Int32 → Nat) (N : Nat) (L1 L2 : List Nat) (v : MS) (pa : Int32) (ps : Int32) (z304 : 0 ≤ (v.1 0 304).toInt ∧ (v.1 0 304).toInt ≤ 1503) (z373 : 0 ≤ (v.1 0 373).toInt ∧ (v.1 0 373).toInt ≤ 4000) (hps : pr ps = ad 908) (es300 : (v.1 0 300) = ps) : Met l yX9_scanSign (Cond.code yX9_scanSign cX9_scanSign 6 (some .int) :: tw_W) ({ frames := 5, cells := 0, slots := 0, locals := 112 }) (pc_ (dC, dI) (tyS cI cB cZ cJ cR) tb (cW ad pr N cI cR L1 L2 v) sz [.ref (ad 900), .int pa]) (qi_ (dC, dI) (cW ad pr N cI cR L1 L2 v) sz (fun (r : Int32) (u : MS) => FC [304] [0, 301, 302, 303] v u ∧ (Q_x_X9_scanSign L1 L2 v pa r u) ∧ (0 ≤ (u.1 0 304).toInt ∧ (u.1 0 304).toInt ≤ 1503) ∧ (RS v u)) (fun (u : MS) => (cW ad pr N cI cR L1 L2 u))) 0 0 (va_A (cW ad pr N cI cR L1 L2 v) sz) := by
  refine Met.ofW (cc := cX9_scanSign) (maxL := 6) (ret := (some .int)) (by decide) rfl ?_
  intro p e s m args below meth c s₁ B hml hv
  obtain ⟨rfl, hsz, hP, hKK, hD0, hFx⟩ := hv
  have hK := hKK.1
  have hx := B.exec
  have hb := B.bytes
  have hr := B.returns
  have ht : ∀ w ∈ tw_W, w.before _ s = true := fun w h => atoms_spec (ws := Cond.code yX9_scanSign cX9_scanSign 6 (some .int) :: tw_W) B.pre w (List.mem_cons_of_mem _ h)
  have hown : s.vm.findClass RX9 = some m.cls := findClass_of_methodNamed B.named
  have hlocks := B.notSynchronized
  subst hsz
  unfold qi_
  have hD := hD0.self (sz := s.heap.size)
  generalize hAe : va_A (cW ad pr N cI cR L1 L2 v) s.heap.size = A at hD hFx ⊢
  have hA : ∀ q : Nat, s.heap.size ≤ q → A q := fun q h => by rw [← hAe]; exact Or.inr h
  have hS : va_S A s.heap s.heap [] := va_S.rf
  have hl := lv_entry ([.ref (ad 900), .int pa]) (n := 6) (Nat.le_of_ble_eq_true rfl)
  rw [lg_entry_eq]
  generalize (lg_sl ([.ref (ad 900), .int pa]) ++ List.replicate (6 - (lg_sl ([.ref (ad 900), .int pa])).length) Slot.unset).toArray = ls at hl ⊢
  have hl : lv_has ls 6 [(0, .ref (ad 900)), (1, .int pa)] := hl
  refine lv_iconst (v := 1) hx hb dX9_scanSign_0 (by decide) ?_
  refine lv_istore_n (lv' := [(2, .int 1), (0, .ref (ad 900)), (1, .int pa)]) hx hb dX9_scanSign_1 rfl hl (by decide) rfl (fun ls hl => ?_)
  refine lv_iconst (v := 0) hx hb dX9_scanSign_2 (by decide) ?_
  refine lv_istore_n (lv' := [(3, .int 0), (2, .int 1), (0, .ref (ad 900)), (1, .int pa)]) hx hb dX9_scanSign_3 rfl hl (by decide) rfl (fun ls hl => ?_)
  refine lv_iconst (v := 0) hx hb dX9_scanSign_4 (by decide) ?_
  refine lv_istore (lv' := [(4, .int 0), (3, .int 0), (2, .int 1), (0, .ref (ad 900)), (1, .int pa)]) hx hb dX9_scanSign_5 hl (by decide) rfl (fun ls hl => ?_)
  refine lpm_ (X := Int32 × Int32 × Int32) (P := (fun (x9 : Int32 × Int32 × Int32) (H : Heap) (locs : List Loc) (ls : Array Slot) => (0 ≤ x9.2.2.toInt) ∧ (RT (Q_x_X9_scanSign_L0 L1 L2 v pa) (1, 0, 0) (x9.1, x9.2.1, x9.2.2)) ∧ va_P (dC, dI) vwCl (cW ad pr N cI cR L1 L2 v) H ∧ va_D A (cW ad pr N cI cR L1 L2 v) ∧ va_S A s.heap H locs ∧ lv_has ls 6 [(4, .int x9.2.2), (3, .int x9.2.1), (2, .int x9.1), (0, .ref (ad 900)), (1, .int pa)])) (fun x9 => (41 - x9.2.2.toInt).toNat) 7 (fun x9 H locs ls hh ih7 => ?_) (1, 0, 0) _ _ _ ⟨(show 0 ≤ (0 : Int) from om_342087eeda), RT.rf, hP, hD, hS, lv_sub hl [0, 1, 2, 3, 4] rfl⟩
  obtain ⟨kd, mo, ka⟩ := x9
  obtain ⟨f1L7, exL7, hP, hD, hS, hl⟩ := hh
  have f1L7 : 0 ≤ ka.toInt := f1L7
  have hl : lv_has ls 6 [(4, .int ka), (3, .int mo), (2, .int kd), (0, .ref (ad 900)), (1, .int pa)] := hl
  refine lv_iload hx hb dX9_scanSign_7 (lv_at hl 0 rfl) ?_
  refine va_ldcS hx hb hown (st_ hKK 1 (own := RX9) (idx := 115) (tx := "(  )  {  }  [  ]  ;  ,  ?  :  !  ~  =  += -= *= /= %= &= |= ^= <<=>>=+  -  *  /  %  &  |  ^  << >> == != <  <= >  >= && || ") (n := 1) rfl) dX9_scanSign_9 ?_
  refine cu_s (nd_range _) (rn_VS (n := 0) (As := []) (rest := [.int ka]) hx hb hml hown ht hKK hFx hP hD hS hA (i := 1) (by decide) (c_sh_strLen l dC dI cI cB cZ cJ cR tb H.size 1 (by decide)) tw_279 tw_421 (by decide +kernel) rfl rfl ⟨Nat.le_of_ble_eq_true rfl, Nat.le_of_ble_eq_true rfl⟩ [] rfl (by decide) rfl hl.1 rfl (Nat.le_of_ble_eq_true rfl) dX9_scanSign_11 ⟨Nat.le_of_ble_eq_true rfl, Nat.le_of_ble_eq_true rfl⟩) hP hD hS hA (fun r2 H locs hw1 hP hD hS => ?_)
  obtain rfl := hw1
  refine tp_i (y := 123) (by decide) ?_
  refine W.widen (k := 0) (n := 0) (Nat.le_refl _) (Nat.le_refl _) ?_
  refine lv_iconst (v := 3) hx hb dX9_scanSign_14 (by decide) ?_
  refine lv_idiv hx hb dX9_scanSign_15 (by decide) ?_
  refine tp_i (y := 41) (by decide) ?_
  refine lv_icmp_ge (tgt := 52) hx hb dX9_scanSign_16 (by decide) (fun h3 => ?_) (fun h3 => ?_)
  · have z4 : (41 : Int) ≤ ka.toInt := le_z (show (41 : Int32).toInt = (41 : Int) by decide) rfl h3
    refine lv_aload_n hx hb dX9_scanSign_52 rfl (lv_at hl 3 rfl) ?_
    refine lv_iload_n hx hb dX9_scanSign_53 rfl (lv_at hl 2 rfl) ?_
    refine lv_iload_n hx hb dX9_scanSign_54 rfl (lv_at hl 4 rfl) ?_
    refine lv_iconst (v := 0) hx hb dX9_scanSign_55 (by decide) ?_
    refine lv_iload_n hx hb dX9_scanSign_56 rfl (lv_at hl 1 rfl) ?_
    refine cu_i (rn_Vk (n := 4) (As := [.int kd, .int pa, .int 0, .int mo]) (rest := []) hx hb hml hown ht hKK hFx hP hD hS hA (c_x_X9_add l dC dI cI cB cZ cJ cR tb H.size ad pr N L1 L2 v kd pa (0 : Int32) mo (show 0 ≤ (v.1 0 304).toInt ∧ (v.1 0 304).toInt ≤ 1503 from (om_c99648273b z304))) tw_427 tw_428 (by decide +kernel) rfl rfl ⟨Nat.le_of_ble_eq_true rfl, Nat.le_of_ble_eq_true rfl⟩ (List.range (cW ad pr N cI cR L1 L2 v).length) (rg_map _) (nd_range _) 0 rfl rfl rfl rfl hl.1 rfl (Nat.le_of_ble_eq_true rfl) dX9_scanSign_57 ⟨Nat.le_of_ble_eq_true rfl, Nat.le_of_ble_eq_true rfl⟩) hP hD hS hA (fun r7 u6 H locs hw5 hP hD hS => ?_)
    obtain ⟨fr5, ex5, i3045, rs5⟩ := hw5
    refine W.widen (k := 0) (n := 0) (Nat.le_refl _) (Nat.le_refl _) ?_
    exact W.iret (v := r7) hx hb hr (fun t ht9 hW => ⟨⟨r7, u6, rfl, ⟨(FC.tr (FC.rf _) (FC.up fr5 (by decide) (by decide))), ⟨z304, z373, kd, mo, ka, exL7, f1L7, z4, r7, u6, ex5, ⟨fr5, i3045, rs5⟩, rfl, rfl⟩, (show 0 ≤ (u6.1 0 304).toInt ∧ (u6.1 0 304).toInt ≤ 1503 from (om_c99648273b i3045)), (RS.tr RS.rf rs5)⟩, by rw [ht9]; exact hP, hD⟩, hS.F ht9⟩) hS.2.2 dX9_scanSign_60
  · have z8 : ka.toInt < (41 : Int) := nle_z (show (41 : Int32).toInt = (41 : Int) by decide) rfl h3
    refine lv_aload_n hx hb dX9_scanSign_19 rfl (lv_at hl 3 rfl) ?_
    refine va_ldcS hx hb hown (st_ hKK 1 (own := RX9) (idx := 115) (tx := "(  )  {  }  [  ]  ;  ,  ?  :  !  ~  =  += -= *= /= %= &= |= ^= <<=>>=+  -  *  /  %  &  |  ^  << >> == != <  <= >  >= && || ") (n := 1) rfl) dX9_scanSign_20 ?_
    refine lv_iconst (v := 3) hx hb dX9_scanSign_22 (by decide) ?_
    refine lv_iload hx hb dX9_scanSign_23 (lv_at hl 0 rfl) ?_
    refine lv_iload_n hx hb dX9_scanSign_25 rfl (lv_at hl 4 rfl) ?_
    refine cu_i (rn_Vk (n := 4) (As := [.ref (tb (100 + 1)), .int 3, .int ka, .int pa]) (rest := []) hx hb hml hown ht hKK hFx hP hD hS hA (c_x_spelledS l dC dI cI cB cZ cJ cR tb H.size ad pr N L1 L2 v (3 : Int32) ka pa ps (show 0 ≤ (v.1 0 373).toInt ∧ (v.1 0 373).toInt ≤ 4000 from (om_c74a68af25 z373)) (show pr ps = ad 908 from hps) (show (v.1 0 300) = ps from es300)) tw_429 tw_430 (by decide +kernel) rfl rfl ⟨Nat.le_of_ble_eq_true rfl, Nat.le_of_ble_eq_true rfl⟩ (List.range (cW ad pr N cI cR L1 L2 v).length) (rg_map _) (nd_range _) 0 rfl rfl rfl rfl hl.1 rfl (Nat.le_of_ble_eq_true rfl) dX9_scanSign_26 ⟨Nat.le_of_ble_eq_true rfl, Nat.le_of_ble_eq_true rfl⟩) hP hD hS hA (fun r11 u10 H locs hw9 hP hD hS => ?_)
    obtain ⟨rfl, ex9⟩ := hw9
    refine W.widen (k := 0) (n := 0) (Nat.le_refl _) (Nat.le_refl _) ?_
    refine lv_istore (lv' := [(5, .int r11), (4, .int ka), (3, .int mo), (2, .int kd), (0, .ref (ad 900)), (1, .int pa)]) hx hb dX9_scanSign_29 hl (by decide) rfl (fun ls hl => ?_)
    refine lv_iload hx hb dX9_scanSign_31 (lv_at hl 0 rfl) ?_
    refine lv_iload_n hx hb dX9_scanSign_33 rfl (lv_at hl 2 rfl) ?_
    refine lv_icmp_le (tgt := 46) hx hb dX9_scanSign_34 (by decide) (fun h12 => ?_) (fun h12 => ?_)
    · have z13 : r11.toInt ≤ mo.toInt := le_z rfl rfl h12
      refine lv_iinc (v := (ka + (1 : Int32))) (lv' := [(4, .int (ka + (1 : Int32))), (5, .int r11), (3, .int mo), (2, .int kd), (0, .ref (ad 900)), (1, .int pa)]) hx hb dX9_scanSign_46 hl (k := 1) rfl (rfl) (by decide) rfl (fun ls hl => ?_)
      have z14 : (ka + (1 : Int32)).toInt = ka.toInt + (1 : Int) := add_z rfl (show (1 : Int32).toInt = (1 : Int) by decide) (om_d64a792b2e f1L7) (om_f5ae9516a7 z8)
      refine lv_goto (tgt := 7) hx hb dX9_scanSign_49 (by decide) ?_
      exact ih7 (kd, mo, (ka + (1 : Int32))) _ _ _ (show (41 - (ka + (1 : Int32)).toInt).toNat < (41 - ka.toInt).toNat from tn_z (om_33d37a6df8 z14) (om_f6efa61b9c z8)) ⟨(show 0 ≤ (ka + (1 : Int32)).toInt from (om_d99f09c756 f1L7 z14)), (RT.st exL7 ⟨f1L7, z8, r11, ex9, (Or.inl ⟨z13, rfl⟩)⟩), hP, hD, hS, lv_sub hl [0, 2, 3, 4, 5] rfl⟩
    · have z15 : mo.toInt < r11.toInt := nle_z rfl rfl h12
      refine lv_iload hx hb dX9_scanSign_37 (lv_at hl 0 rfl) ?_
      refine lv_istore_n (lv' := [(3, .int r11), (5, .int r11), (4, .int ka), (2, .int kd), (0, .ref (ad 900)), (1, .int pa)]) hx hb dX9_scanSign_39 rfl hl (by decide) rfl (fun ls hl => ?_)
      refine lv_bipush (v := 30) hx hb dX9_scanSign_40 (by decide) ?_
      refine lv_iload hx hb dX9_scanSign_42 (lv_at hl 2 rfl) ?_
      refine lv_iadd hx hb dX9_scanSign_44 ?_
      have z16 : ((30 : Int32) + ka).toInt = (30 : Int) + ka.toInt := add_z (show (30 : Int32).toInt = (30 : Int) by decide) rfl (om_b91c912179 f1L7) (om_357b2e5ba4 z8)
      refine lv_istore_n (lv' := [(2, .int ((30 : Int32) + ka)), (3, .int r11), (5, .int r11), (4, .int ka), (0, .ref (ad 900)), (1, .int pa)]) hx hb dX9_scanSign_45 rfl hl (by decide) rfl (fun ls hl => ?_)
      refine lv_iinc (v := (ka + (1 : Int32))) (lv' := [(4, .int (ka + (1 : Int32))), (2, .int ((30 : Int32) + ka)), (3, .int r11), (5, .int r11), (0, .ref (ad 900)), (1, .int pa)]) hx hb dX9_scanSign_46 hl (k := 3) rfl (rfl) (by decide) rfl (fun ls hl => ?_)
      have z17 : (ka + (1 : Int32)).toInt = ka.toInt + (1 : Int) := add_z rfl (show (1 : Int32).toInt = (1 : Int) by decide) (om_d64a792b2e f1L7) (om_f5ae9516a7 z8)
      refine lv_goto (tgt := 7) hx hb dX9_scanSign_49 (by decide) ?_
      exact ih7 (((30 : Int32) + ka), r11, (ka + (1 : Int32))) _ _ _ (show (41 - (ka + (1 : Int32)).toInt).toNat < (41 - ka.toInt).toNat from tn_z (om_33d37a6df8 z17) (om_f6efa61b9c z8)) ⟨(show 0 ≤ (ka + (1 : Int32)).toInt from (om_d99f09c756 f1L7 z17)), (RT.st exL7 ⟨f1L7, z8, r11, ex9, (Or.inr (⟨z15, rfl⟩))⟩), hP, hD, hS, lv_sub hl [0, 2, 1, 4, 5] rfl⟩
theorem om_ed0744e669 {x0 : Int} (h0 : x0 < (10 : Int)) : x0 + (1 : Int) < 2147483648 := by omega
theorem om_5588f1b84f {x0 x1 : Int} (h0 : x0 = x1 + (1 : Int)) : 10 - x0 < 10 - x1 := by omega
theorem om_d8b33ba26b {x0 : Int} (h0 : x0 < (10 : Int)) : 0 < 10 - x0 := by omega
theorem om_b4da9a55a7 {x0 : Int} (h0 : x0 < (8 : Int)) : x0 + (1 : Int) < 2147483648 := by omega
theorem om_d2511ab53f {x0 : Int} (h0 : x0 < (8 : Int)) : 0 < 10 - x0 := by omega
set_option maxHeartbeats 4000000 in
set_option maxRecDepth 100000 in
theorem c_x_X9_scanNumber (l : Launch) (dC : Nat → ClassId) (dI : Nat → Nat → Nat) (cI cB cZ cJ cR : ClassId) (tb : Nat → Nat) (sz : Nat) (ad : Nat → Nat) (pr : Int32 → Nat) (N : Nat) (L1 L2 : List Nat) (v : MS) (pa : Int32) (ps : Int32) (z304 : 0 ≤ (v.1 0 304).toInt ∧ (v.1 0 304).toInt ≤ 1503) (z373 : 0 ≤ (v.1 0 373).toInt ∧ (v.1 0 373).toInt ≤ 4000) (hps : pr ps = ad 908) (es300 : (v.1 0 300) = ps) : Met l yX9_scanNumber (Cond.code yX9_scanNumber cX9_scanNumber 11 (some .int) :: tw_W) ({ frames := 2, cells := 0, slots := 0, locals := 41 }) (pc_ (dC, dI) (tyS cI cB cZ cJ cR) tb (cW ad pr N cI cR L1 L2 v) sz [.ref (ad 900), .int pa]) (qi_ (dC, dI) (cW ad pr N cI cR L1 L2 v) sz (fun (r : Int32) (u : MS) => FC [304] [0, 301, 302, 303] v u ∧ (Q_x_X9_scanNumber L1 L2 v pa r u) ∧ (0 ≤ (u.1 0 304).toInt ∧ (u.1 0 304).toInt ≤ 1503) ∧ (RS v u)) (fun (u : MS) => (cW ad pr N cI cR L1 L2 u))) 0 0 (va_A (cW ad pr N cI cR L1 L2 v) sz) := by
  refine Met.ofW (cc := cX9_scanNumber) (maxL := 11) (ret := (some .int)) (by decide) rfl ?_
  intro p e s m args below meth c s₁ B hml hv
  obtain ⟨rfl, hsz, hP, hKK, hD0, hFx⟩ := hv
  have hK := hKK.1
  have hx := B.exec
  have hb := B.bytes
  have hr := B.returns
  have ht : ∀ w ∈ tw_W, w.before _ s = true := fun w h => atoms_spec (ws := Cond.code yX9_scanNumber cX9_scanNumber 11 (some .int) :: tw_W) B.pre w (List.mem_cons_of_mem _ h)
  have hown : s.vm.findClass RX9 = some m.cls := findClass_of_methodNamed B.named
  have hlocks := B.notSynchronized
  subst hsz
  unfold qi_
  have hD := hD0.self (sz := s.heap.size)
  generalize hAe : va_A (cW ad pr N cI cR L1 L2 v) s.heap.size = A at hD hFx ⊢
  have hA : ∀ q : Nat, s.heap.size ≤ q → A q := fun q h => by rw [← hAe]; exact Or.inr h
  have hS : va_S A s.heap s.heap [] := va_S.rf
  have hl := lv_entry ([.ref (ad 900), .int pa]) (n := 11) (Nat.le_of_ble_eq_true rfl)
  rw [lg_entry_eq]
  generalize (lg_sl ([.ref (ad 900), .int pa]) ++ List.replicate (11 - (lg_sl ([.ref (ad 900), .int pa])).length) Slot.unset).toArray = ls at hl ⊢
  have hl : lv_has ls 11 [(0, .ref (ad 900)), (1, .int pa)] := hl
  refine lv_aload_n hx hb dX9_scanNumber_0 rfl (lv_at hl 0 rfl) ?_
  refine va_get (D := (dC, dI)) (ci := 12) (fs := oF_X9 ad pr v) (v := .ref (pr (v.1 0 300))) (C := RX9) (T := TX9) (N := 10) hx hb ht itX9 hown hK hP 0 rfl rfl 0 (by decide) (ht _ tw_415) (fun _ h9 => h9) rfl dX9_scanNumber_1 ?_
  refine lv_iload_n hx hb dX9_scanNumber_4 rfl (lv_at hl 1 rfl) ?_
  refine W.eq (g2 := F0 m 5 ls [.int pa, .ref (ad 908)]) (by rw [show pr (v.1 0 300) = (ad 908) from (by rw [show (v.1 0 300) = ps from es300]; exact hps)]) ?_
  refine cu_i (rn_Vk (n := 1) (As := [.int pa]) (rest := []) hx hb hml hown ht hKK hFx hP hD hS hA (c_x_X7_byteAt l dC dI cI cB cZ cJ cR tb s.heap.size ad pr N L1 L2 v pa (show 0 ≤ (v.1 0 373).toInt ∧ (v.1 0 373).toInt ≤ 4000 from (om_c74a68af25 z373))) tw_392 tw_417 (by decide +kernel) rfl rfl ⟨Nat.le_of_ble_eq_true rfl, Nat.le_of_ble_eq_true rfl⟩ (List.range (cW ad pr N cI cR L1 L2 v).length) (rg_map _) (nd_range _) 8 rfl rfl rfl rfl hl.1 rfl (Nat.le_of_ble_eq_true rfl) dX9_scanNumber_5 ⟨Nat.le_of_ble_eq_true rfl, Nat.le_of_ble_eq_true rfl⟩) hP hD hS hA (fun r3 u2 H locs hw1 hP hD hS => ?_)
  obtain ⟨rfl, ex1⟩ := hw1
  refine W.widen (k := 0) (n := 0) (Nat.le_refl _) (Nat.le_refl _) ?_
  refine lv_bipush (v := 48) hx hb dX9_scanNumber_8 (by decide) ?_
  refine lv_icmp_ne (tgt := 32) hx hb dX9_scanNumber_10 (by decide) (fun h4 => ?_) (fun h4 => ?_)
  · have z5 : r3.toInt ≠ (48 : Int) := ne_z rfl (show (48 : Int32).toInt = (48 : Int) by decide) h4
    refine lv_iconst (v := 0) hx hb dX9_scanNumber_32 (by decide) ?_
    refine lv_istore_n (lv' := [(2, .int 0), (0, .ref (ad 900)), (1, .int pa)]) hx hb dX9_scanNumber_33 rfl hl (by decide) rfl (fun ls hl => ?_)
    refine lv_iload_n hx hb dX9_scanNumber_34 rfl (lv_at hl 0 rfl) ?_
    refine lv_if_eq (tgt := 43) hx hb dX9_scanNumber_35 (by decide) (fun _ => ?_) (fun k6 => absurd k6 (by decide))
    refine lv_bipush (v := 10) hx hb dX9_scanNumber_43 (by decide) ?_
    refine lv_istore_n (lv' := [(3, .int 10), (2, .int 0), (0, .ref (ad 900)), (1, .int pa)]) hx hb dX9_scanNumber_45 rfl hl (by decide) rfl (fun ls hl => ?_)
    refine lv_iload_n hx hb dX9_scanNumber_46 rfl (lv_at hl 1 rfl) ?_
    refine lv_if_eq (tgt := 55) hx hb dX9_scanNumber_47 (by decide) (fun _ => ?_) (fun k7 => absurd k7 (by decide))
    refine lv_bipush (v := 10) hx hb dX9_scanNumber_55 (by decide) ?_
    refine lv_istore (lv' := [(4, .int 10), (3, .int 10), (2, .int 0), (0, .ref (ad 900)), (1, .int pa)]) hx hb dX9_scanNumber_57 hl (by decide) rfl (fun ls hl => ?_)
    refine lv_iload_n hx hb dX9_scanNumber_59 rfl (lv_at hl 2 rfl) ?_
    refine lv_if_eq (tgt := 69) hx hb dX9_scanNumber_60 (by decide) (fun _ => ?_) (fun k8 => absurd k8 (by decide))
    refine lv_iload_n hx hb dX9_scanNumber_69 rfl (lv_at hl 4 rfl) ?_
    refine lv_istore (lv' := [(5, .int pa), (4, .int 10), (3, .int 10), (2, .int 0), (0, .ref (ad 900)), (1, .int pa)]) hx hb dX9_scanNumber_70 hl (by decide) rfl (fun ls hl => ?_)
    refine lv_lconst (v := 0) hx hb dX9_scanNumber_72 (by decide) ?_
    refine lv_lstore (lv' := [(6, .long 0), (5, .int pa), (4, .int 10), (3, .int 10), (2, .int 0), (0, .ref (ad 900)), (1, .int pa)]) hx hb dX9_scanNumber_73 hl (by decide) rfl (fun ls hl => ?_)
    refine lv_iconst (v := 0) hx hb dX9_scanNumber_75 (by decide) ?_
    refine lv_istore (lv' := [(8, .int 0), (6, .long 0), (5, .int pa), (4, .int 10), (3, .int 10), (2, .int 0), (0, .ref (ad 900)), (1, .int pa)]) hx hb dX9_scanNumber_76 hl (by decide) rfl (fun ls hl => ?_)
    refine lv_iconst (v := 0) hx hb dX9_scanNumber_78 (by decide) ?_
    refine lv_istore (lv' := [(9, .int 0), (8, .int 0), (6, .long 0), (5, .int pa), (4, .int 10), (3, .int 10), (2, .int 0), (0, .ref (ad 900)), (1, .int pa)]) hx hb dX9_scanNumber_79 hl (by decide) rfl (fun ls hl => ?_)
    refine lpm_ (X := Int64 × Int32 × Int32) (P := (fun (x9 : Int64 × Int32 × Int32) (H : Heap) (locs : List Loc) (ls : Array Slot) => (0 ≤ x9.2.2.toInt) ∧ (RT (Q_x_X9_scanNumber_L0 L1 L2 v pa) (0, 0, 0) (x9.1, x9.2.1, x9.2.2)) ∧ va_P (dC, dI) vwCl (cW ad pr N cI cR L1 L2 v) H ∧ va_D A (cW ad pr N cI cR L1 L2 v) ∧ va_S A s.heap H locs ∧ lv_has ls 11 [(9, .int x9.2.2), (8, .int x9.2.1), (6, .long x9.1), (5, .int pa), (4, .int 10), (3, .int 10), (2, .int 0), (0, .ref (ad 900)), (1, .int pa)])) (fun x9 => (10 - x9.2.2.toInt).toNat) 81 (fun x9 H locs ls hh ih81 => ?_) (0, 0, 0) _ _ _ ⟨(show 0 ≤ (0 : Int) from om_342087eeda), RT.rf, hP, hD, hS, lv_sub hl [0, 1, 2, 3, 4, 5, 6, 7, 8] rfl⟩
    obtain ⟨va9, dg, ka⟩ := x9
    obtain ⟨f1L81, exL81, hP, hD, hS, hl⟩ := hh
    have f1L81 : 0 ≤ ka.toInt := f1L81
    have hl : lv_has ls 11 [(9, .int ka), (8, .int dg), (6, .long va9), (5, .int pa), (4, .int 10), (3, .int 10), (2, .int 0), (0, .ref (ad 900)), (1, .int pa)] := hl
    refine lv_iload hx hb dX9_scanNumber_81 (lv_at hl 0 rfl) ?_
    refine lv_iload hx hb dX9_scanNumber_83 (lv_at hl 4 rfl) ?_
    refine lv_icmp_ge (tgt := 142) hx hb dX9_scanNumber_85 (by decide) (fun h9 => ?_) (fun h9 => ?_)
    · have z10 : (10 : Int) ≤ ka.toInt := le_z (show (10 : Int32).toInt = (10 : Int) by decide) rfl h9
      refine lv_iload hx hb dX9_scanNumber_142 (lv_at hl 3 rfl) ?_
      refine lv_iload hx hb dX9_scanNumber_144 (lv_at hl 1 rfl) ?_
      refine lv_iadd hx hb dX9_scanNumber_146 ?_
      refine lv_istore (lv' := [(9, .int (pa + dg)), (8, .int dg), (6, .long va9), (5, .int pa), (4, .int 10), (3, .int 10), (2, .int 0), (0, .ref (ad 900)), (1, .int pa)]) hx hb dX9_scanNumber_147 hl (by decide) rfl (fun ls hl => ?_)
      refine lv_iload hx hb dX9_scanNumber_149 (lv_at hl 1 rfl) ?_
      refine lv_if_eq (tgt := 169) hx hb dX9_scanNumber_151 (by decide) (fun h11 => ?_) (fun h11 => ?_)
      · have z12 : dg.toInt = (0 : Int) := eq_z rfl (show (0 : Int32).toInt = (0 : Int) by decide) h11
        refine lv_aload_n hx hb dX9_scanNumber_169 rfl (lv_at hl 7 rfl) ?_
        refine lv_iconst (v := 1) hx hb dX9_scanNumber_170 (by decide) ?_
        refine lv_iload_n hx hb dX9_scanNumber_171 rfl (lv_at hl 8 rfl) ?_
        refine lv_iconst (v := 0) hx hb dX9_scanNumber_172 (by decide) ?_
        refine lv_iconst (v := 0) hx hb dX9_scanNumber_173 (by decide) ?_
        refine cu_i (rn_Vk (n := 4) (As := [.int 1, .int pa, .int 0, .int 0]) (rest := []) hx hb hml hown ht hKK hFx hP hD hS hA (c_x_X9_add l dC dI cI cB cZ cJ cR tb H.size ad pr N L1 L2 v (1 : Int32) pa (0 : Int32) (0 : Int32) (show 0 ≤ (v.1 0 304).toInt ∧ (v.1 0 304).toInt ≤ 1503 from (om_c99648273b z304))) tw_427 tw_428 (by decide +kernel) rfl rfl ⟨Nat.le_of_ble_eq_true rfl, Nat.le_of_ble_eq_true rfl⟩ (List.range (cW ad pr N cI cR L1 L2 v).length) (rg_map _) (nd_range _) 0 rfl rfl rfl rfl hl.1 rfl (Nat.le_of_ble_eq_true rfl) dX9_scanNumber_174 ⟨Nat.le_of_ble_eq_true rfl, Nat.le_of_ble_eq_true rfl⟩) hP hD hS hA (fun r15 u14 H locs hw13 hP hD hS => ?_)
        obtain ⟨fr13, ex13, i30413, rs13⟩ := hw13
        refine W.widen (k := 0) (n := 0) (Nat.le_refl _) (Nat.le_refl _) ?_
        exact W.iret (v := r15) hx hb hr (fun t ht9 hW => ⟨⟨r15, u14, rfl, ⟨(FC.tr (FC.rf _) (FC.up fr13 (by decide) (by decide))), ⟨z304, z373, r3, ex1, (Or.inl ⟨z5, va9, dg, ka, exL81, f1L81, (Or.inl ⟨z10, (Or.inl ⟨z12, r15, u14, ex13, ⟨fr13, i30413, rs13⟩, rfl, rfl⟩)⟩)⟩)⟩, (show 0 ≤ (u14.1 0 304).toInt ∧ (u14.1 0 304).toInt ≤ 1503 from (om_c99648273b i30413)), (RS.tr RS.rf rs13)⟩, by rw [ht9]; exact hP, hD⟩, hS.F ht9⟩) hS.2.2 dX9_scanNumber_177
      · have z16 : dg.toInt ≠ (0 : Int) := ne_z rfl (show (0 : Int32).toInt = (0 : Int) by decide) h11
        refine lv_aload_n hx hb dX9_scanNumber_154 rfl (lv_at hl 7 rfl) ?_
        refine va_get (D := (dC, dI)) (ci := 12) (fs := oF_X9 ad pr v) (v := .ref (pr (v.1 0 300))) (C := RX9) (T := TX9) (N := 10) hx hb ht itX9 hown hK hP 0 rfl rfl 0 (by decide) (ht _ tw_415) (fun _ h9 => h9) rfl dX9_scanNumber_155 ?_
        refine lv_iload hx hb dX9_scanNumber_158 (lv_at hl 0 rfl) ?_
        refine W.eq (g2 := F0 m 160 ls [.int (pa + dg), .ref (ad 908)]) (by rw [show pr (v.1 0 300) = (ad 908) from (by rw [show (v.1 0 300) = ps from es300]; exact hps)]) ?_
        refine cu_i (rn_Vk (n := 1) (As := [.int (pa + dg)]) (rest := []) hx hb hml hown ht hKK hFx hP hD hS hA (c_x_X7_byteAt l dC dI cI cB cZ cJ cR tb H.size ad pr N L1 L2 v (pa + dg) (show 0 ≤ (v.1 0 373).toInt ∧ (v.1 0 373).toInt ≤ 4000 from (om_c74a68af25 z373))) tw_392 tw_417 (by decide +kernel) rfl rfl ⟨Nat.le_of_ble_eq_true rfl, Nat.le_of_ble_eq_true rfl⟩ (List.range (cW ad pr N cI cR L1 L2 v).length) (rg_map _) (nd_range _) 8 rfl rfl rfl rfl hl.1 rfl (Nat.le_of_ble_eq_true rfl) dX9_scanNumber_160 ⟨Nat.le_of_ble_eq_true rfl, Nat.le_of_ble_eq_true rfl⟩) hP hD hS hA (fun r19 u18 H locs hw17 hP hD hS => ?_)
        obtain ⟨rfl, ex17⟩ := hw17
        refine W.widen (k := 0) (n := 0) (Nat.le_refl _) (Nat.le_refl _) ?_
        refine cu_s (nd_range _) (rn_S (n := 1) (As := [.int r19]) (rest := []) hx hb hml hown ht hKK hFx hP hD hS hA (c_x_X9_isNamePart l dC dI cI cB cZ cJ cR tb H.size r19 ) tw_394 tw_418 (by decide +kernel) rfl rfl ⟨Nat.le_of_ble_eq_true rfl, Nat.le_of_ble_eq_true rfl⟩ [] rfl rfl rfl hl.1 rfl (Nat.le_of_ble_eq_true rfl) dX9_scanNumber_163 ⟨Nat.le_of_ble_eq_true rfl, Nat.le_of_ble_eq_true rfl⟩) hP hD hS hA (fun r22 H locs hw20 hP hD hS => ?_)
        obtain ⟨ex20, b20, e20⟩ := hw20
        refine W.widen (k := 0) (n := 0) (Nat.le_refl _) (Nat.le_refl _) ?_
        refine lv_if_eq (tgt := 178) hx hb dX9_scanNumber_166 (by decide) (fun h23 => ?_) (fun h23 => ?_)
        · have z24 : r22.toInt = (0 : Int) := eq_z rfl (show (0 : Int32).toInt = (0 : Int) by decide) h23
          refine lv_iload_n hx hb dX9_scanNumber_178 rfl (lv_at hl 6 rfl) ?_
          refine lv_if_ne (tgt := 195) hx hb dX9_scanNumber_179 (by decide) (fun k25 => absurd k25 (by decide)) (fun _ => ?_)
          refine lv_lload hx hb dX9_scanNumber_182 (lv_at hl 2 rfl) ?_
          refine lv_ldc2 (v := 2147483647) hx hb hown (ht _ tw_431) dX9_scanNumber_184 ?_
          refine W.lcmp hx hb dX9_scanNumber_187 ?_
          refine lv_if_le (tgt := 195) hx hb dX9_scanNumber_188 (by decide) (fun h26 => ?_) (fun h26 => ?_)
          · have z27 : (lg_cmp va9 (2147483647 : Int64)).toInt ≤ (0 : Int) := le_z rfl (show (0 : Int32).toInt = (0 : Int) by decide) h26
            refine lv_iconst (v := 0) hx hb dX9_scanNumber_195 (by decide) ?_
            refine lv_istore (lv' := [(10, .int 0), (9, .int (pa + dg)), (8, .int dg), (6, .long va9), (5, .int pa), (4, .int 10), (3, .int 10), (2, .int 0), (0, .ref (ad 900)), (1, .int pa)]) hx hb dX9_scanNumber_196 hl (by decide) rfl (fun ls hl => ?_)
            refine lv_aload_n hx hb dX9_scanNumber_198 rfl (lv_at hl 8 rfl) ?_
            refine lv_iload hx hb dX9_scanNumber_199 (lv_at hl 0 rfl) ?_
            refine lv_if_eq (tgt := 208) hx hb dX9_scanNumber_201 (by decide) (fun _ => ?_) (fun k28 => absurd k28 (by decide))
            refine lv_iconst (v := 3) hx hb dX9_scanNumber_208 (by decide) ?_
            refine lv_iload_n hx hb dX9_scanNumber_209 rfl (lv_at hl 9 rfl) ?_
            refine lv_lload hx hb dX9_scanNumber_210 (lv_at hl 3 rfl) ?_
            refine lv_l2i hx hb dX9_scanNumber_212 rfl ?_
            refine lv_iload hx hb dX9_scanNumber_213 (lv_at hl 1 rfl) ?_
            refine lv_iload_n hx hb dX9_scanNumber_215 rfl (lv_at hl 9 rfl) ?_
            refine lv_isub hx hb dX9_scanNumber_216 ?_
            refine cu_i (rn_Vk (n := 4) (As := [.int 3, .int pa, .int (va9.toInt32), .int ((pa + dg) - pa)]) (rest := []) hx hb hml hown ht hKK hFx hP hD hS hA (c_x_X9_add l dC dI cI cB cZ cJ cR tb H.size ad pr N L1 L2 v (3 : Int32) pa (va9.toInt32) ((pa + dg) - pa) (show 0 ≤ (v.1 0 304).toInt ∧ (v.1 0 304).toInt ≤ 1503 from (om_c99648273b z304))) tw_427 tw_428 (by decide +kernel) rfl rfl ⟨Nat.le_of_ble_eq_true rfl, Nat.le_of_ble_eq_true rfl⟩ (List.range (cW ad pr N cI cR L1 L2 v).length) (rg_map _) (nd_range _) 0 rfl rfl rfl rfl hl.1 rfl (Nat.le_of_ble_eq_true rfl) dX9_scanNumber_217 ⟨Nat.le_of_ble_eq_true rfl, Nat.le_of_ble_eq_true rfl⟩) hP hD hS hA (fun r31 u30 H locs hw29 hP hD hS => ?_)
            obtain ⟨fr29, ex29, i30429, rs29⟩ := hw29
            refine W.widen (k := 0) (n := 0) (Nat.le_refl _) (Nat.le_refl _) ?_
            exact W.iret (v := r31) hx hb hr (fun t ht9 hW => ⟨⟨r31, u30, rfl, ⟨(FC.tr (FC.rf _) (FC.up fr29 (by decide) (by decide))), ⟨z304, z373, r3, ex1, (Or.inl ⟨z5, va9, dg, ka, exL81, f1L81, (Or.inl ⟨z10, (Or.inr (⟨z16, r19, ex17, r22, ex20, ⟨b20, e20⟩, (Or.inl ⟨z24, (Or.inl ⟨z27, r31, u30, ex29, ⟨fr29, i30429, rs29⟩, rfl, rfl⟩)⟩)⟩))⟩)⟩)⟩, (show 0 ≤ (u30.1 0 304).toInt ∧ (u30.1 0 304).toInt ≤ 1503 from (om_c99648273b i30429)), (RS.tr RS.rf rs29)⟩, by rw [ht9]; exact hP, hD⟩, hS.F ht9⟩) hS.2.2 dX9_scanNumber_220
          · have z32 : (0 : Int) < (lg_cmp va9 (2147483647 : Int64)).toInt := nle_z rfl (show (0 : Int32).toInt = (0 : Int) by decide) h26
            refine lv_iconst (v := 1) hx hb dX9_scanNumber_191 (by decide) ?_
            refine lv_goto (tgt := 196) hx hb dX9_scanNumber_192 (by decide) ?_
            refine lv_istore (lv' := [(10, .int 1), (9, .int (pa + dg)), (8, .int dg), (6, .long va9), (5, .int pa), (4, .int 10), (3, .int 10), (2, .int 0), (0, .ref (ad 900)), (1, .int pa)]) hx hb dX9_scanNumber_196 hl (by decide) rfl (fun ls hl => ?_)
            refine lv_aload_n hx hb dX9_scanNumber_198 rfl (lv_at hl 8 rfl) ?_
            refine lv_iload hx hb dX9_scanNumber_199 (lv_at hl 0 rfl) ?_
            refine lv_if_eq (tgt := 208) hx hb dX9_scanNumber_201 (by decide) (fun k33 => absurd k33 (by decide)) (fun _ => ?_)
            refine lv_iconst (v := 4) hx hb dX9_scanNumber_204 (by decide) ?_
            refine lv_goto (tgt := 209) hx hb dX9_scanNumber_205 (by decide) ?_
            refine lv_iload_n hx hb dX9_scanNumber_209 rfl (lv_at hl 9 rfl) ?_
            refine lv_lload hx hb dX9_scanNumber_210 (lv_at hl 3 rfl) ?_
            refine lv_l2i hx hb dX9_scanNumber_212 rfl ?_
            refine lv_iload hx hb dX9_scanNumber_213 (lv_at hl 1 rfl) ?_
            refine lv_iload_n hx hb dX9_scanNumber_215 rfl (lv_at hl 9 rfl) ?_
            refine lv_isub hx hb dX9_scanNumber_216 ?_
            refine cu_i (rn_Vk (n := 4) (As := [.int 4, .int pa, .int (va9.toInt32), .int ((pa + dg) - pa)]) (rest := []) hx hb hml hown ht hKK hFx hP hD hS hA (c_x_X9_add l dC dI cI cB cZ cJ cR tb H.size ad pr N L1 L2 v (4 : Int32) pa (va9.toInt32) ((pa + dg) - pa) (show 0 ≤ (v.1 0 304).toInt ∧ (v.1 0 304).toInt ≤ 1503 from (om_c99648273b z304))) tw_427 tw_428 (by decide +kernel) rfl rfl ⟨Nat.le_of_ble_eq_true rfl, Nat.le_of_ble_eq_true rfl⟩ (List.range (cW ad pr N cI cR L1 L2 v).length) (rg_map _) (nd_range _) 0 rfl rfl rfl rfl hl.1 rfl (Nat.le_of_ble_eq_true rfl) dX9_scanNumber_217 ⟨Nat.le_of_ble_eq_true rfl, Nat.le_of_ble_eq_true rfl⟩) hP hD hS hA (fun r36 u35 H locs hw34 hP hD hS => ?_)
            obtain ⟨fr34, ex34, i30434, rs34⟩ := hw34
            refine W.widen (k := 0) (n := 0) (Nat.le_refl _) (Nat.le_refl _) ?_
            exact W.iret (v := r36) hx hb hr (fun t ht9 hW => ⟨⟨r36, u35, rfl, ⟨(FC.tr (FC.rf _) (FC.up fr34 (by decide) (by decide))), ⟨z304, z373, r3, ex1, (Or.inl ⟨z5, va9, dg, ka, exL81, f1L81, (Or.inl ⟨z10, (Or.inr (⟨z16, r19, ex17, r22, ex20, ⟨b20, e20⟩, (Or.inl ⟨z24, (Or.inr (⟨z32, r36, u35, ex34, ⟨fr34, i30434, rs34⟩, rfl, rfl⟩))⟩)⟩))⟩)⟩)⟩, (show 0 ≤ (u35.1 0 304).toInt ∧ (u35.1 0 304).toInt ≤ 1503 from (om_c99648273b i30434)), (RS.tr RS.rf rs34)⟩, by rw [ht9]; exact hP, hD⟩, hS.F ht9⟩) hS.2.2 dX9_scanNumber_220
        · have z37 : r22.toInt ≠ (0 : Int) := ne_z rfl (show (0 : Int32).toInt = (0 : Int) by decide) h23
          refine lv_aload_n hx hb dX9_scanNumber_169 rfl (lv_at hl 7 rfl) ?_
          refine lv_iconst (v := 1) hx hb dX9_scanNumber_170 (by decide) ?_
          refine lv_iload_n hx hb dX9_scanNumber_171 rfl (lv_at hl 8 rfl) ?_
          refine lv_iconst (v := 0) hx hb dX9_scanNumber_172 (by decide) ?_
          refine lv_iconst (v := 0) hx hb dX9_scanNumber_173 (by decide) ?_
          refine cu_i (rn_Vk (n := 4) (As := [.int 1, .int pa, .int 0, .int 0]) (rest := []) hx hb hml hown ht hKK hFx hP hD hS hA (c_x_X9_add l dC dI cI cB cZ cJ cR tb H.size ad pr N L1 L2 v (1 : Int32) pa (0 : Int32) (0 : Int32) (show 0 ≤ (v.1 0 304).toInt ∧ (v.1 0 304).toInt ≤ 1503 from (om_c99648273b z304))) tw_427 tw_428 (by decide +kernel) rfl rfl ⟨Nat.le_of_ble_eq_true rfl, Nat.le_of_ble_eq_true rfl⟩ (List.range (cW ad pr N cI cR L1 L2 v).length) (rg_map _) (nd_range _) 0 rfl rfl rfl rfl hl.1 rfl (Nat.le_of_ble_eq_true rfl) dX9_scanNumber_174 ⟨Nat.le_of_ble_eq_true rfl, Nat.le_of_ble_eq_true rfl⟩) hP hD hS hA (fun r40 u39 H locs hw38 hP hD hS => ?_)
          obtain ⟨fr38, ex38, i30438, rs38⟩ := hw38
          refine W.widen (k := 0) (n := 0) (Nat.le_refl _) (Nat.le_refl _) ?_
          exact W.iret (v := r40) hx hb hr (fun t ht9 hW => ⟨⟨r40, u39, rfl, ⟨(FC.tr (FC.rf _) (FC.up fr38 (by decide) (by decide))), ⟨z304, z373, r3, ex1, (Or.inl ⟨z5, va9, dg, ka, exL81, f1L81, (Or.inl ⟨z10, (Or.inr (⟨z16, r19, ex17, r22, ex20, ⟨b20, e20⟩, (Or.inr (⟨z37, r40, u39, ex38, ⟨fr38, i30438, rs38⟩, rfl, rfl⟩))⟩))⟩)⟩)⟩, (show 0 ≤ (u39.1 0 304).toInt ∧ (u39.1 0 304).toInt ≤ 1503 from (om_c99648273b i30438)), (RS.tr RS.rf rs38)⟩, by rw [ht9]; exact hP, hD⟩, hS.F ht9⟩) hS.2.2 dX9_scanNumber_177
    · have z41 : ka.toInt < (10 : Int) := nle_z (show (10 : Int32).toInt = (10 : Int) by decide) rfl h9
      refine lv_aload_n hx hb dX9_scanNumber_88 rfl (lv_at hl 7 rfl) ?_
      refine va_get (D := (dC, dI)) (ci := 12) (fs := oF_X9 ad pr v) (v := .ref (pr (v.1 0 300))) (C := RX9) (T := TX9) (N := 10) hx hb ht itX9 hown hK hP 0 rfl rfl 0 (by decide) (ht _ tw_415) (fun _ h9 => h9) rfl dX9_scanNumber_89 ?_
      refine lv_iload hx hb dX9_scanNumber_92 (lv_at hl 3 rfl) ?_
      refine lv_iload hx hb dX9_scanNumber_94 (lv_at hl 0 rfl) ?_
      refine lv_iadd hx hb dX9_scanNumber_96 ?_
      refine W.eq (g2 := F0 m 97 ls [.int (pa + ka), .ref (ad 908)]) (by rw [show pr (v.1 0 300) = (ad 908) from (by rw [show (v.1 0 300) = ps from es300]; exact hps)]) ?_
      refine cu_i (rn_Vk (n := 1) (As := [.int (pa + ka)]) (rest := []) hx hb hml hown ht hKK hFx hP hD hS hA (c_x_X7_byteAt l dC dI cI cB cZ cJ cR tb H.size ad pr N L1 L2 v (pa + ka) (show 0 ≤ (v.1 0 373).toInt ∧ (v.1 0 373).toInt ≤ 4000 from (om_c74a68af25 z373))) tw_392 tw_417 (by decide +kernel) rfl rfl ⟨Nat.le_of_ble_eq_true rfl, Nat.le_of_ble_eq_true rfl⟩ (List.range (cW ad pr N cI cR L1 L2 v).length) (rg_map _) (nd_range _) 8 rfl rfl rfl rfl hl.1 rfl (Nat.le_of_ble_eq_true rfl) dX9_scanNumber_97 ⟨Nat.le_of_ble_eq_true rfl, Nat.le_of_ble_eq_true rfl⟩) hP hD hS hA (fun r44 u43 H locs hw42 hP hD hS => ?_)
      obtain ⟨rfl, ex42⟩ := hw42
      refine W.widen (k := 0) (n := 0) (Nat.le_refl _) (Nat.le_refl _) ?_
      refine lv_iload_n hx hb dX9_scanNumber_100 rfl (lv_at hl 5 rfl) ?_
      refine cu_s (nd_range _) (rn_S (n := 2) (As := [.int r44, .int 10]) (rest := []) hx hb hml hown ht hKK hFx hP hD hS hA (c_x_X9_digitValue l dC dI cI cB cZ cJ cR tb H.size r44 (10 : Int32) ) tw_432 tw_433 (by decide +kernel) rfl rfl ⟨Nat.le_of_ble_eq_true rfl, Nat.le_of_ble_eq_true rfl⟩ [] rfl rfl rfl hl.1 rfl (Nat.le_of_ble_eq_true rfl) dX9_scanNumber_101 ⟨Nat.le_of_ble_eq_true rfl, Nat.le_of_ble_eq_true rfl⟩) hP hD hS hA (fun r47 H locs hw45 hP hD hS => ?_)
      have ex45 := hw45
      refine W.widen (k := 0) (n := 0) (Nat.le_refl _) (Nat.le_refl _) ?_
      refine lv_iconst (v := -1) hx hb dX9_scanNumber_104 (by decide) ?_
      refine lv_icmp_eq (tgt := 142) hx hb dX9_scanNumber_105 (by decide) (fun h48 => ?_) (fun h48 => ?_)
      · have z49 : r47.toInt = (-1 : Int) := eq_z rfl (show ((-1) : Int32).toInt = (-1 : Int) by decide) h48
        refine lv_iload hx hb dX9_scanNumber_142 (lv_at hl 3 rfl) ?_
        refine lv_iload hx hb dX9_scanNumber_144 (lv_at hl 1 rfl) ?_
        refine lv_iadd hx hb dX9_scanNumber_146 ?_
        refine lv_istore (lv' := [(9, .int (pa + dg)), (8, .int dg), (6, .long va9), (5, .int pa), (4, .int 10), (3, .int 10), (2, .int 0), (0, .ref (ad 900)), (1, .int pa)]) hx hb dX9_scanNumber_147 hl (by decide) rfl (fun ls hl => ?_)
        refine lv_iload hx hb dX9_scanNumber_149 (lv_at hl 1 rfl) ?_
        refine lv_if_eq (tgt := 169) hx hb dX9_scanNumber_151 (by decide) (fun h50 => ?_) (fun h50 => ?_)
        · have z51 : dg.toInt = (0 : Int) := eq_z rfl (show (0 : Int32).toInt = (0 : Int) by decide) h50
          refine lv_aload_n hx hb dX9_scanNumber_169 rfl (lv_at hl 7 rfl) ?_
          refine lv_iconst (v := 1) hx hb dX9_scanNumber_170 (by decide) ?_
          refine lv_iload_n hx hb dX9_scanNumber_171 rfl (lv_at hl 8 rfl) ?_
          refine lv_iconst (v := 0) hx hb dX9_scanNumber_172 (by decide) ?_
          refine lv_iconst (v := 0) hx hb dX9_scanNumber_173 (by decide) ?_
          refine cu_i (rn_Vk (n := 4) (As := [.int 1, .int pa, .int 0, .int 0]) (rest := []) hx hb hml hown ht hKK hFx hP hD hS hA (c_x_X9_add l dC dI cI cB cZ cJ cR tb H.size ad pr N L1 L2 v (1 : Int32) pa (0 : Int32) (0 : Int32) (show 0 ≤ (v.1 0 304).toInt ∧ (v.1 0 304).toInt ≤ 1503 from (om_c99648273b z304))) tw_427 tw_428 (by decide +kernel) rfl rfl ⟨Nat.le_of_ble_eq_true rfl, Nat.le_of_ble_eq_true rfl⟩ (List.range (cW ad pr N cI cR L1 L2 v).length) (rg_map _) (nd_range _) 0 rfl rfl rfl rfl hl.1 rfl (Nat.le_of_ble_eq_true rfl) dX9_scanNumber_174 ⟨Nat.le_of_ble_eq_true rfl, Nat.le_of_ble_eq_true rfl⟩) hP hD hS hA (fun r54 u53 H locs hw52 hP hD hS => ?_)
          obtain ⟨fr52, ex52, i30452, rs52⟩ := hw52
          refine W.widen (k := 0) (n := 0) (Nat.le_refl _) (Nat.le_refl _) ?_
          exact W.iret (v := r54) hx hb hr (fun t ht9 hW => ⟨⟨r54, u53, rfl, ⟨(FC.tr (FC.rf _) (FC.up fr52 (by decide) (by decide))), ⟨z304, z373, r3, ex1, (Or.inl ⟨z5, va9, dg, ka, exL81, f1L81, (Or.inr (⟨z41, r44, ex42, r47, ex45, z49, (Or.inl ⟨z51, r54, u53, ex52, ⟨fr52, i30452, rs52⟩, rfl, rfl⟩)⟩))⟩)⟩, (show 0 ≤ (u53.1 0 304).toInt ∧ (u53.1 0 304).toInt ≤ 1503 from (om_c99648273b i30452)), (RS.tr RS.rf rs52)⟩, by rw [ht9]; exact hP, hD⟩, hS.F ht9⟩) hS.2.2 dX9_scanNumber_177
        · have z55 : dg.toInt ≠ (0 : Int) := ne_z rfl (show (0 : Int32).toInt = (0 : Int) by decide) h50
          refine lv_aload_n hx hb dX9_scanNumber_154 rfl (lv_at hl 7 rfl) ?_
          refine va_get (D := (dC, dI)) (ci := 12) (fs := oF_X9 ad pr v) (v := .ref (pr (v.1 0 300))) (C := RX9) (T := TX9) (N := 10) hx hb ht itX9 hown hK hP 0 rfl rfl 0 (by decide) (ht _ tw_415) (fun _ h9 => h9) rfl dX9_scanNumber_155 ?_
          refine lv_iload hx hb dX9_scanNumber_158 (lv_at hl 0 rfl) ?_
          refine W.eq (g2 := F0 m 160 ls [.int (pa + dg), .ref (ad 908)]) (by rw [show pr (v.1 0 300) = (ad 908) from (by rw [show (v.1 0 300) = ps from es300]; exact hps)]) ?_
          refine cu_i (rn_Vk (n := 1) (As := [.int (pa + dg)]) (rest := []) hx hb hml hown ht hKK hFx hP hD hS hA (c_x_X7_byteAt l dC dI cI cB cZ cJ cR tb H.size ad pr N L1 L2 v (pa + dg) (show 0 ≤ (v.1 0 373).toInt ∧ (v.1 0 373).toInt ≤ 4000 from (om_c74a68af25 z373))) tw_392 tw_417 (by decide +kernel) rfl rfl ⟨Nat.le_of_ble_eq_true rfl, Nat.le_of_ble_eq_true rfl⟩ (List.range (cW ad pr N cI cR L1 L2 v).length) (rg_map _) (nd_range _) 8 rfl rfl rfl rfl hl.1 rfl (Nat.le_of_ble_eq_true rfl) dX9_scanNumber_160 ⟨Nat.le_of_ble_eq_true rfl, Nat.le_of_ble_eq_true rfl⟩) hP hD hS hA (fun r58 u57 H locs hw56 hP hD hS => ?_)
          obtain ⟨rfl, ex56⟩ := hw56
          refine W.widen (k := 0) (n := 0) (Nat.le_refl _) (Nat.le_refl _) ?_
          refine cu_s (nd_range _) (rn_S (n := 1) (As := [.int r58]) (rest := []) hx hb hml hown ht hKK hFx hP hD hS hA (c_x_X9_isNamePart l dC dI cI cB cZ cJ cR tb H.size r58 ) tw_394 tw_418 (by decide +kernel) rfl rfl ⟨Nat.le_of_ble_eq_true rfl, Nat.le_of_ble_eq_true rfl⟩ [] rfl rfl rfl hl.1 rfl (Nat.le_of_ble_eq_true rfl) dX9_scanNumber_163 ⟨Nat.le_of_ble_eq_true rfl, Nat.le_of_ble_eq_true rfl⟩) hP hD hS hA (fun r61 H locs hw59 hP hD hS => ?_)
          obtain ⟨ex59, b59, e59⟩ := hw59
          refine W.widen (k := 0) (n := 0) (Nat.le_refl _) (Nat.le_refl _) ?_
          refine lv_if_eq (tgt := 178) hx hb dX9_scanNumber_166 (by decide) (fun h62 => ?_) (fun h62 => ?_)
          · have z63 : r61.toInt = (0 : Int) := eq_z rfl (show (0 : Int32).toInt = (0 : Int) by decide) h62
            refine lv_iload_n hx hb dX9_scanNumber_178 rfl (lv_at hl 6 rfl) ?_
            refine lv_if_ne (tgt := 195) hx hb dX9_scanNumber_179 (by decide) (fun k64 => absurd k64 (by decide)) (fun _ => ?_)
            refine lv_lload hx hb dX9_scanNumber_182 (lv_at hl 2 rfl) ?_
            refine lv_ldc2 (v := 2147483647) hx hb hown (ht _ tw_431) dX9_scanNumber_184 ?_
            refine W.lcmp hx hb dX9_scanNumber_187 ?_
            refine lv_if_le (tgt := 195) hx hb dX9_scanNumber_188 (by decide) (fun h65 => ?_) (fun h65 => ?_)
            · have z66 : (lg_cmp va9 (2147483647 : Int64)).toInt ≤ (0 : Int) := le_z rfl (show (0 : Int32).toInt = (0 : Int) by decide) h65
              refine lv_iconst (v := 0) hx hb dX9_scanNumber_195 (by decide) ?_
              refine lv_istore (lv' := [(10, .int 0), (9, .int (pa + dg)), (8, .int dg), (6, .long va9), (5, .int pa), (4, .int 10), (3, .int 10), (2, .int 0), (0, .ref (ad 900)), (1, .int pa)]) hx hb dX9_scanNumber_196 hl (by decide) rfl (fun ls hl => ?_)
              refine lv_aload_n hx hb dX9_scanNumber_198 rfl (lv_at hl 8 rfl) ?_
              refine lv_iload hx hb dX9_scanNumber_199 (lv_at hl 0 rfl) ?_
              refine lv_if_eq (tgt := 208) hx hb dX9_scanNumber_201 (by decide) (fun _ => ?_) (fun k67 => absurd k67 (by decide))
              refine lv_iconst (v := 3) hx hb dX9_scanNumber_208 (by decide) ?_
              refine lv_iload_n hx hb dX9_scanNumber_209 rfl (lv_at hl 9 rfl) ?_
              refine lv_lload hx hb dX9_scanNumber_210 (lv_at hl 3 rfl) ?_
              refine lv_l2i hx hb dX9_scanNumber_212 rfl ?_
              refine lv_iload hx hb dX9_scanNumber_213 (lv_at hl 1 rfl) ?_
              refine lv_iload_n hx hb dX9_scanNumber_215 rfl (lv_at hl 9 rfl) ?_
              refine lv_isub hx hb dX9_scanNumber_216 ?_
              refine cu_i (rn_Vk (n := 4) (As := [.int 3, .int pa, .int (va9.toInt32), .int ((pa + dg) - pa)]) (rest := []) hx hb hml hown ht hKK hFx hP hD hS hA (c_x_X9_add l dC dI cI cB cZ cJ cR tb H.size ad pr N L1 L2 v (3 : Int32) pa (va9.toInt32) ((pa + dg) - pa) (show 0 ≤ (v.1 0 304).toInt ∧ (v.1 0 304).toInt ≤ 1503 from (om_c99648273b z304))) tw_427 tw_428 (by decide +kernel) rfl rfl ⟨Nat.le_of_ble_eq_true rfl, Nat.le_of_ble_eq_true rfl⟩ (List.range (cW ad pr N cI cR L1 L2 v).length) (rg_map _) (nd_range _) 0 rfl rfl rfl rfl hl.1 rfl (Nat.le_of_ble_eq_true rfl) dX9_scanNumber_217 ⟨Nat.le_of_ble_eq_true rfl, Nat.le_of_ble_eq_true rfl⟩) hP hD hS hA (fun r70 u69 H locs hw68 hP hD hS => ?_)
              obtain ⟨fr68, ex68, i30468, rs68⟩ := hw68
              refine W.widen (k := 0) (n := 0) (Nat.le_refl _) (Nat.le_refl _) ?_
              exact W.iret (v := r70) hx hb hr (fun t ht9 hW => ⟨⟨r70, u69, rfl, ⟨(FC.tr (FC.rf _) (FC.up fr68 (by decide) (by decide))), ⟨z304, z373, r3, ex1, (Or.inl ⟨z5, va9, dg, ka, exL81, f1L81, (Or.inr (⟨z41, r44, ex42, r47, ex45, z49, (Or.inr (⟨z55, r58, ex56, r61, ex59, ⟨b59, e59⟩, (Or.inl ⟨z63, (Or.inl ⟨z66, r70, u69, ex68, ⟨fr68, i30468, rs68⟩, rfl, rfl⟩)⟩)⟩))⟩))⟩)⟩, (show 0 ≤ (u69.1 0 304).toInt ∧ (u69.1 0 304).toInt ≤ 1503 from (om_c99648273b i30468)), (RS.tr RS.rf rs68)⟩, by rw [ht9]; exact hP, hD⟩, hS.F ht9⟩) hS.2.2 dX9_scanNumber_220
            · have z71 : (0 : Int) < (lg_cmp va9 (2147483647 : Int64)).toInt := nle_z rfl (show (0 : Int32).toInt = (0 : Int) by decide) h65
              refine lv_iconst (v := 1) hx hb dX9_scanNumber_191 (by decide) ?_
              refine lv_goto (tgt := 196) hx hb dX9_scanNumber_192 (by decide) ?_
              refine lv_istore (lv' := [(10, .int 1), (9, .int (pa + dg)), (8, .int dg), (6, .long va9), (5, .int pa), (4, .int 10), (3, .int 10), (2, .int 0), (0, .ref (ad 900)), (1, .int pa)]) hx hb dX9_scanNumber_196 hl (by decide) rfl (fun ls hl => ?_)
              refine lv_aload_n hx hb dX9_scanNumber_198 rfl (lv_at hl 8 rfl) ?_
              refine lv_iload hx hb dX9_scanNumber_199 (lv_at hl 0 rfl) ?_
              refine lv_if_eq (tgt := 208) hx hb dX9_scanNumber_201 (by decide) (fun k72 => absurd k72 (by decide)) (fun _ => ?_)
              refine lv_iconst (v := 4) hx hb dX9_scanNumber_204 (by decide) ?_
              refine lv_goto (tgt := 209) hx hb dX9_scanNumber_205 (by decide) ?_
              refine lv_iload_n hx hb dX9_scanNumber_209 rfl (lv_at hl 9 rfl) ?_
              refine lv_lload hx hb dX9_scanNumber_210 (lv_at hl 3 rfl) ?_
              refine lv_l2i hx hb dX9_scanNumber_212 rfl ?_
              refine lv_iload hx hb dX9_scanNumber_213 (lv_at hl 1 rfl) ?_
              refine lv_iload_n hx hb dX9_scanNumber_215 rfl (lv_at hl 9 rfl) ?_
              refine lv_isub hx hb dX9_scanNumber_216 ?_
              refine cu_i (rn_Vk (n := 4) (As := [.int 4, .int pa, .int (va9.toInt32), .int ((pa + dg) - pa)]) (rest := []) hx hb hml hown ht hKK hFx hP hD hS hA (c_x_X9_add l dC dI cI cB cZ cJ cR tb H.size ad pr N L1 L2 v (4 : Int32) pa (va9.toInt32) ((pa + dg) - pa) (show 0 ≤ (v.1 0 304).toInt ∧ (v.1 0 304).toInt ≤ 1503 from (om_c99648273b z304))) tw_427 tw_428 (by decide +kernel) rfl rfl ⟨Nat.le_of_ble_eq_true rfl, Nat.le_of_ble_eq_true rfl⟩ (List.range (cW ad pr N cI cR L1 L2 v).length) (rg_map _) (nd_range _) 0 rfl rfl rfl rfl hl.1 rfl (Nat.le_of_ble_eq_true rfl) dX9_scanNumber_217 ⟨Nat.le_of_ble_eq_true rfl, Nat.le_of_ble_eq_true rfl⟩) hP hD hS hA (fun r75 u74 H locs hw73 hP hD hS => ?_)
              obtain ⟨fr73, ex73, i30473, rs73⟩ := hw73
              refine W.widen (k := 0) (n := 0) (Nat.le_refl _) (Nat.le_refl _) ?_
              exact W.iret (v := r75) hx hb hr (fun t ht9 hW => ⟨⟨r75, u74, rfl, ⟨(FC.tr (FC.rf _) (FC.up fr73 (by decide) (by decide))), ⟨z304, z373, r3, ex1, (Or.inl ⟨z5, va9, dg, ka, exL81, f1L81, (Or.inr (⟨z41, r44, ex42, r47, ex45, z49, (Or.inr (⟨z55, r58, ex56, r61, ex59, ⟨b59, e59⟩, (Or.inl ⟨z63, (Or.inr (⟨z71, r75, u74, ex73, ⟨fr73, i30473, rs73⟩, rfl, rfl⟩))⟩)⟩))⟩))⟩)⟩, (show 0 ≤ (u74.1 0 304).toInt ∧ (u74.1 0 304).toInt ≤ 1503 from (om_c99648273b i30473)), (RS.tr RS.rf rs73)⟩, by rw [ht9]; exact hP, hD⟩, hS.F ht9⟩) hS.2.2 dX9_scanNumber_220
          · have z76 : r61.toInt ≠ (0 : Int) := ne_z rfl (show (0 : Int32).toInt = (0 : Int) by decide) h62
            refine lv_aload_n hx hb dX9_scanNumber_169 rfl (lv_at hl 7 rfl) ?_
            refine lv_iconst (v := 1) hx hb dX9_scanNumber_170 (by decide) ?_
            refine lv_iload_n hx hb dX9_scanNumber_171 rfl (lv_at hl 8 rfl) ?_
            refine lv_iconst (v := 0) hx hb dX9_scanNumber_172 (by decide) ?_
            refine lv_iconst (v := 0) hx hb dX9_scanNumber_173 (by decide) ?_
            refine cu_i (rn_Vk (n := 4) (As := [.int 1, .int pa, .int 0, .int 0]) (rest := []) hx hb hml hown ht hKK hFx hP hD hS hA (c_x_X9_add l dC dI cI cB cZ cJ cR tb H.size ad pr N L1 L2 v (1 : Int32) pa (0 : Int32) (0 : Int32) (show 0 ≤ (v.1 0 304).toInt ∧ (v.1 0 304).toInt ≤ 1503 from (om_c99648273b z304))) tw_427 tw_428 (by decide +kernel) rfl rfl ⟨Nat.le_of_ble_eq_true rfl, Nat.le_of_ble_eq_true rfl⟩ (List.range (cW ad pr N cI cR L1 L2 v).length) (rg_map _) (nd_range _) 0 rfl rfl rfl rfl hl.1 rfl (Nat.le_of_ble_eq_true rfl) dX9_scanNumber_174 ⟨Nat.le_of_ble_eq_true rfl, Nat.le_of_ble_eq_true rfl⟩) hP hD hS hA (fun r79 u78 H locs hw77 hP hD hS => ?_)
            obtain ⟨fr77, ex77, i30477, rs77⟩ := hw77
            refine W.widen (k := 0) (n := 0) (Nat.le_refl _) (Nat.le_refl _) ?_
            exact W.iret (v := r79) hx hb hr (fun t ht9 hW => ⟨⟨r79, u78, rfl, ⟨(FC.tr (FC.rf _) (FC.up fr77 (by decide) (by decide))), ⟨z304, z373, r3, ex1, (Or.inl ⟨z5, va9, dg, ka, exL81, f1L81, (Or.inr (⟨z41, r44, ex42, r47, ex45, z49, (Or.inr (⟨z55, r58, ex56, r61, ex59, ⟨b59, e59⟩, (Or.inr (⟨z76, r79, u78, ex77, ⟨fr77, i30477, rs77⟩, rfl, rfl⟩))⟩))⟩))⟩)⟩, (show 0 ≤ (u78.1 0 304).toInt ∧ (u78.1 0 304).toInt ≤ 1503 from (om_c99648273b i30477)), (RS.tr RS.rf rs77)⟩, by rw [ht9]; exact hP, hD⟩, hS.F ht9⟩) hS.2.2 dX9_scanNumber_177
      · have z80 : r47.toInt ≠ (-1 : Int) := ne_z rfl (show ((-1) : Int32).toInt = (-1 : Int) by decide) h48
        refine lv_lload hx hb dX9_scanNumber_108 (lv_at hl 2 rfl) ?_
        refine lv_iload_n hx hb dX9_scanNumber_110 rfl (lv_at hl 5 rfl) ?_
        refine lv_i2l (v := 10) hx hb dX9_scanNumber_111 (by decide) ?_
        refine lv_lmul hx hb dX9_scanNumber_112 ?_
        refine lv_aload_n hx hb dX9_scanNumber_113 rfl (lv_at hl 7 rfl) ?_
        refine va_get (D := (dC, dI)) (ci := 12) (fs := oF_X9 ad pr v) (v := .ref (pr (v.1 0 300))) (C := RX9) (T := TX9) (N := 10) hx hb ht itX9 hown hK hP 0 rfl rfl 0 (by decide) (ht _ tw_415) (fun _ h9 => h9) rfl dX9_scanNumber_114 ?_
        refine lv_iload hx hb dX9_scanNumber_117 (lv_at hl 3 rfl) ?_
        refine lv_iload hx hb dX9_scanNumber_119 (lv_at hl 0 rfl) ?_
        refine lv_iadd hx hb dX9_scanNumber_121 ?_
        refine W.eq (g2 := F0 m 122 ls [.int (pa + ka), .ref (ad 908), .long (va9 * 10)]) (by rw [show pr (v.1 0 300) = (ad 908) from (by rw [show (v.1 0 300) = ps from es300]; exact hps)]) ?_
        refine cu_i (rn_Vk (n := 1) (As := [.int (pa + ka)]) (rest := [.long (va9 * 10)]) hx hb hml hown ht hKK hFx hP hD hS hA (c_x_X7_byteAt l dC dI cI cB cZ cJ cR tb H.size ad pr N L1 L2 v (pa + ka) (show 0 ≤ (v.1 0 373).toInt ∧ (v.1 0 373).toInt ≤ 4000 from (om_c74a68af25 z373))) tw_392 tw_417 (by decide +kernel) rfl rfl ⟨Nat.le_of_ble_eq_true rfl, Nat.le_of_ble_eq_true rfl⟩ (List.range (cW ad pr N cI cR L1 L2 v).length) (rg_map _) (nd_range _) 8 rfl rfl rfl rfl hl.1 rfl (Nat.le_of_ble_eq_true rfl) dX9_scanNumber_122 ⟨Nat.le_of_ble_eq_true rfl, Nat.le_of_ble_eq_true rfl⟩) hP hD hS hA (fun r83 u82 H locs hw81 hP hD hS => ?_)
        obtain ⟨rfl, ex81⟩ := hw81
        refine W.widen (k := 0) (n := 0) (Nat.le_refl _) (Nat.le_refl _) ?_
        refine lv_iload_n hx hb dX9_scanNumber_125 rfl (lv_at hl 5 rfl) ?_
        refine cu_s (nd_range _) (rn_S (n := 2) (As := [.int r83, .int 10]) (rest := [.long (va9 * 10)]) hx hb hml hown ht hKK hFx hP hD hS hA (c_x_X9_digitValue l dC dI cI cB cZ cJ cR tb H.size r83 (10 : Int32) ) tw_432 tw_433 (by decide +kernel) rfl rfl ⟨Nat.le_of_ble_eq_true rfl, Nat.le_of_ble_eq_true rfl⟩ [] rfl rfl rfl hl.1 rfl (Nat.le_of_ble_eq_true rfl) dX9_scanNumber_126 ⟨Nat.le_of_ble_eq_true rfl, Nat.le_of_ble_eq_true rfl⟩) hP hD hS hA (fun r86 H locs hw84 hP hD hS => ?_)
        have ex84 := hw84
        refine W.widen (k := 0) (n := 0) (Nat.le_refl _) (Nat.le_refl _) ?_
        refine lv_i2l hx hb dX9_scanNumber_129 rfl ?_
        refine lv_ladd hx hb dX9_scanNumber_130 ?_
        refine lv_lstore (lv' := [(6, .long ((va9 * 10) + (r86).toInt64)), (9, .int ka), (8, .int dg), (5, .int pa), (4, .int 10), (3, .int 10), (2, .int 0), (0, .ref (ad 900)), (1, .int pa)]) hx hb dX9_scanNumber_131 hl (by decide) rfl (fun ls hl => ?_)
        refine lv_iinc (v := (dg + (1 : Int32))) (lv' := [(8, .int (dg + (1 : Int32))), (6, .long ((va9 * 10) + (r86).toInt64)), (9, .int ka), (5, .int pa), (4, .int 10), (3, .int 10), (2, .int 0), (0, .ref (ad 900)), (1, .int pa)]) hx hb dX9_scanNumber_133 hl (k := 2) rfl (rfl) (by decide) rfl (fun ls hl => ?_)
        refine lv_iinc (v := (ka + (1 : Int32))) (lv' := [(9, .int (ka + (1 : Int32))), (8, .int (dg + (1 : Int32))), (6, .long ((va9 * 10) + (r86).toInt64)), (5, .int pa), (4, .int 10), (3, .int 10), (2, .int 0), (0, .ref (ad 900)), (1, .int pa)]) hx hb dX9_scanNumber_136 hl (k := 2) rfl (rfl) (by decide) rfl (fun ls hl => ?_)
        have z87 : (ka + (1 : Int32)).toInt = ka.toInt + (1 : Int) := add_z rfl (show (1 : Int32).toInt = (1 : Int) by decide) (om_d64a792b2e f1L81) (om_ed0744e669 z41)
        refine lv_goto (tgt := 81) hx hb dX9_scanNumber_139 (by decide) ?_
        exact ih81 (((va9 * 10) + (r86).toInt64), (dg + (1 : Int32)), (ka + (1 : Int32))) _ _ _ (show (10 - (ka + (1 : Int32)).toInt).toNat < (10 - ka.toInt).toNat from tn_z (om_5588f1b84f z87) (om_d8b33ba26b z41)) ⟨(show 0 ≤ (ka + (1 : Int32)).toInt from (om_d99f09c756 f1L81 z87)), (RT.st exL81 ⟨f1L81, z41, r44, ex42, r47, ex45, z80, r83, ex81, r86, ex84, rfl⟩), hP, hD, hS, lv_sub hl [0, 1, 2, 3, 4, 5, 6, 7, 8] rfl⟩
  · have z88 : r3.toInt = (48 : Int) := eq_z rfl (show (48 : Int32).toInt = (48 : Int) by decide) h4
    refine lv_aload_n hx hb dX9_scanNumber_13 rfl (lv_at hl 0 rfl) ?_
    refine va_get (D := (dC, dI)) (ci := 12) (fs := oF_X9 ad pr v) (v := .ref (pr (v.1 0 300))) (C := RX9) (T := TX9) (N := 10) hx hb ht itX9 hown hK hP 0 rfl rfl 0 (by decide) (ht _ tw_415) (fun _ h9 => h9) rfl dX9_scanNumber_14 ?_
    refine lv_iload_n hx hb dX9_scanNumber_17 rfl (lv_at hl 1 rfl) ?_
    refine lv_iconst (v := 1) hx hb dX9_scanNumber_18 (by decide) ?_
    refine lv_iadd hx hb dX9_scanNumber_19 ?_
    refine W.eq (g2 := F0 m 20 ls [.int (pa + (1 : Int32)), .ref (ad 908)]) (by rw [show pr (v.1 0 300) = (ad 908) from (by rw [show (v.1 0 300) = ps from es300]; exact hps)]) ?_
    refine cu_i (rn_Vk (n := 1) (As := [.int (pa + (1 : Int32))]) (rest := []) hx hb hml hown ht hKK hFx hP hD hS hA (c_x_X7_byteAt l dC dI cI cB cZ cJ cR tb H.size ad pr N L1 L2 v (pa + (1 : Int32)) (show 0 ≤ (v.1 0 373).toInt ∧ (v.1 0 373).toInt ≤ 4000 from (om_c74a68af25 z373))) tw_392 tw_417 (by decide +kernel) rfl rfl ⟨Nat.le_of_ble_eq_true rfl, Nat.le_of_ble_eq_true rfl⟩ (List.range (cW ad pr N cI cR L1 L2 v).length) (rg_map _) (nd_range _) 8 rfl rfl rfl rfl hl.1 rfl (Nat.le_of_ble_eq_true rfl) dX9_scanNumber_20 ⟨Nat.le_of_ble_eq_true rfl, Nat.le_of_ble_eq_true rfl⟩) hP hD hS hA (fun r91 u90 H locs hw89 hP hD hS => ?_)
    obtain ⟨rfl, ex89⟩ := hw89
    refine W.widen (k := 0) (n := 0) (Nat.le_refl _) (Nat.le_refl _) ?_
    refine lv_bipush (v := 120) hx hb dX9_scanNumber_23 (by decide) ?_
    refine lv_icmp_ne (tgt := 32) hx hb dX9_scanNumber_25 (by decide) (fun h92 => ?_) (fun h92 => ?_)
    · have z93 : r91.toInt ≠ (120 : Int) := ne_z rfl (show (120 : Int32).toInt = (120 : Int) by decide) h92
      refine lv_iconst (v := 0) hx hb dX9_scanNumber_32 (by decide) ?_
      refine lv_istore_n (lv' := [(2, .int 0), (0, .ref (ad 900)), (1, .int pa)]) hx hb dX9_scanNumber_33 rfl hl (by decide) rfl (fun ls hl => ?_)
      refine lv_iload_n hx hb dX9_scanNumber_34 rfl (lv_at hl 0 rfl) ?_
      refine lv_if_eq (tgt := 43) hx hb dX9_scanNumber_35 (by decide) (fun _ => ?_) (fun k94 => absurd k94 (by decide))
      refine lv_bipush (v := 10) hx hb dX9_scanNumber_43 (by decide) ?_
      refine lv_istore_n (lv' := [(3, .int 10), (2, .int 0), (0, .ref (ad 900)), (1, .int pa)]) hx hb dX9_scanNumber_45 rfl hl (by decide) rfl (fun ls hl => ?_)
      refine lv_iload_n hx hb dX9_scanNumber_46 rfl (lv_at hl 1 rfl) ?_
      refine lv_if_eq (tgt := 55) hx hb dX9_scanNumber_47 (by decide) (fun _ => ?_) (fun k95 => absurd k95 (by decide))
      refine lv_bipush (v := 10) hx hb dX9_scanNumber_55 (by decide) ?_
      refine lv_istore (lv' := [(4, .int 10), (3, .int 10), (2, .int 0), (0, .ref (ad 900)), (1, .int pa)]) hx hb dX9_scanNumber_57 hl (by decide) rfl (fun ls hl => ?_)
      refine lv_iload_n hx hb dX9_scanNumber_59 rfl (lv_at hl 2 rfl) ?_
      refine lv_if_eq (tgt := 69) hx hb dX9_scanNumber_60 (by decide) (fun _ => ?_) (fun k96 => absurd k96 (by decide))
      refine lv_iload_n hx hb dX9_scanNumber_69 rfl (lv_at hl 4 rfl) ?_
      refine lv_istore (lv' := [(5, .int pa), (4, .int 10), (3, .int 10), (2, .int 0), (0, .ref (ad 900)), (1, .int pa)]) hx hb dX9_scanNumber_70 hl (by decide) rfl (fun ls hl => ?_)
      refine lv_lconst (v := 0) hx hb dX9_scanNumber_72 (by decide) ?_
      refine lv_lstore (lv' := [(6, .long 0), (5, .int pa), (4, .int 10), (3, .int 10), (2, .int 0), (0, .ref (ad 900)), (1, .int pa)]) hx hb dX9_scanNumber_73 hl (by decide) rfl (fun ls hl => ?_)
      refine lv_iconst (v := 0) hx hb dX9_scanNumber_75 (by decide) ?_
      refine lv_istore (lv' := [(8, .int 0), (6, .long 0), (5, .int pa), (4, .int 10), (3, .int 10), (2, .int 0), (0, .ref (ad 900)), (1, .int pa)]) hx hb dX9_scanNumber_76 hl (by decide) rfl (fun ls hl => ?_)
      refine lv_iconst (v := 0) hx hb dX9_scanNumber_78 (by decide) ?_
      refine lv_istore (lv' := [(9, .int 0), (8, .int 0), (6, .long 0), (5, .int pa), (4, .int 10), (3, .int 10), (2, .int 0), (0, .ref (ad 900)), (1, .int pa)]) hx hb dX9_scanNumber_79 hl (by decide) rfl (fun ls hl => ?_)
      refine lpm_ (X := Int64 × Int32 × Int32) (P := (fun (x9 : Int64 × Int32 × Int32) (H : Heap) (locs : List Loc) (ls : Array Slot) => (0 ≤ x9.2.2.toInt) ∧ (RT (Q_x_X9_scanNumber_L1 L1 L2 v pa) (0, 0, 0) (x9.1, x9.2.1, x9.2.2)) ∧ va_P (dC, dI) vwCl (cW ad pr N cI cR L1 L2 v) H ∧ va_D A (cW ad pr N cI cR L1 L2 v) ∧ va_S A s.heap H locs ∧ lv_has ls 11 [(9, .int x9.2.2), (8, .int x9.2.1), (6, .long x9.1), (5, .int pa), (4, .int 10), (3, .int 10), (2, .int 0), (0, .ref (ad 900)), (1, .int pa)])) (fun x9 => (10 - x9.2.2.toInt).toNat) 81 (fun x9 H locs ls hh ih81 => ?_) (0, 0, 0) _ _ _ ⟨(show 0 ≤ (0 : Int) from om_342087eeda), RT.rf, hP, hD, hS, lv_sub hl [0, 1, 2, 3, 4, 5, 6, 7, 8] rfl⟩
      obtain ⟨va9, dg, ka⟩ := x9
      obtain ⟨f1L81, exL81, hP, hD, hS, hl⟩ := hh
      have f1L81 : 0 ≤ ka.toInt := f1L81
      have hl : lv_has ls 11 [(9, .int ka), (8, .int dg), (6, .long va9), (5, .int pa), (4, .int 10), (3, .int 10), (2, .int 0), (0, .ref (ad 900)), (1, .int pa)] := hl
      refine lv_iload hx hb dX9_scanNumber_81 (lv_at hl 0 rfl) ?_
      refine lv_iload hx hb dX9_scanNumber_83 (lv_at hl 4 rfl) ?_
      refine lv_icmp_ge (tgt := 142) hx hb dX9_scanNumber_85 (by decide) (fun h97 => ?_) (fun h97 => ?_)
      · have z98 : (10 : Int) ≤ ka.toInt := le_z (show (10 : Int32).toInt = (10 : Int) by decide) rfl h97
        refine lv_iload hx hb dX9_scanNumber_142 (lv_at hl 3 rfl) ?_
        refine lv_iload hx hb dX9_scanNumber_144 (lv_at hl 1 rfl) ?_
        refine lv_iadd hx hb dX9_scanNumber_146 ?_
        refine lv_istore (lv' := [(9, .int (pa + dg)), (8, .int dg), (6, .long va9), (5, .int pa), (4, .int 10), (3, .int 10), (2, .int 0), (0, .ref (ad 900)), (1, .int pa)]) hx hb dX9_scanNumber_147 hl (by decide) rfl (fun ls hl => ?_)
        refine lv_iload hx hb dX9_scanNumber_149 (lv_at hl 1 rfl) ?_
        refine lv_if_eq (tgt := 169) hx hb dX9_scanNumber_151 (by decide) (fun h99 => ?_) (fun h99 => ?_)
        · have z100 : dg.toInt = (0 : Int) := eq_z rfl (show (0 : Int32).toInt = (0 : Int) by decide) h99
          refine lv_aload_n hx hb dX9_scanNumber_169 rfl (lv_at hl 7 rfl) ?_
          refine lv_iconst (v := 1) hx hb dX9_scanNumber_170 (by decide) ?_
          refine lv_iload_n hx hb dX9_scanNumber_171 rfl (lv_at hl 8 rfl) ?_
          refine lv_iconst (v := 0) hx hb dX9_scanNumber_172 (by decide) ?_
          refine lv_iconst (v := 0) hx hb dX9_scanNumber_173 (by decide) ?_
          refine cu_i (rn_Vk (n := 4) (As := [.int 1, .int pa, .int 0, .int 0]) (rest := []) hx hb hml hown ht hKK hFx hP hD hS hA (c_x_X9_add l dC dI cI cB cZ cJ cR tb H.size ad pr N L1 L2 v (1 : Int32) pa (0 : Int32) (0 : Int32) (show 0 ≤ (v.1 0 304).toInt ∧ (v.1 0 304).toInt ≤ 1503 from (om_c99648273b z304))) tw_427 tw_428 (by decide +kernel) rfl rfl ⟨Nat.le_of_ble_eq_true rfl, Nat.le_of_ble_eq_true rfl⟩ (List.range (cW ad pr N cI cR L1 L2 v).length) (rg_map _) (nd_range _) 0 rfl rfl rfl rfl hl.1 rfl (Nat.le_of_ble_eq_true rfl) dX9_scanNumber_174 ⟨Nat.le_of_ble_eq_true rfl, Nat.le_of_ble_eq_true rfl⟩) hP hD hS hA (fun r103 u102 H locs hw101 hP hD hS => ?_)
          obtain ⟨fr101, ex101, i304101, rs101⟩ := hw101
          refine W.widen (k := 0) (n := 0) (Nat.le_refl _) (Nat.le_refl _) ?_
          exact W.iret (v := r103) hx hb hr (fun t ht9 hW => ⟨⟨r103, u102, rfl, ⟨(FC.tr (FC.rf _) (FC.up fr101 (by decide) (by decide))), ⟨z304, z373, r3, ex1, (Or.inr (⟨z88, r91, ex89, (Or.inl ⟨z93, va9, dg, ka, exL81, f1L81, (Or.inl ⟨z98, (Or.inl ⟨z100, r103, u102, ex101, ⟨fr101, i304101, rs101⟩, rfl, rfl⟩)⟩)⟩)⟩))⟩, (show 0 ≤ (u102.1 0 304).toInt ∧ (u102.1 0 304).toInt ≤ 1503 from (om_c99648273b i304101)), (RS.tr RS.rf rs101)⟩, by rw [ht9]; exact hP, hD⟩, hS.F ht9⟩) hS.2.2 dX9_scanNumber_177
        · have z104 : dg.toInt ≠ (0 : Int) := ne_z rfl (show (0 : Int32).toInt = (0 : Int) by decide) h99
          refine lv_aload_n hx hb dX9_scanNumber_154 rfl (lv_at hl 7 rfl) ?_
          refine va_get (D := (dC, dI)) (ci := 12) (fs := oF_X9 ad pr v) (v := .ref (pr (v.1 0 300))) (C := RX9) (T := TX9) (N := 10) hx hb ht itX9 hown hK hP 0 rfl rfl 0 (by decide) (ht _ tw_415) (fun _ h9 => h9) rfl dX9_scanNumber_155 ?_
          refine lv_iload hx hb dX9_scanNumber_158 (lv_at hl 0 rfl) ?_
          refine W.eq (g2 := F0 m 160 ls [.int (pa + dg), .ref (ad 908)]) (by rw [show pr (v.1 0 300) = (ad 908) from (by rw [show (v.1 0 300) = ps from es300]; exact hps)]) ?_
          refine cu_i (rn_Vk (n := 1) (As := [.int (pa + dg)]) (rest := []) hx hb hml hown ht hKK hFx hP hD hS hA (c_x_X7_byteAt l dC dI cI cB cZ cJ cR tb H.size ad pr N L1 L2 v (pa + dg) (show 0 ≤ (v.1 0 373).toInt ∧ (v.1 0 373).toInt ≤ 4000 from (om_c74a68af25 z373))) tw_392 tw_417 (by decide +kernel) rfl rfl ⟨Nat.le_of_ble_eq_true rfl, Nat.le_of_ble_eq_true rfl⟩ (List.range (cW ad pr N cI cR L1 L2 v).length) (rg_map _) (nd_range _) 8 rfl rfl rfl rfl hl.1 rfl (Nat.le_of_ble_eq_true rfl) dX9_scanNumber_160 ⟨Nat.le_of_ble_eq_true rfl, Nat.le_of_ble_eq_true rfl⟩) hP hD hS hA (fun r107 u106 H locs hw105 hP hD hS => ?_)
          obtain ⟨rfl, ex105⟩ := hw105
          refine W.widen (k := 0) (n := 0) (Nat.le_refl _) (Nat.le_refl _) ?_
          refine cu_s (nd_range _) (rn_S (n := 1) (As := [.int r107]) (rest := []) hx hb hml hown ht hKK hFx hP hD hS hA (c_x_X9_isNamePart l dC dI cI cB cZ cJ cR tb H.size r107 ) tw_394 tw_418 (by decide +kernel) rfl rfl ⟨Nat.le_of_ble_eq_true rfl, Nat.le_of_ble_eq_true rfl⟩ [] rfl rfl rfl hl.1 rfl (Nat.le_of_ble_eq_true rfl) dX9_scanNumber_163 ⟨Nat.le_of_ble_eq_true rfl, Nat.le_of_ble_eq_true rfl⟩) hP hD hS hA (fun r110 H locs hw108 hP hD hS => ?_)
          obtain ⟨ex108, b108, e108⟩ := hw108
          refine W.widen (k := 0) (n := 0) (Nat.le_refl _) (Nat.le_refl _) ?_
          refine lv_if_eq (tgt := 178) hx hb dX9_scanNumber_166 (by decide) (fun h111 => ?_) (fun h111 => ?_)
          · have z112 : r110.toInt = (0 : Int) := eq_z rfl (show (0 : Int32).toInt = (0 : Int) by decide) h111
            refine lv_iload_n hx hb dX9_scanNumber_178 rfl (lv_at hl 6 rfl) ?_
            refine lv_if_ne (tgt := 195) hx hb dX9_scanNumber_179 (by decide) (fun k113 => absurd k113 (by decide)) (fun _ => ?_)
            refine lv_lload hx hb dX9_scanNumber_182 (lv_at hl 2 rfl) ?_
            refine lv_ldc2 (v := 2147483647) hx hb hown (ht _ tw_431) dX9_scanNumber_184 ?_
            refine W.lcmp hx hb dX9_scanNumber_187 ?_
            refine lv_if_le (tgt := 195) hx hb dX9_scanNumber_188 (by decide) (fun h114 => ?_) (fun h114 => ?_)
            · have z115 : (lg_cmp va9 (2147483647 : Int64)).toInt ≤ (0 : Int) := le_z rfl (show (0 : Int32).toInt = (0 : Int) by decide) h114
              refine lv_iconst (v := 0) hx hb dX9_scanNumber_195 (by decide) ?_
              refine lv_istore (lv' := [(10, .int 0), (9, .int (pa + dg)), (8, .int dg), (6, .long va9), (5, .int pa), (4, .int 10), (3, .int 10), (2, .int 0), (0, .ref (ad 900)), (1, .int pa)]) hx hb dX9_scanNumber_196 hl (by decide) rfl (fun ls hl => ?_)
              refine lv_aload_n hx hb dX9_scanNumber_198 rfl (lv_at hl 8 rfl) ?_
              refine lv_iload hx hb dX9_scanNumber_199 (lv_at hl 0 rfl) ?_
              refine lv_if_eq (tgt := 208) hx hb dX9_scanNumber_201 (by decide) (fun _ => ?_) (fun k116 => absurd k116 (by decide))
              refine lv_iconst (v := 3) hx hb dX9_scanNumber_208 (by decide) ?_
              refine lv_iload_n hx hb dX9_scanNumber_209 rfl (lv_at hl 9 rfl) ?_
              refine lv_lload hx hb dX9_scanNumber_210 (lv_at hl 3 rfl) ?_
              refine lv_l2i hx hb dX9_scanNumber_212 rfl ?_
              refine lv_iload hx hb dX9_scanNumber_213 (lv_at hl 1 rfl) ?_
              refine lv_iload_n hx hb dX9_scanNumber_215 rfl (lv_at hl 9 rfl) ?_
              refine lv_isub hx hb dX9_scanNumber_216 ?_
              refine cu_i (rn_Vk (n := 4) (As := [.int 3, .int pa, .int (va9.toInt32), .int ((pa + dg) - pa)]) (rest := []) hx hb hml hown ht hKK hFx hP hD hS hA (c_x_X9_add l dC dI cI cB cZ cJ cR tb H.size ad pr N L1 L2 v (3 : Int32) pa (va9.toInt32) ((pa + dg) - pa) (show 0 ≤ (v.1 0 304).toInt ∧ (v.1 0 304).toInt ≤ 1503 from (om_c99648273b z304))) tw_427 tw_428 (by decide +kernel) rfl rfl ⟨Nat.le_of_ble_eq_true rfl, Nat.le_of_ble_eq_true rfl⟩ (List.range (cW ad pr N cI cR L1 L2 v).length) (rg_map _) (nd_range _) 0 rfl rfl rfl rfl hl.1 rfl (Nat.le_of_ble_eq_true rfl) dX9_scanNumber_217 ⟨Nat.le_of_ble_eq_true rfl, Nat.le_of_ble_eq_true rfl⟩) hP hD hS hA (fun r119 u118 H locs hw117 hP hD hS => ?_)
              obtain ⟨fr117, ex117, i304117, rs117⟩ := hw117
              refine W.widen (k := 0) (n := 0) (Nat.le_refl _) (Nat.le_refl _) ?_
              exact W.iret (v := r119) hx hb hr (fun t ht9 hW => ⟨⟨r119, u118, rfl, ⟨(FC.tr (FC.rf _) (FC.up fr117 (by decide) (by decide))), ⟨z304, z373, r3, ex1, (Or.inr (⟨z88, r91, ex89, (Or.inl ⟨z93, va9, dg, ka, exL81, f1L81, (Or.inl ⟨z98, (Or.inr (⟨z104, r107, ex105, r110, ex108, ⟨b108, e108⟩, (Or.inl ⟨z112, (Or.inl ⟨z115, r119, u118, ex117, ⟨fr117, i304117, rs117⟩, rfl, rfl⟩)⟩)⟩))⟩)⟩)⟩))⟩, (show 0 ≤ (u118.1 0 304).toInt ∧ (u118.1 0 304).toInt ≤ 1503 from (om_c99648273b i304117)), (RS.tr RS.rf rs117)⟩, by rw [ht9]; exact hP, hD⟩, hS.F ht9⟩) hS.2.2 dX9_scanNumber_220
            · have z120 : (0 : Int) < (lg_cmp va9 (2147483647 : Int64)).toInt := nle_z rfl (show (0 : Int32).toInt = (0 : Int) by decide) h114
              refine lv_iconst (v := 1) hx hb dX9_scanNumber_191 (by decide) ?_
              refine lv_goto (tgt := 196) hx hb dX9_scanNumber_192 (by decide) ?_
              refine lv_istore (lv' := [(10, .int 1), (9, .int (pa + dg)), (8, .int dg), (6, .long va9), (5, .int pa), (4, .int 10), (3, .int 10), (2, .int 0), (0, .ref (ad 900)), (1, .int pa)]) hx hb dX9_scanNumber_196 hl (by decide) rfl (fun ls hl => ?_)
              refine lv_aload_n hx hb dX9_scanNumber_198 rfl (lv_at hl 8 rfl) ?_
              refine lv_iload hx hb dX9_scanNumber_199 (lv_at hl 0 rfl) ?_
              refine lv_if_eq (tgt := 208) hx hb dX9_scanNumber_201 (by decide) (fun k121 => absurd k121 (by decide)) (fun _ => ?_)
              refine lv_iconst (v := 4) hx hb dX9_scanNumber_204 (by decide) ?_
              refine lv_goto (tgt := 209) hx hb dX9_scanNumber_205 (by decide) ?_
              refine lv_iload_n hx hb dX9_scanNumber_209 rfl (lv_at hl 9 rfl) ?_
              refine lv_lload hx hb dX9_scanNumber_210 (lv_at hl 3 rfl) ?_
              refine lv_l2i hx hb dX9_scanNumber_212 rfl ?_
              refine lv_iload hx hb dX9_scanNumber_213 (lv_at hl 1 rfl) ?_
              refine lv_iload_n hx hb dX9_scanNumber_215 rfl (lv_at hl 9 rfl) ?_
              refine lv_isub hx hb dX9_scanNumber_216 ?_
              refine cu_i (rn_Vk (n := 4) (As := [.int 4, .int pa, .int (va9.toInt32), .int ((pa + dg) - pa)]) (rest := []) hx hb hml hown ht hKK hFx hP hD hS hA (c_x_X9_add l dC dI cI cB cZ cJ cR tb H.size ad pr N L1 L2 v (4 : Int32) pa (va9.toInt32) ((pa + dg) - pa) (show 0 ≤ (v.1 0 304).toInt ∧ (v.1 0 304).toInt ≤ 1503 from (om_c99648273b z304))) tw_427 tw_428 (by decide +kernel) rfl rfl ⟨Nat.le_of_ble_eq_true rfl, Nat.le_of_ble_eq_true rfl⟩ (List.range (cW ad pr N cI cR L1 L2 v).length) (rg_map _) (nd_range _) 0 rfl rfl rfl rfl hl.1 rfl (Nat.le_of_ble_eq_true rfl) dX9_scanNumber_217 ⟨Nat.le_of_ble_eq_true rfl, Nat.le_of_ble_eq_true rfl⟩) hP hD hS hA (fun r124 u123 H locs hw122 hP hD hS => ?_)
              obtain ⟨fr122, ex122, i304122, rs122⟩ := hw122
              refine W.widen (k := 0) (n := 0) (Nat.le_refl _) (Nat.le_refl _) ?_
              exact W.iret (v := r124) hx hb hr (fun t ht9 hW => ⟨⟨r124, u123, rfl, ⟨(FC.tr (FC.rf _) (FC.up fr122 (by decide) (by decide))), ⟨z304, z373, r3, ex1, (Or.inr (⟨z88, r91, ex89, (Or.inl ⟨z93, va9, dg, ka, exL81, f1L81, (Or.inl ⟨z98, (Or.inr (⟨z104, r107, ex105, r110, ex108, ⟨b108, e108⟩, (Or.inl ⟨z112, (Or.inr (⟨z120, r124, u123, ex122, ⟨fr122, i304122, rs122⟩, rfl, rfl⟩))⟩)⟩))⟩)⟩)⟩))⟩, (show 0 ≤ (u123.1 0 304).toInt ∧ (u123.1 0 304).toInt ≤ 1503 from (om_c99648273b i304122)), (RS.tr RS.rf rs122)⟩, by rw [ht9]; exact hP, hD⟩, hS.F ht9⟩) hS.2.2 dX9_scanNumber_220
          · have z125 : r110.toInt ≠ (0 : Int) := ne_z rfl (show (0 : Int32).toInt = (0 : Int) by decide) h111
            refine lv_aload_n hx hb dX9_scanNumber_169 rfl (lv_at hl 7 rfl) ?_
            refine lv_iconst (v := 1) hx hb dX9_scanNumber_170 (by decide) ?_
            refine lv_iload_n hx hb dX9_scanNumber_171 rfl (lv_at hl 8 rfl) ?_
            refine lv_iconst (v := 0) hx hb dX9_scanNumber_172 (by decide) ?_
            refine lv_iconst (v := 0) hx hb dX9_scanNumber_173 (by decide) ?_
            refine cu_i (rn_Vk (n := 4) (As := [.int 1, .int pa, .int 0, .int 0]) (rest := []) hx hb hml hown ht hKK hFx hP hD hS hA (c_x_X9_add l dC dI cI cB cZ cJ cR tb H.size ad pr N L1 L2 v (1 : Int32) pa (0 : Int32) (0 : Int32) (show 0 ≤ (v.1 0 304).toInt ∧ (v.1 0 304).toInt ≤ 1503 from (om_c99648273b z304))) tw_427 tw_428 (by decide +kernel) rfl rfl ⟨Nat.le_of_ble_eq_true rfl, Nat.le_of_ble_eq_true rfl⟩ (List.range (cW ad pr N cI cR L1 L2 v).length) (rg_map _) (nd_range _) 0 rfl rfl rfl rfl hl.1 rfl (Nat.le_of_ble_eq_true rfl) dX9_scanNumber_174 ⟨Nat.le_of_ble_eq_true rfl, Nat.le_of_ble_eq_true rfl⟩) hP hD hS hA (fun r128 u127 H locs hw126 hP hD hS => ?_)
            obtain ⟨fr126, ex126, i304126, rs126⟩ := hw126
            refine W.widen (k := 0) (n := 0) (Nat.le_refl _) (Nat.le_refl _) ?_
            exact W.iret (v := r128) hx hb hr (fun t ht9 hW => ⟨⟨r128, u127, rfl, ⟨(FC.tr (FC.rf _) (FC.up fr126 (by decide) (by decide))), ⟨z304, z373, r3, ex1, (Or.inr (⟨z88, r91, ex89, (Or.inl ⟨z93, va9, dg, ka, exL81, f1L81, (Or.inl ⟨z98, (Or.inr (⟨z104, r107, ex105, r110, ex108, ⟨b108, e108⟩, (Or.inr (⟨z125, r128, u127, ex126, ⟨fr126, i304126, rs126⟩, rfl, rfl⟩))⟩))⟩)⟩)⟩))⟩, (show 0 ≤ (u127.1 0 304).toInt ∧ (u127.1 0 304).toInt ≤ 1503 from (om_c99648273b i304126)), (RS.tr RS.rf rs126)⟩, by rw [ht9]; exact hP, hD⟩, hS.F ht9⟩) hS.2.2 dX9_scanNumber_177
      · have z129 : ka.toInt < (10 : Int) := nle_z (show (10 : Int32).toInt = (10 : Int) by decide) rfl h97
        refine lv_aload_n hx hb dX9_scanNumber_88 rfl (lv_at hl 7 rfl) ?_
        refine va_get (D := (dC, dI)) (ci := 12) (fs := oF_X9 ad pr v) (v := .ref (pr (v.1 0 300))) (C := RX9) (T := TX9) (N := 10) hx hb ht itX9 hown hK hP 0 rfl rfl 0 (by decide) (ht _ tw_415) (fun _ h9 => h9) rfl dX9_scanNumber_89 ?_
        refine lv_iload hx hb dX9_scanNumber_92 (lv_at hl 3 rfl) ?_
        refine lv_iload hx hb dX9_scanNumber_94 (lv_at hl 0 rfl) ?_
        refine lv_iadd hx hb dX9_scanNumber_96 ?_
        refine W.eq (g2 := F0 m 97 ls [.int (pa + ka), .ref (ad 908)]) (by rw [show pr (v.1 0 300) = (ad 908) from (by rw [show (v.1 0 300) = ps from es300]; exact hps)]) ?_
        refine cu_i (rn_Vk (n := 1) (As := [.int (pa + ka)]) (rest := []) hx hb hml hown ht hKK hFx hP hD hS hA (c_x_X7_byteAt l dC dI cI cB cZ cJ cR tb H.size ad pr N L1 L2 v (pa + ka) (show 0 ≤ (v.1 0 373).toInt ∧ (v.1 0 373).toInt ≤ 4000 from (om_c74a68af25 z373))) tw_392 tw_417 (by decide +kernel) rfl rfl ⟨Nat.le_of_ble_eq_true rfl, Nat.le_of_ble_eq_true rfl⟩ (List.range (cW ad pr N cI cR L1 L2 v).length) (rg_map _) (nd_range _) 8 rfl rfl rfl rfl hl.1 rfl (Nat.le_of_ble_eq_true rfl) dX9_scanNumber_97 ⟨Nat.le_of_ble_eq_true rfl, Nat.le_of_ble_eq_true rfl⟩) hP hD hS hA (fun r132 u131 H locs hw130 hP hD hS => ?_)
        obtain ⟨rfl, ex130⟩ := hw130
        refine W.widen (k := 0) (n := 0) (Nat.le_refl _) (Nat.le_refl _) ?_
        refine lv_iload_n hx hb dX9_scanNumber_100 rfl (lv_at hl 5 rfl) ?_
        refine cu_s (nd_range _) (rn_S (n := 2) (As := [.int r132, .int 10]) (rest := []) hx hb hml hown ht hKK hFx hP hD hS hA (c_x_X9_digitValue l dC dI cI cB cZ cJ cR tb H.size r132 (10 : Int32) ) tw_432 tw_433 (by decide +kernel) rfl rfl ⟨Nat.le_of_ble_eq_true rfl, Nat.le_of_ble_eq_true rfl⟩ [] rfl rfl rfl hl.1 rfl (Nat.le_of_ble_eq_true rfl) dX9_scanNumber_101 ⟨Nat.le_of_ble_eq_true rfl, Nat.le_of_ble_eq_true rfl⟩) hP hD hS hA (fun r135 H locs hw133 hP hD hS => ?_)
        have ex133 := hw133
        refine W.widen (k := 0) (n := 0) (Nat.le_refl _) (Nat.le_refl _) ?_
        refine lv_iconst (v := -1) hx hb dX9_scanNumber_104 (by decide) ?_
        refine lv_icmp_eq (tgt := 142) hx hb dX9_scanNumber_105 (by decide) (fun h136 => ?_) (fun h136 => ?_)
        · have z137 : r135.toInt = (-1 : Int) := eq_z rfl (show ((-1) : Int32).toInt = (-1 : Int) by decide) h136
          refine lv_iload hx hb dX9_scanNumber_142 (lv_at hl 3 rfl) ?_
          refine lv_iload hx hb dX9_scanNumber_144 (lv_at hl 1 rfl) ?_
          refine lv_iadd hx hb dX9_scanNumber_146 ?_
          refine lv_istore (lv' := [(9, .int (pa + dg)), (8, .int dg), (6, .long va9), (5, .int pa), (4, .int 10), (3, .int 10), (2, .int 0), (0, .ref (ad 900)), (1, .int pa)]) hx hb dX9_scanNumber_147 hl (by decide) rfl (fun ls hl => ?_)
          refine lv_iload hx hb dX9_scanNumber_149 (lv_at hl 1 rfl) ?_
          refine lv_if_eq (tgt := 169) hx hb dX9_scanNumber_151 (by decide) (fun h138 => ?_) (fun h138 => ?_)
          · have z139 : dg.toInt = (0 : Int) := eq_z rfl (show (0 : Int32).toInt = (0 : Int) by decide) h138
            refine lv_aload_n hx hb dX9_scanNumber_169 rfl (lv_at hl 7 rfl) ?_
            refine lv_iconst (v := 1) hx hb dX9_scanNumber_170 (by decide) ?_
            refine lv_iload_n hx hb dX9_scanNumber_171 rfl (lv_at hl 8 rfl) ?_
            refine lv_iconst (v := 0) hx hb dX9_scanNumber_172 (by decide) ?_
            refine lv_iconst (v := 0) hx hb dX9_scanNumber_173 (by decide) ?_
            refine cu_i (rn_Vk (n := 4) (As := [.int 1, .int pa, .int 0, .int 0]) (rest := []) hx hb hml hown ht hKK hFx hP hD hS hA (c_x_X9_add l dC dI cI cB cZ cJ cR tb H.size ad pr N L1 L2 v (1 : Int32) pa (0 : Int32) (0 : Int32) (show 0 ≤ (v.1 0 304).toInt ∧ (v.1 0 304).toInt ≤ 1503 from (om_c99648273b z304))) tw_427 tw_428 (by decide +kernel) rfl rfl ⟨Nat.le_of_ble_eq_true rfl, Nat.le_of_ble_eq_true rfl⟩ (List.range (cW ad pr N cI cR L1 L2 v).length) (rg_map _) (nd_range _) 0 rfl rfl rfl rfl hl.1 rfl (Nat.le_of_ble_eq_true rfl) dX9_scanNumber_174 ⟨Nat.le_of_ble_eq_true rfl, Nat.le_of_ble_eq_true rfl⟩) hP hD hS hA (fun r142 u141 H locs hw140 hP hD hS => ?_)
            obtain ⟨fr140, ex140, i304140, rs140⟩ := hw140
            refine W.widen (k := 0) (n := 0) (Nat.le_refl _) (Nat.le_refl _) ?_
            exact W.iret (v := r142) hx hb hr (fun t ht9 hW => ⟨⟨r142, u141, rfl, ⟨(FC.tr (FC.rf _) (FC.up fr140 (by decide) (by decide))), ⟨z304, z373, r3, ex1, (Or.inr (⟨z88, r91, ex89, (Or.inl ⟨z93, va9, dg, ka, exL81, f1L81, (Or.inr (⟨z129, r132, ex130, r135, ex133, z137, (Or.inl ⟨z139, r142, u141, ex140, ⟨fr140, i304140, rs140⟩, rfl, rfl⟩)⟩))⟩)⟩))⟩, (show 0 ≤ (u141.1 0 304).toInt ∧ (u141.1 0 304).toInt ≤ 1503 from (om_c99648273b i304140)), (RS.tr RS.rf rs140)⟩, by rw [ht9]; exact hP, hD⟩, hS.F ht9⟩) hS.2.2 dX9_scanNumber_177
          · have z143 : dg.toInt ≠ (0 : Int) := ne_z rfl (show (0 : Int32).toInt = (0 : Int) by decide) h138
            refine lv_aload_n hx hb dX9_scanNumber_154 rfl (lv_at hl 7 rfl) ?_
            refine va_get (D := (dC, dI)) (ci := 12) (fs := oF_X9 ad pr v) (v := .ref (pr (v.1 0 300))) (C := RX9) (T := TX9) (N := 10) hx hb ht itX9 hown hK hP 0 rfl rfl 0 (by decide) (ht _ tw_415) (fun _ h9 => h9) rfl dX9_scanNumber_155 ?_
            refine lv_iload hx hb dX9_scanNumber_158 (lv_at hl 0 rfl) ?_
            refine W.eq (g2 := F0 m 160 ls [.int (pa + dg), .ref (ad 908)]) (by rw [show pr (v.1 0 300) = (ad 908) from (by rw [show (v.1 0 300) = ps from es300]; exact hps)]) ?_
            refine cu_i (rn_Vk (n := 1) (As := [.int (pa + dg)]) (rest := []) hx hb hml hown ht hKK hFx hP hD hS hA (c_x_X7_byteAt l dC dI cI cB cZ cJ cR tb H.size ad pr N L1 L2 v (pa + dg) (show 0 ≤ (v.1 0 373).toInt ∧ (v.1 0 373).toInt ≤ 4000 from (om_c74a68af25 z373))) tw_392 tw_417 (by decide +kernel) rfl rfl ⟨Nat.le_of_ble_eq_true rfl, Nat.le_of_ble_eq_true rfl⟩ (List.range (cW ad pr N cI cR L1 L2 v).length) (rg_map _) (nd_range _) 8 rfl rfl rfl rfl hl.1 rfl (Nat.le_of_ble_eq_true rfl) dX9_scanNumber_160 ⟨Nat.le_of_ble_eq_true rfl, Nat.le_of_ble_eq_true rfl⟩) hP hD hS hA (fun r146 u145 H locs hw144 hP hD hS => ?_)
            obtain ⟨rfl, ex144⟩ := hw144
            refine W.widen (k := 0) (n := 0) (Nat.le_refl _) (Nat.le_refl _) ?_
            refine cu_s (nd_range _) (rn_S (n := 1) (As := [.int r146]) (rest := []) hx hb hml hown ht hKK hFx hP hD hS hA (c_x_X9_isNamePart l dC dI cI cB cZ cJ cR tb H.size r146 ) tw_394 tw_418 (by decide +kernel) rfl rfl ⟨Nat.le_of_ble_eq_true rfl, Nat.le_of_ble_eq_true rfl⟩ [] rfl rfl rfl hl.1 rfl (Nat.le_of_ble_eq_true rfl) dX9_scanNumber_163 ⟨Nat.le_of_ble_eq_true rfl, Nat.le_of_ble_eq_true rfl⟩) hP hD hS hA (fun r149 H locs hw147 hP hD hS => ?_)
            obtain ⟨ex147, b147, e147⟩ := hw147
            refine W.widen (k := 0) (n := 0) (Nat.le_refl _) (Nat.le_refl _) ?_
            refine lv_if_eq (tgt := 178) hx hb dX9_scanNumber_166 (by decide) (fun h150 => ?_) (fun h150 => ?_)
            · have z151 : r149.toInt = (0 : Int) := eq_z rfl (show (0 : Int32).toInt = (0 : Int) by decide) h150
              refine lv_iload_n hx hb dX9_scanNumber_178 rfl (lv_at hl 6 rfl) ?_
              refine lv_if_ne (tgt := 195) hx hb dX9_scanNumber_179 (by decide) (fun k152 => absurd k152 (by decide)) (fun _ => ?_)
              refine lv_lload hx hb dX9_scanNumber_182 (lv_at hl 2 rfl) ?_
              refine lv_ldc2 (v := 2147483647) hx hb hown (ht _ tw_431) dX9_scanNumber_184 ?_
              refine W.lcmp hx hb dX9_scanNumber_187 ?_
              refine lv_if_le (tgt := 195) hx hb dX9_scanNumber_188 (by decide) (fun h153 => ?_) (fun h153 => ?_)
              · have z154 : (lg_cmp va9 (2147483647 : Int64)).toInt ≤ (0 : Int) := le_z rfl (show (0 : Int32).toInt = (0 : Int) by decide) h153
                refine lv_iconst (v := 0) hx hb dX9_scanNumber_195 (by decide) ?_
                refine lv_istore (lv' := [(10, .int 0), (9, .int (pa + dg)), (8, .int dg), (6, .long va9), (5, .int pa), (4, .int 10), (3, .int 10), (2, .int 0), (0, .ref (ad 900)), (1, .int pa)]) hx hb dX9_scanNumber_196 hl (by decide) rfl (fun ls hl => ?_)
                refine lv_aload_n hx hb dX9_scanNumber_198 rfl (lv_at hl 8 rfl) ?_
                refine lv_iload hx hb dX9_scanNumber_199 (lv_at hl 0 rfl) ?_
                refine lv_if_eq (tgt := 208) hx hb dX9_scanNumber_201 (by decide) (fun _ => ?_) (fun k155 => absurd k155 (by decide))
                refine lv_iconst (v := 3) hx hb dX9_scanNumber_208 (by decide) ?_
                refine lv_iload_n hx hb dX9_scanNumber_209 rfl (lv_at hl 9 rfl) ?_
                refine lv_lload hx hb dX9_scanNumber_210 (lv_at hl 3 rfl) ?_
                refine lv_l2i hx hb dX9_scanNumber_212 rfl ?_
                refine lv_iload hx hb dX9_scanNumber_213 (lv_at hl 1 rfl) ?_
                refine lv_iload_n hx hb dX9_scanNumber_215 rfl (lv_at hl 9 rfl) ?_
                refine lv_isub hx hb dX9_scanNumber_216 ?_
                refine cu_i (rn_Vk (n := 4) (As := [.int 3, .int pa, .int (va9.toInt32), .int ((pa + dg) - pa)]) (rest := []) hx hb hml hown ht hKK hFx hP hD hS hA (c_x_X9_add l dC dI cI cB cZ cJ cR tb H.size ad pr N L1 L2 v (3 : Int32) pa (va9.toInt32) ((pa + dg) - pa) (show 0 ≤ (v.1 0 304).toInt ∧ (v.1 0 304).toInt ≤ 1503 from (om_c99648273b z304))) tw_427 tw_428 (by decide +kernel) rfl rfl ⟨Nat.le_of_ble_eq_true rfl, Nat.le_of_ble_eq_true rfl⟩ (List.range (cW ad pr N cI cR L1 L2 v).length) (rg_map _) (nd_range _) 0 rfl rfl rfl rfl hl.1 rfl (Nat.le_of_ble_eq_true rfl) dX9_scanNumber_217 ⟨Nat.le_of_ble_eq_true rfl, Nat.le_of_ble_eq_true rfl⟩) hP hD hS hA (fun r158 u157 H locs hw156 hP hD hS => ?_)
                obtain ⟨fr156, ex156, i304156, rs156⟩ := hw156
                refine W.widen (k := 0) (n := 0) (Nat.le_refl _) (Nat.le_refl _) ?_
                exact W.iret (v := r158) hx hb hr (fun t ht9 hW => ⟨⟨r158, u157, rfl, ⟨(FC.tr (FC.rf _) (FC.up fr156 (by decide) (by decide))), ⟨z304, z373, r3, ex1, (Or.inr (⟨z88, r91, ex89, (Or.inl ⟨z93, va9, dg, ka, exL81, f1L81, (Or.inr (⟨z129, r132, ex130, r135, ex133, z137, (Or.inr (⟨z143, r146, ex144, r149, ex147, ⟨b147, e147⟩, (Or.inl ⟨z151, (Or.inl ⟨z154, r158, u157, ex156, ⟨fr156, i304156, rs156⟩, rfl, rfl⟩)⟩)⟩))⟩))⟩)⟩))⟩, (show 0 ≤ (u157.1 0 304).toInt ∧ (u157.1 0 304).toInt ≤ 1503 from (om_c99648273b i304156)), (RS.tr RS.rf rs156)⟩, by rw [ht9]; exact hP, hD⟩, hS.F ht9⟩) hS.2.2 dX9_scanNumber_220
              · have z159 : (0 : Int) < (lg_cmp va9 (2147483647 : Int64)).toInt := nle_z rfl (show (0 : Int32).toInt = (0 : Int) by decide) h153
                refine lv_iconst (v := 1) hx hb dX9_scanNumber_191 (by decide) ?_
                refine lv_goto (tgt := 196) hx hb dX9_scanNumber_192 (by decide) ?_
                refine lv_istore (lv' := [(10, .int 1), (9, .int (pa + dg)), (8, .int dg), (6, .long va9), (5, .int pa), (4, .int 10), (3, .int 10), (2, .int 0), (0, .ref (ad 900)), (1, .int pa)]) hx hb dX9_scanNumber_196 hl (by decide) rfl (fun ls hl => ?_)
                refine lv_aload_n hx hb dX9_scanNumber_198 rfl (lv_at hl 8 rfl) ?_
                refine lv_iload hx hb dX9_scanNumber_199 (lv_at hl 0 rfl) ?_
                refine lv_if_eq (tgt := 208) hx hb dX9_scanNumber_201 (by decide) (fun k160 => absurd k160 (by decide)) (fun _ => ?_)
                refine lv_iconst (v := 4) hx hb dX9_scanNumber_204 (by decide) ?_
                refine lv_goto (tgt := 209) hx hb dX9_scanNumber_205 (by decide) ?_
                refine lv_iload_n hx hb dX9_scanNumber_209 rfl (lv_at hl 9 rfl) ?_
                refine lv_lload hx hb dX9_scanNumber_210 (lv_at hl 3 rfl) ?_
                refine lv_l2i hx hb dX9_scanNumber_212 rfl ?_
                refine lv_iload hx hb dX9_scanNumber_213 (lv_at hl 1 rfl) ?_
                refine lv_iload_n hx hb dX9_scanNumber_215 rfl (lv_at hl 9 rfl) ?_
                refine lv_isub hx hb dX9_scanNumber_216 ?_
                refine cu_i (rn_Vk (n := 4) (As := [.int 4, .int pa, .int (va9.toInt32), .int ((pa + dg) - pa)]) (rest := []) hx hb hml hown ht hKK hFx hP hD hS hA (c_x_X9_add l dC dI cI cB cZ cJ cR tb H.size ad pr N L1 L2 v (4 : Int32) pa (va9.toInt32) ((pa + dg) - pa) (show 0 ≤ (v.1 0 304).toInt ∧ (v.1 0 304).toInt ≤ 1503 from (om_c99648273b z304))) tw_427 tw_428 (by decide +kernel) rfl rfl ⟨Nat.le_of_ble_eq_true rfl, Nat.le_of_ble_eq_true rfl⟩ (List.range (cW ad pr N cI cR L1 L2 v).length) (rg_map _) (nd_range _) 0 rfl rfl rfl rfl hl.1 rfl (Nat.le_of_ble_eq_true rfl) dX9_scanNumber_217 ⟨Nat.le_of_ble_eq_true rfl, Nat.le_of_ble_eq_true rfl⟩) hP hD hS hA (fun r163 u162 H locs hw161 hP hD hS => ?_)
                obtain ⟨fr161, ex161, i304161, rs161⟩ := hw161
                refine W.widen (k := 0) (n := 0) (Nat.le_refl _) (Nat.le_refl _) ?_
                exact W.iret (v := r163) hx hb hr (fun t ht9 hW => ⟨⟨r163, u162, rfl, ⟨(FC.tr (FC.rf _) (FC.up fr161 (by decide) (by decide))), ⟨z304, z373, r3, ex1, (Or.inr (⟨z88, r91, ex89, (Or.inl ⟨z93, va9, dg, ka, exL81, f1L81, (Or.inr (⟨z129, r132, ex130, r135, ex133, z137, (Or.inr (⟨z143, r146, ex144, r149, ex147, ⟨b147, e147⟩, (Or.inl ⟨z151, (Or.inr (⟨z159, r163, u162, ex161, ⟨fr161, i304161, rs161⟩, rfl, rfl⟩))⟩)⟩))⟩))⟩)⟩))⟩, (show 0 ≤ (u162.1 0 304).toInt ∧ (u162.1 0 304).toInt ≤ 1503 from (om_c99648273b i304161)), (RS.tr RS.rf rs161)⟩, by rw [ht9]; exact hP, hD⟩, hS.F ht9⟩) hS.2.2 dX9_scanNumber_220
            · have z164 : r149.toInt ≠ (0 : Int) := ne_z rfl (show (0 : Int32).toInt = (0 : Int) by decide) h150
              refine lv_aload_n hx hb dX9_scanNumber_169 rfl (lv_at hl 7 rfl) ?_
              refine lv_iconst (v := 1) hx hb dX9_scanNumber_170 (by decide) ?_
              refine lv_iload_n hx hb dX9_scanNumber_171 rfl (lv_at hl 8 rfl) ?_
              refine lv_iconst (v := 0) hx hb dX9_scanNumber_172 (by decide) ?_
              refine lv_iconst (v := 0) hx hb dX9_scanNumber_173 (by decide) ?_
              refine cu_i (rn_Vk (n := 4) (As := [.int 1, .int pa, .int 0, .int 0]) (rest := []) hx hb hml hown ht hKK hFx hP hD hS hA (c_x_X9_add l dC dI cI cB cZ cJ cR tb H.size ad pr N L1 L2 v (1 : Int32) pa (0 : Int32) (0 : Int32) (show 0 ≤ (v.1 0 304).toInt ∧ (v.1 0 304).toInt ≤ 1503 from (om_c99648273b z304))) tw_427 tw_428 (by decide +kernel) rfl rfl ⟨Nat.le_of_ble_eq_true rfl, Nat.le_of_ble_eq_true rfl⟩ (List.range (cW ad pr N cI cR L1 L2 v).length) (rg_map _) (nd_range _) 0 rfl rfl rfl rfl hl.1 rfl (Nat.le_of_ble_eq_true rfl) dX9_scanNumber_174 ⟨Nat.le_of_ble_eq_true rfl, Nat.le_of_ble_eq_true rfl⟩) hP hD hS hA (fun r167 u166 H locs hw165 hP hD hS => ?_)
              obtain ⟨fr165, ex165, i304165, rs165⟩ := hw165
              refine W.widen (k := 0) (n := 0) (Nat.le_refl _) (Nat.le_refl _) ?_
              exact W.iret (v := r167) hx hb hr (fun t ht9 hW => ⟨⟨r167, u166, rfl, ⟨(FC.tr (FC.rf _) (FC.up fr165 (by decide) (by decide))), ⟨z304, z373, r3, ex1, (Or.inr (⟨z88, r91, ex89, (Or.inl ⟨z93, va9, dg, ka, exL81, f1L81, (Or.inr (⟨z129, r132, ex130, r135, ex133, z137, (Or.inr (⟨z143, r146, ex144, r149, ex147, ⟨b147, e147⟩, (Or.inr (⟨z164, r167, u166, ex165, ⟨fr165, i304165, rs165⟩, rfl, rfl⟩))⟩))⟩))⟩)⟩))⟩, (show 0 ≤ (u166.1 0 304).toInt ∧ (u166.1 0 304).toInt ≤ 1503 from (om_c99648273b i304165)), (RS.tr RS.rf rs165)⟩, by rw [ht9]; exact hP, hD⟩, hS.F ht9⟩) hS.2.2 dX9_scanNumber_177
        · have z168 : r135.toInt ≠ (-1 : Int) := ne_z rfl (show ((-1) : Int32).toInt = (-1 : Int) by decide) h136
          refine lv_lload hx hb dX9_scanNumber_108 (lv_at hl 2 rfl) ?_
          refine lv_iload_n hx hb dX9_scanNumber_110 rfl (lv_at hl 5 rfl) ?_
          refine lv_i2l (v := 10) hx hb dX9_scanNumber_111 (by decide) ?_
          refine lv_lmul hx hb dX9_scanNumber_112 ?_
          refine lv_aload_n hx hb dX9_scanNumber_113 rfl (lv_at hl 7 rfl) ?_
          refine va_get (D := (dC, dI)) (ci := 12) (fs := oF_X9 ad pr v) (v := .ref (pr (v.1 0 300))) (C := RX9) (T := TX9) (N := 10) hx hb ht itX9 hown hK hP 0 rfl rfl 0 (by decide) (ht _ tw_415) (fun _ h9 => h9) rfl dX9_scanNumber_114 ?_
          refine lv_iload hx hb dX9_scanNumber_117 (lv_at hl 3 rfl) ?_
          refine lv_iload hx hb dX9_scanNumber_119 (lv_at hl 0 rfl) ?_
          refine lv_iadd hx hb dX9_scanNumber_121 ?_
          refine W.eq (g2 := F0 m 122 ls [.int (pa + ka), .ref (ad 908), .long (va9 * 10)]) (by rw [show pr (v.1 0 300) = (ad 908) from (by rw [show (v.1 0 300) = ps from es300]; exact hps)]) ?_
          refine cu_i (rn_Vk (n := 1) (As := [.int (pa + ka)]) (rest := [.long (va9 * 10)]) hx hb hml hown ht hKK hFx hP hD hS hA (c_x_X7_byteAt l dC dI cI cB cZ cJ cR tb H.size ad pr N L1 L2 v (pa + ka) (show 0 ≤ (v.1 0 373).toInt ∧ (v.1 0 373).toInt ≤ 4000 from (om_c74a68af25 z373))) tw_392 tw_417 (by decide +kernel) rfl rfl ⟨Nat.le_of_ble_eq_true rfl, Nat.le_of_ble_eq_true rfl⟩ (List.range (cW ad pr N cI cR L1 L2 v).length) (rg_map _) (nd_range _) 8 rfl rfl rfl rfl hl.1 rfl (Nat.le_of_ble_eq_true rfl) dX9_scanNumber_122 ⟨Nat.le_of_ble_eq_true rfl, Nat.le_of_ble_eq_true rfl⟩) hP hD hS hA (fun r171 u170 H locs hw169 hP hD hS => ?_)
          obtain ⟨rfl, ex169⟩ := hw169
          refine W.widen (k := 0) (n := 0) (Nat.le_refl _) (Nat.le_refl _) ?_
          refine lv_iload_n hx hb dX9_scanNumber_125 rfl (lv_at hl 5 rfl) ?_
          refine cu_s (nd_range _) (rn_S (n := 2) (As := [.int r171, .int 10]) (rest := [.long (va9 * 10)]) hx hb hml hown ht hKK hFx hP hD hS hA (c_x_X9_digitValue l dC dI cI cB cZ cJ cR tb H.size r171 (10 : Int32) ) tw_432 tw_433 (by decide +kernel) rfl rfl ⟨Nat.le_of_ble_eq_true rfl, Nat.le_of_ble_eq_true rfl⟩ [] rfl rfl rfl hl.1 rfl (Nat.le_of_ble_eq_true rfl) dX9_scanNumber_126 ⟨Nat.le_of_ble_eq_true rfl, Nat.le_of_ble_eq_true rfl⟩) hP hD hS hA (fun r174 H locs hw172 hP hD hS => ?_)
          have ex172 := hw172
          refine W.widen (k := 0) (n := 0) (Nat.le_refl _) (Nat.le_refl _) ?_
          refine lv_i2l hx hb dX9_scanNumber_129 rfl ?_
          refine lv_ladd hx hb dX9_scanNumber_130 ?_
          refine lv_lstore (lv' := [(6, .long ((va9 * 10) + (r174).toInt64)), (9, .int ka), (8, .int dg), (5, .int pa), (4, .int 10), (3, .int 10), (2, .int 0), (0, .ref (ad 900)), (1, .int pa)]) hx hb dX9_scanNumber_131 hl (by decide) rfl (fun ls hl => ?_)
          refine lv_iinc (v := (dg + (1 : Int32))) (lv' := [(8, .int (dg + (1 : Int32))), (6, .long ((va9 * 10) + (r174).toInt64)), (9, .int ka), (5, .int pa), (4, .int 10), (3, .int 10), (2, .int 0), (0, .ref (ad 900)), (1, .int pa)]) hx hb dX9_scanNumber_133 hl (k := 2) rfl (rfl) (by decide) rfl (fun ls hl => ?_)
          refine lv_iinc (v := (ka + (1 : Int32))) (lv' := [(9, .int (ka + (1 : Int32))), (8, .int (dg + (1 : Int32))), (6, .long ((va9 * 10) + (r174).toInt64)), (5, .int pa), (4, .int 10), (3, .int 10), (2, .int 0), (0, .ref (ad 900)), (1, .int pa)]) hx hb dX9_scanNumber_136 hl (k := 2) rfl (rfl) (by decide) rfl (fun ls hl => ?_)
          have z175 : (ka + (1 : Int32)).toInt = ka.toInt + (1 : Int) := add_z rfl (show (1 : Int32).toInt = (1 : Int) by decide) (om_d64a792b2e f1L81) (om_ed0744e669 z129)
          refine lv_goto (tgt := 81) hx hb dX9_scanNumber_139 (by decide) ?_
          exact ih81 (((va9 * 10) + (r174).toInt64), (dg + (1 : Int32)), (ka + (1 : Int32))) _ _ _ (show (10 - (ka + (1 : Int32)).toInt).toNat < (10 - ka.toInt).toNat from tn_z (om_5588f1b84f z175) (om_d8b33ba26b z129)) ⟨(show 0 ≤ (ka + (1 : Int32)).toInt from (om_d99f09c756 f1L81 z175)), (RT.st exL81 ⟨f1L81, z129, r132, ex130, r135, ex133, z168, r171, ex169, r174, ex172, rfl⟩), hP, hD, hS, lv_sub hl [0, 1, 2, 3, 4, 5, 6, 7, 8] rfl⟩
    · have z176 : r91.toInt = (120 : Int) := eq_z rfl (show (120 : Int32).toInt = (120 : Int) by decide) h92
      refine lv_iconst (v := 1) hx hb dX9_scanNumber_28 (by decide) ?_
      refine lv_goto (tgt := 33) hx hb dX9_scanNumber_29 (by decide) ?_
      refine lv_istore_n (lv' := [(2, .int 1), (0, .ref (ad 900)), (1, .int pa)]) hx hb dX9_scanNumber_33 rfl hl (by decide) rfl (fun ls hl => ?_)
      refine lv_iload_n hx hb dX9_scanNumber_34 rfl (lv_at hl 0 rfl) ?_
      refine lv_if_eq (tgt := 43) hx hb dX9_scanNumber_35 (by decide) (fun k177 => absurd k177 (by decide)) (fun _ => ?_)
      refine lv_bipush (v := 16) hx hb dX9_scanNumber_38 (by decide) ?_
      refine lv_goto (tgt := 45) hx hb dX9_scanNumber_40 (by decide) ?_
      refine lv_istore_n (lv' := [(3, .int 16), (2, .int 1), (0, .ref (ad 900)), (1, .int pa)]) hx hb dX9_scanNumber_45 rfl hl (by decide) rfl (fun ls hl => ?_)
      refine lv_iload_n hx hb dX9_scanNumber_46 rfl (lv_at hl 1 rfl) ?_
      refine lv_if_eq (tgt := 55) hx hb dX9_scanNumber_47 (by decide) (fun k178 => absurd k178 (by decide)) (fun _ => ?_)
      refine lv_bipush (v := 8) hx hb dX9_scanNumber_50 (by decide) ?_
      refine lv_goto (tgt := 57) hx hb dX9_scanNumber_52 (by decide) ?_
      refine lv_istore (lv' := [(4, .int 8), (3, .int 16), (2, .int 1), (0, .ref (ad 900)), (1, .int pa)]) hx hb dX9_scanNumber_57 hl (by decide) rfl (fun ls hl => ?_)
      refine lv_iload_n hx hb dX9_scanNumber_59 rfl (lv_at hl 2 rfl) ?_
      refine lv_if_eq (tgt := 69) hx hb dX9_scanNumber_60 (by decide) (fun k179 => absurd k179 (by decide)) (fun _ => ?_)
      refine lv_iload_n hx hb dX9_scanNumber_63 rfl (lv_at hl 4 rfl) ?_
      refine lv_iconst (v := 2) hx hb dX9_scanNumber_64 (by decide) ?_
      refine lv_iadd hx hb dX9_scanNumber_65 ?_
      refine lv_goto (tgt := 70) hx hb dX9_scanNumber_66 (by decide) ?_
      refine lv_istore (lv' := [(5, .int (pa + (2 : Int32))), (4, .int 8), (3, .int 16), (2, .int 1), (0, .ref (ad 900)), (1, .int pa)]) hx hb dX9_scanNumber_70 hl (by decide) rfl (fun ls hl => ?_)
      refine lv_lconst (v := 0) hx hb dX9_scanNumber_72 (by decide) ?_
      refine lv_lstore (lv' := [(6, .long 0), (5, .int (pa + (2 : Int32))), (4, .int 8), (3, .int 16), (2, .int 1), (0, .ref (ad 900)), (1, .int pa)]) hx hb dX9_scanNumber_73 hl (by decide) rfl (fun ls hl => ?_)
      refine lv_iconst (v := 0) hx hb dX9_scanNumber_75 (by decide) ?_
      refine lv_istore (lv' := [(8, .int 0), (6, .long 0), (5, .int (pa + (2 : Int32))), (4, .int 8), (3, .int 16), (2, .int 1), (0, .ref (ad 900)), (1, .int pa)]) hx hb dX9_scanNumber_76 hl (by decide) rfl (fun ls hl => ?_)
      refine lv_iconst (v := 0) hx hb dX9_scanNumber_78 (by decide) ?_
      refine lv_istore (lv' := [(9, .int 0), (8, .int 0), (6, .long 0), (5, .int (pa + (2 : Int32))), (4, .int 8), (3, .int 16), (2, .int 1), (0, .ref (ad 900)), (1, .int pa)]) hx hb dX9_scanNumber_79 hl (by decide) rfl (fun ls hl => ?_)
      refine lpm_ (X := Int64 × Int32 × Int32) (P := (fun (x9 : Int64 × Int32 × Int32) (H : Heap) (locs : List Loc) (ls : Array Slot) => (0 ≤ x9.2.2.toInt) ∧ (RT (Q_x_X9_scanNumber_L2 L1 L2 v pa) (0, 0, 0) (x9.1, x9.2.1, x9.2.2)) ∧ va_P (dC, dI) vwCl (cW ad pr N cI cR L1 L2 v) H ∧ va_D A (cW ad pr N cI cR L1 L2 v) ∧ va_S A s.heap H locs ∧ lv_has ls 11 [(9, .int x9.2.2), (8, .int x9.2.1), (6, .long x9.1), (5, .int (pa + (2 : Int32))), (4, .int 8), (3, .int 16), (2, .int 1), (0, .ref (ad 900)), (1, .int pa)])) (fun x9 => (10 - x9.2.2.toInt).toNat) 81 (fun x9 H locs ls hh ih81 => ?_) (0, 0, 0) _ _ _ ⟨(show 0 ≤ (0 : Int) from om_342087eeda), RT.rf, hP, hD, hS, lv_sub hl [0, 1, 2, 3, 4, 5, 6, 7, 8] rfl⟩
      obtain ⟨va9, dg, ka⟩ := x9
      obtain ⟨f1L81, exL81, hP, hD, hS, hl⟩ := hh
      have f1L81 : 0 ≤ ka.toInt := f1L81
      have hl : lv_has ls 11 [(9, .int ka), (8, .int dg), (6, .long va9), (5, .int (pa + (2 : Int32))), (4, .int 8), (3, .int 16), (2, .int 1), (0, .ref (ad 900)), (1, .int pa)] := hl
      refine lv_iload hx hb dX9_scanNumber_81 (lv_at hl 0 rfl) ?_
      refine lv_iload hx hb dX9_scanNumber_83 (lv_at hl 4 rfl) ?_
      refine lv_icmp_ge (tgt := 142) hx hb dX9_scanNumber_85 (by decide) (fun h180 => ?_) (fun h180 => ?_)
      · have z181 : (8 : Int) ≤ ka.toInt := le_z (show (8 : Int32).toInt = (8 : Int) by decide) rfl h180
        refine lv_iload hx hb dX9_scanNumber_142 (lv_at hl 3 rfl) ?_
        refine lv_iload hx hb dX9_scanNumber_144 (lv_at hl 1 rfl) ?_
        refine lv_iadd hx hb dX9_scanNumber_146 ?_
        refine lv_istore (lv' := [(9, .int ((pa + (2 : Int32)) + dg)), (8, .int dg), (6, .long va9), (5, .int (pa + (2 : Int32))), (4, .int 8), (3, .int 16), (2, .int 1), (0, .ref (ad 900)), (1, .int pa)]) hx hb dX9_scanNumber_147 hl (by decide) rfl (fun ls hl => ?_)
        refine lv_iload hx hb dX9_scanNumber_149 (lv_at hl 1 rfl) ?_
        refine lv_if_eq (tgt := 169) hx hb dX9_scanNumber_151 (by decide) (fun h182 => ?_) (fun h182 => ?_)
        · have z183 : dg.toInt = (0 : Int) := eq_z rfl (show (0 : Int32).toInt = (0 : Int) by decide) h182
          refine lv_aload_n hx hb dX9_scanNumber_169 rfl (lv_at hl 7 rfl) ?_
          refine lv_iconst (v := 1) hx hb dX9_scanNumber_170 (by decide) ?_
          refine lv_iload_n hx hb dX9_scanNumber_171 rfl (lv_at hl 8 rfl) ?_
          refine lv_iconst (v := 0) hx hb dX9_scanNumber_172 (by decide) ?_
          refine lv_iconst (v := 0) hx hb dX9_scanNumber_173 (by decide) ?_
          refine cu_i (rn_Vk (n := 4) (As := [.int 1, .int pa, .int 0, .int 0]) (rest := []) hx hb hml hown ht hKK hFx hP hD hS hA (c_x_X9_add l dC dI cI cB cZ cJ cR tb H.size ad pr N L1 L2 v (1 : Int32) pa (0 : Int32) (0 : Int32) (show 0 ≤ (v.1 0 304).toInt ∧ (v.1 0 304).toInt ≤ 1503 from (om_c99648273b z304))) tw_427 tw_428 (by decide +kernel) rfl rfl ⟨Nat.le_of_ble_eq_true rfl, Nat.le_of_ble_eq_true rfl⟩ (List.range (cW ad pr N cI cR L1 L2 v).length) (rg_map _) (nd_range _) 0 rfl rfl rfl rfl hl.1 rfl (Nat.le_of_ble_eq_true rfl) dX9_scanNumber_174 ⟨Nat.le_of_ble_eq_true rfl, Nat.le_of_ble_eq_true rfl⟩) hP hD hS hA (fun r186 u185 H locs hw184 hP hD hS => ?_)
          obtain ⟨fr184, ex184, i304184, rs184⟩ := hw184
          refine W.widen (k := 0) (n := 0) (Nat.le_refl _) (Nat.le_refl _) ?_
          exact W.iret (v := r186) hx hb hr (fun t ht9 hW => ⟨⟨r186, u185, rfl, ⟨(FC.tr (FC.rf _) (FC.up fr184 (by decide) (by decide))), ⟨z304, z373, r3, ex1, (Or.inr (⟨z88, r91, ex89, (Or.inr (⟨z176, va9, dg, ka, exL81, f1L81, (Or.inl ⟨z181, (Or.inl ⟨z183, r186, u185, ex184, ⟨fr184, i304184, rs184⟩, rfl, rfl⟩)⟩)⟩))⟩))⟩, (show 0 ≤ (u185.1 0 304).toInt ∧ (u185.1 0 304).toInt ≤ 1503 from (om_c99648273b i304184)), (RS.tr RS.rf rs184)⟩, by rw [ht9]; exact hP, hD⟩, hS.F ht9⟩) hS.2.2 dX9_scanNumber_177
        · have z187 : dg.toInt ≠ (0 : Int) := ne_z rfl (show (0 : Int32).toInt = (0 : Int) by decide) h182
          refine lv_aload_n hx hb dX9_scanNumber_154 rfl (lv_at hl 7 rfl) ?_
          refine va_get (D := (dC, dI)) (ci := 12) (fs := oF_X9 ad pr v) (v := .ref (pr (v.1 0 300))) (C := RX9) (T := TX9) (N := 10) hx hb ht itX9 hown hK hP 0 rfl rfl 0 (by decide) (ht _ tw_415) (fun _ h9 => h9) rfl dX9_scanNumber_155 ?_
          refine lv_iload hx hb dX9_scanNumber_158 (lv_at hl 0 rfl) ?_
          refine W.eq (g2 := F0 m 160 ls [.int ((pa + (2 : Int32)) + dg), .ref (ad 908)]) (by rw [show pr (v.1 0 300) = (ad 908) from (by rw [show (v.1 0 300) = ps from es300]; exact hps)]) ?_
          refine cu_i (rn_Vk (n := 1) (As := [.int ((pa + (2 : Int32)) + dg)]) (rest := []) hx hb hml hown ht hKK hFx hP hD hS hA (c_x_X7_byteAt l dC dI cI cB cZ cJ cR tb H.size ad pr N L1 L2 v ((pa + (2 : Int32)) + dg) (show 0 ≤ (v.1 0 373).toInt ∧ (v.1 0 373).toInt ≤ 4000 from (om_c74a68af25 z373))) tw_392 tw_417 (by decide +kernel) rfl rfl ⟨Nat.le_of_ble_eq_true rfl, Nat.le_of_ble_eq_true rfl⟩ (List.range (cW ad pr N cI cR L1 L2 v).length) (rg_map _) (nd_range _) 8 rfl rfl rfl rfl hl.1 rfl (Nat.le_of_ble_eq_true rfl) dX9_scanNumber_160 ⟨Nat.le_of_ble_eq_true rfl, Nat.le_of_ble_eq_true rfl⟩) hP hD hS hA (fun r190 u189 H locs hw188 hP hD hS => ?_)
          obtain ⟨rfl, ex188⟩ := hw188
          refine W.widen (k := 0) (n := 0) (Nat.le_refl _) (Nat.le_refl _) ?_
          refine cu_s (nd_range _) (rn_S (n := 1) (As := [.int r190]) (rest := []) hx hb hml hown ht hKK hFx hP hD hS hA (c_x_X9_isNamePart l dC dI cI cB cZ cJ cR tb H.size r190 ) tw_394 tw_418 (by decide +kernel) rfl rfl ⟨Nat.le_of_ble_eq_true rfl, Nat.le_of_ble_eq_true rfl⟩ [] rfl rfl rfl hl.1 rfl (Nat.le_of_ble_eq_true rfl) dX9_scanNumber_163 ⟨Nat.le_of_ble_eq_true rfl, Nat.le_of_ble_eq_true rfl⟩) hP hD hS hA (fun r193 H locs hw191 hP hD hS => ?_)
          obtain ⟨ex191, b191, e191⟩ := hw191
          refine W.widen (k := 0) (n := 0) (Nat.le_refl _) (Nat.le_refl _) ?_
          refine lv_if_eq (tgt := 178) hx hb dX9_scanNumber_166 (by decide) (fun h194 => ?_) (fun h194 => ?_)
          · have z195 : r193.toInt = (0 : Int) := eq_z rfl (show (0 : Int32).toInt = (0 : Int) by decide) h194
            refine lv_iload_n hx hb dX9_scanNumber_178 rfl (lv_at hl 6 rfl) ?_
            refine lv_if_ne (tgt := 195) hx hb dX9_scanNumber_179 (by decide) (fun _ => ?_) (fun k196 => absurd k196 (by decide))
            refine lv_iconst (v := 0) hx hb dX9_scanNumber_195 (by decide) ?_
            refine lv_istore (lv' := [(10, .int 0), (9, .int ((pa + (2 : Int32)) + dg)), (8, .int dg), (6, .long va9), (5, .int (pa + (2 : Int32))), (4, .int 8), (3, .int 16), (2, .int 1), (0, .ref (ad 900)), (1, .int pa)]) hx hb dX9_scanNumber_196 hl (by decide) rfl (fun ls hl => ?_)
            refine lv_aload_n hx hb dX9_scanNumber_198 rfl (lv_at hl 8 rfl) ?_
            refine lv_iload hx hb dX9_scanNumber_199 (lv_at hl 0 rfl) ?_
            refine lv_if_eq (tgt := 208) hx hb dX9_scanNumber_201 (by decide) (fun _ => ?_) (fun k197 => absurd k197 (by decide))
            refine lv_iconst (v := 3) hx hb dX9_scanNumber_208 (by decide) ?_
            refine lv_iload_n hx hb dX9_scanNumber_209 rfl (lv_at hl 9 rfl) ?_
            refine lv_lload hx hb dX9_scanNumber_210 (lv_at hl 3 rfl) ?_
            refine lv_l2i hx hb dX9_scanNumber_212 rfl ?_
            refine lv_iload hx hb dX9_scanNumber_213 (lv_at hl 1 rfl) ?_
            refine lv_iload_n hx hb dX9_scanNumber_215 rfl (lv_at hl 9 rfl) ?_
            refine lv_isub hx hb dX9_scanNumber_216 ?_
            refine cu_i (rn_Vk (n := 4) (As := [.int 3, .int pa, .int (va9.toInt32), .int (((pa + (2 : Int32)) + dg) - pa)]) (rest := []) hx hb hml hown ht hKK hFx hP hD hS hA (c_x_X9_add l dC dI cI cB cZ cJ cR tb H.size ad pr N L1 L2 v (3 : Int32) pa (va9.toInt32) (((pa + (2 : Int32)) + dg) - pa) (show 0 ≤ (v.1 0 304).toInt ∧ (v.1 0 304).toInt ≤ 1503 from (om_c99648273b z304))) tw_427 tw_428 (by decide +kernel) rfl rfl ⟨Nat.le_of_ble_eq_true rfl, Nat.le_of_ble_eq_true rfl⟩ (List.range (cW ad pr N cI cR L1 L2 v).length) (rg_map _) (nd_range _) 0 rfl rfl rfl rfl hl.1 rfl (Nat.le_of_ble_eq_true rfl) dX9_scanNumber_217 ⟨Nat.le_of_ble_eq_true rfl, Nat.le_of_ble_eq_true rfl⟩) hP hD hS hA (fun r200 u199 H locs hw198 hP hD hS => ?_)
            obtain ⟨fr198, ex198, i304198, rs198⟩ := hw198
            refine W.widen (k := 0) (n := 0) (Nat.le_refl _) (Nat.le_refl _) ?_
            exact W.iret (v := r200) hx hb hr (fun t ht9 hW => ⟨⟨r200, u199, rfl, ⟨(FC.tr (FC.rf _) (FC.up fr198 (by decide) (by decide))), ⟨z304, z373, r3, ex1, (Or.inr (⟨z88, r91, ex89, (Or.inr (⟨z176, va9, dg, ka, exL81, f1L81, (Or.inl ⟨z181, (Or.inr (⟨z187, r190, ex188, r193, ex191, ⟨b191, e191⟩, (Or.inl ⟨z195, r200, u199, ex198, ⟨fr198, i304198, rs198⟩, rfl, rfl⟩)⟩))⟩)⟩))⟩))⟩, (show 0 ≤ (u199.1 0 304).toInt ∧ (u199.1 0 304).toInt ≤ 1503 from (om_c99648273b i304198)), (RS.tr RS.rf rs198)⟩, by rw [ht9]; exact hP, hD⟩, hS.F ht9⟩) hS.2.2 dX9_scanNumber_220
          · have z201 : r193.toInt ≠ (0 : Int) := ne_z rfl (show (0 : Int32).toInt = (0 : Int) by decide) h194
            refine lv_aload_n hx hb dX9_scanNumber_169 rfl (lv_at hl 7 rfl) ?_
            refine lv_iconst (v := 1) hx hb dX9_scanNumber_170 (by decide) ?_
            refine lv_iload_n hx hb dX9_scanNumber_171 rfl (lv_at hl 8 rfl) ?_
            refine lv_iconst (v := 0) hx hb dX9_scanNumber_172 (by decide) ?_
            refine lv_iconst (v := 0) hx hb dX9_scanNumber_173 (by decide) ?_
            refine cu_i (rn_Vk (n := 4) (As := [.int 1, .int pa, .int 0, .int 0]) (rest := []) hx hb hml hown ht hKK hFx hP hD hS hA (c_x_X9_add l dC dI cI cB cZ cJ cR tb H.size ad pr N L1 L2 v (1 : Int32) pa (0 : Int32) (0 : Int32) (show 0 ≤ (v.1 0 304).toInt ∧ (v.1 0 304).toInt ≤ 1503 from (om_c99648273b z304))) tw_427 tw_428 (by decide +kernel) rfl rfl ⟨Nat.le_of_ble_eq_true rfl, Nat.le_of_ble_eq_true rfl⟩ (List.range (cW ad pr N cI cR L1 L2 v).length) (rg_map _) (nd_range _) 0 rfl rfl rfl rfl hl.1 rfl (Nat.le_of_ble_eq_true rfl) dX9_scanNumber_174 ⟨Nat.le_of_ble_eq_true rfl, Nat.le_of_ble_eq_true rfl⟩) hP hD hS hA (fun r204 u203 H locs hw202 hP hD hS => ?_)
            obtain ⟨fr202, ex202, i304202, rs202⟩ := hw202
            refine W.widen (k := 0) (n := 0) (Nat.le_refl _) (Nat.le_refl _) ?_
            exact W.iret (v := r204) hx hb hr (fun t ht9 hW => ⟨⟨r204, u203, rfl, ⟨(FC.tr (FC.rf _) (FC.up fr202 (by decide) (by decide))), ⟨z304, z373, r3, ex1, (Or.inr (⟨z88, r91, ex89, (Or.inr (⟨z176, va9, dg, ka, exL81, f1L81, (Or.inl ⟨z181, (Or.inr (⟨z187, r190, ex188, r193, ex191, ⟨b191, e191⟩, (Or.inr (⟨z201, r204, u203, ex202, ⟨fr202, i304202, rs202⟩, rfl, rfl⟩))⟩))⟩)⟩))⟩))⟩, (show 0 ≤ (u203.1 0 304).toInt ∧ (u203.1 0 304).toInt ≤ 1503 from (om_c99648273b i304202)), (RS.tr RS.rf rs202)⟩, by rw [ht9]; exact hP, hD⟩, hS.F ht9⟩) hS.2.2 dX9_scanNumber_177
      · have z205 : ka.toInt < (8 : Int) := nle_z (show (8 : Int32).toInt = (8 : Int) by decide) rfl h180
        refine lv_aload_n hx hb dX9_scanNumber_88 rfl (lv_at hl 7 rfl) ?_
        refine va_get (D := (dC, dI)) (ci := 12) (fs := oF_X9 ad pr v) (v := .ref (pr (v.1 0 300))) (C := RX9) (T := TX9) (N := 10) hx hb ht itX9 hown hK hP 0 rfl rfl 0 (by decide) (ht _ tw_415) (fun _ h9 => h9) rfl dX9_scanNumber_89 ?_
        refine lv_iload hx hb dX9_scanNumber_92 (lv_at hl 3 rfl) ?_
        refine lv_iload hx hb dX9_scanNumber_94 (lv_at hl 0 rfl) ?_
        refine lv_iadd hx hb dX9_scanNumber_96 ?_
        refine W.eq (g2 := F0 m 97 ls [.int ((pa + (2 : Int32)) + ka), .ref (ad 908)]) (by rw [show pr (v.1 0 300) = (ad 908) from (by rw [show (v.1 0 300) = ps from es300]; exact hps)]) ?_
        refine cu_i (rn_Vk (n := 1) (As := [.int ((pa + (2 : Int32)) + ka)]) (rest := []) hx hb hml hown ht hKK hFx hP hD hS hA (c_x_X7_byteAt l dC dI cI cB cZ cJ cR tb H.size ad pr N L1 L2 v ((pa + (2 : Int32)) + ka) (show 0 ≤ (v.1 0 373).toInt ∧ (v.1 0 373).toInt ≤ 4000 from (om_c74a68af25 z373))) tw_392 tw_417 (by decide +kernel) rfl rfl ⟨Nat.le_of_ble_eq_true rfl, Nat.le_of_ble_eq_true rfl⟩ (List.range (cW ad pr N cI cR L1 L2 v).length) (rg_map _) (nd_range _) 8 rfl rfl rfl rfl hl.1 rfl (Nat.le_of_ble_eq_true rfl) dX9_scanNumber_97 ⟨Nat.le_of_ble_eq_true rfl, Nat.le_of_ble_eq_true rfl⟩) hP hD hS hA (fun r208 u207 H locs hw206 hP hD hS => ?_)
        obtain ⟨rfl, ex206⟩ := hw206
        refine W.widen (k := 0) (n := 0) (Nat.le_refl _) (Nat.le_refl _) ?_
        refine lv_iload_n hx hb dX9_scanNumber_100 rfl (lv_at hl 5 rfl) ?_
        refine cu_s (nd_range _) (rn_S (n := 2) (As := [.int r208, .int 16]) (rest := []) hx hb hml hown ht hKK hFx hP hD hS hA (c_x_X9_digitValue l dC dI cI cB cZ cJ cR tb H.size r208 (16 : Int32) ) tw_432 tw_433 (by decide +kernel) rfl rfl ⟨Nat.le_of_ble_eq_true rfl, Nat.le_of_ble_eq_true rfl⟩ [] rfl rfl rfl hl.1 rfl (Nat.le_of_ble_eq_true rfl) dX9_scanNumber_101 ⟨Nat.le_of_ble_eq_true rfl, Nat.le_of_ble_eq_true rfl⟩) hP hD hS hA (fun r211 H locs hw209 hP hD hS => ?_)
        have ex209 := hw209
        refine W.widen (k := 0) (n := 0) (Nat.le_refl _) (Nat.le_refl _) ?_
        refine lv_iconst (v := -1) hx hb dX9_scanNumber_104 (by decide) ?_
        refine lv_icmp_eq (tgt := 142) hx hb dX9_scanNumber_105 (by decide) (fun h212 => ?_) (fun h212 => ?_)
        · have z213 : r211.toInt = (-1 : Int) := eq_z rfl (show ((-1) : Int32).toInt = (-1 : Int) by decide) h212
          refine lv_iload hx hb dX9_scanNumber_142 (lv_at hl 3 rfl) ?_
          refine lv_iload hx hb dX9_scanNumber_144 (lv_at hl 1 rfl) ?_
          refine lv_iadd hx hb dX9_scanNumber_146 ?_
          refine lv_istore (lv' := [(9, .int ((pa + (2 : Int32)) + dg)), (8, .int dg), (6, .long va9), (5, .int (pa + (2 : Int32))), (4, .int 8), (3, .int 16), (2, .int 1), (0, .ref (ad 900)), (1, .int pa)]) hx hb dX9_scanNumber_147 hl (by decide) rfl (fun ls hl => ?_)
          refine lv_iload hx hb dX9_scanNumber_149 (lv_at hl 1 rfl) ?_
          refine lv_if_eq (tgt := 169) hx hb dX9_scanNumber_151 (by decide) (fun h214 => ?_) (fun h214 => ?_)
          · have z215 : dg.toInt = (0 : Int) := eq_z rfl (show (0 : Int32).toInt = (0 : Int) by decide) h214
            refine lv_aload_n hx hb dX9_scanNumber_169 rfl (lv_at hl 7 rfl) ?_
            refine lv_iconst (v := 1) hx hb dX9_scanNumber_170 (by decide) ?_
            refine lv_iload_n hx hb dX9_scanNumber_171 rfl (lv_at hl 8 rfl) ?_
            refine lv_iconst (v := 0) hx hb dX9_scanNumber_172 (by decide) ?_
            refine lv_iconst (v := 0) hx hb dX9_scanNumber_173 (by decide) ?_
            refine cu_i (rn_Vk (n := 4) (As := [.int 1, .int pa, .int 0, .int 0]) (rest := []) hx hb hml hown ht hKK hFx hP hD hS hA (c_x_X9_add l dC dI cI cB cZ cJ cR tb H.size ad pr N L1 L2 v (1 : Int32) pa (0 : Int32) (0 : Int32) (show 0 ≤ (v.1 0 304).toInt ∧ (v.1 0 304).toInt ≤ 1503 from (om_c99648273b z304))) tw_427 tw_428 (by decide +kernel) rfl rfl ⟨Nat.le_of_ble_eq_true rfl, Nat.le_of_ble_eq_true rfl⟩ (List.range (cW ad pr N cI cR L1 L2 v).length) (rg_map _) (nd_range _) 0 rfl rfl rfl rfl hl.1 rfl (Nat.le_of_ble_eq_true rfl) dX9_scanNumber_174 ⟨Nat.le_of_ble_eq_true rfl, Nat.le_of_ble_eq_true rfl⟩) hP hD hS hA (fun r218 u217 H locs hw216 hP hD hS => ?_)
            obtain ⟨fr216, ex216, i304216, rs216⟩ := hw216
            refine W.widen (k := 0) (n := 0) (Nat.le_refl _) (Nat.le_refl _) ?_
            exact W.iret (v := r218) hx hb hr (fun t ht9 hW => ⟨⟨r218, u217, rfl, ⟨(FC.tr (FC.rf _) (FC.up fr216 (by decide) (by decide))), ⟨z304, z373, r3, ex1, (Or.inr (⟨z88, r91, ex89, (Or.inr (⟨z176, va9, dg, ka, exL81, f1L81, (Or.inr (⟨z205, r208, ex206, r211, ex209, z213, (Or.inl ⟨z215, r218, u217, ex216, ⟨fr216, i304216, rs216⟩, rfl, rfl⟩)⟩))⟩))⟩))⟩, (show 0 ≤ (u217.1 0 304).toInt ∧ (u217.1 0 304).toInt ≤ 1503 from (om_c99648273b i304216)), (RS.tr RS.rf rs216)⟩, by rw [ht9]; exact hP, hD⟩, hS.F ht9⟩) hS.2.2 dX9_scanNumber_177
          · have z219 : dg.toInt ≠ (0 : Int) := ne_z rfl (show (0 : Int32).toInt = (0 : Int) by decide) h214
            refine lv_aload_n hx hb dX9_scanNumber_154 rfl (lv_at hl 7 rfl) ?_
            refine va_get (D := (dC, dI)) (ci := 12) (fs := oF_X9 ad pr v) (v := .ref (pr (v.1 0 300))) (C := RX9) (T := TX9) (N := 10) hx hb ht itX9 hown hK hP 0 rfl rfl 0 (by decide) (ht _ tw_415) (fun _ h9 => h9) rfl dX9_scanNumber_155 ?_
            refine lv_iload hx hb dX9_scanNumber_158 (lv_at hl 0 rfl) ?_
            refine W.eq (g2 := F0 m 160 ls [.int ((pa + (2 : Int32)) + dg), .ref (ad 908)]) (by rw [show pr (v.1 0 300) = (ad 908) from (by rw [show (v.1 0 300) = ps from es300]; exact hps)]) ?_
            refine cu_i (rn_Vk (n := 1) (As := [.int ((pa + (2 : Int32)) + dg)]) (rest := []) hx hb hml hown ht hKK hFx hP hD hS hA (c_x_X7_byteAt l dC dI cI cB cZ cJ cR tb H.size ad pr N L1 L2 v ((pa + (2 : Int32)) + dg) (show 0 ≤ (v.1 0 373).toInt ∧ (v.1 0 373).toInt ≤ 4000 from (om_c74a68af25 z373))) tw_392 tw_417 (by decide +kernel) rfl rfl ⟨Nat.le_of_ble_eq_true rfl, Nat.le_of_ble_eq_true rfl⟩ (List.range (cW ad pr N cI cR L1 L2 v).length) (rg_map _) (nd_range _) 8 rfl rfl rfl rfl hl.1 rfl (Nat.le_of_ble_eq_true rfl) dX9_scanNumber_160 ⟨Nat.le_of_ble_eq_true rfl, Nat.le_of_ble_eq_true rfl⟩) hP hD hS hA (fun r222 u221 H locs hw220 hP hD hS => ?_)
            obtain ⟨rfl, ex220⟩ := hw220
            refine W.widen (k := 0) (n := 0) (Nat.le_refl _) (Nat.le_refl _) ?_
            refine cu_s (nd_range _) (rn_S (n := 1) (As := [.int r222]) (rest := []) hx hb hml hown ht hKK hFx hP hD hS hA (c_x_X9_isNamePart l dC dI cI cB cZ cJ cR tb H.size r222 ) tw_394 tw_418 (by decide +kernel) rfl rfl ⟨Nat.le_of_ble_eq_true rfl, Nat.le_of_ble_eq_true rfl⟩ [] rfl rfl rfl hl.1 rfl (Nat.le_of_ble_eq_true rfl) dX9_scanNumber_163 ⟨Nat.le_of_ble_eq_true rfl, Nat.le_of_ble_eq_true rfl⟩) hP hD hS hA (fun r225 H locs hw223 hP hD hS => ?_)
            obtain ⟨ex223, b223, e223⟩ := hw223
            refine W.widen (k := 0) (n := 0) (Nat.le_refl _) (Nat.le_refl _) ?_
            refine lv_if_eq (tgt := 178) hx hb dX9_scanNumber_166 (by decide) (fun h226 => ?_) (fun h226 => ?_)
            · have z227 : r225.toInt = (0 : Int) := eq_z rfl (show (0 : Int32).toInt = (0 : Int) by decide) h226
              refine lv_iload_n hx hb dX9_scanNumber_178 rfl (lv_at hl 6 rfl) ?_
              refine lv_if_ne (tgt := 195) hx hb dX9_scanNumber_179 (by decide) (fun _ => ?_) (fun k228 => absurd k228 (by decide))
              refine lv_iconst (v := 0) hx hb dX9_scanNumber_195 (by decide) ?_
              refine lv_istore (lv' := [(10, .int 0), (9, .int ((pa + (2 : Int32)) + dg)), (8, .int dg), (6, .long va9), (5, .int (pa + (2 : Int32))), (4, .int 8), (3, .int 16), (2, .int 1), (0, .ref (ad 900)), (1, .int pa)]) hx hb dX9_scanNumber_196 hl (by decide) rfl (fun ls hl => ?_)
              refine lv_aload_n hx hb dX9_scanNumber_198 rfl (lv_at hl 8 rfl) ?_
              refine lv_iload hx hb dX9_scanNumber_199 (lv_at hl 0 rfl) ?_
              refine lv_if_eq (tgt := 208) hx hb dX9_scanNumber_201 (by decide) (fun _ => ?_) (fun k229 => absurd k229 (by decide))
              refine lv_iconst (v := 3) hx hb dX9_scanNumber_208 (by decide) ?_
              refine lv_iload_n hx hb dX9_scanNumber_209 rfl (lv_at hl 9 rfl) ?_
              refine lv_lload hx hb dX9_scanNumber_210 (lv_at hl 3 rfl) ?_
              refine lv_l2i hx hb dX9_scanNumber_212 rfl ?_
              refine lv_iload hx hb dX9_scanNumber_213 (lv_at hl 1 rfl) ?_
              refine lv_iload_n hx hb dX9_scanNumber_215 rfl (lv_at hl 9 rfl) ?_
              refine lv_isub hx hb dX9_scanNumber_216 ?_
              refine cu_i (rn_Vk (n := 4) (As := [.int 3, .int pa, .int (va9.toInt32), .int (((pa + (2 : Int32)) + dg) - pa)]) (rest := []) hx hb hml hown ht hKK hFx hP hD hS hA (c_x_X9_add l dC dI cI cB cZ cJ cR tb H.size ad pr N L1 L2 v (3 : Int32) pa (va9.toInt32) (((pa + (2 : Int32)) + dg) - pa) (show 0 ≤ (v.1 0 304).toInt ∧ (v.1 0 304).toInt ≤ 1503 from (om_c99648273b z304))) tw_427 tw_428 (by decide +kernel) rfl rfl ⟨Nat.le_of_ble_eq_true rfl, Nat.le_of_ble_eq_true rfl⟩ (List.range (cW ad pr N cI cR L1 L2 v).length) (rg_map _) (nd_range _) 0 rfl rfl rfl rfl hl.1 rfl (Nat.le_of_ble_eq_true rfl) dX9_scanNumber_217 ⟨Nat.le_of_ble_eq_true rfl, Nat.le_of_ble_eq_true rfl⟩) hP hD hS hA (fun r232 u231 H locs hw230 hP hD hS => ?_)
              obtain ⟨fr230, ex230, i304230, rs230⟩ := hw230
              refine W.widen (k := 0) (n := 0) (Nat.le_refl _) (Nat.le_refl _) ?_
              exact W.iret (v := r232) hx hb hr (fun t ht9 hW => ⟨⟨r232, u231, rfl, ⟨(FC.tr (FC.rf _) (FC.up fr230 (by decide) (by decide))), ⟨z304, z373, r3, ex1, (Or.inr (⟨z88, r91, ex89, (Or.inr (⟨z176, va9, dg, ka, exL81, f1L81, (Or.inr (⟨z205, r208, ex206, r211, ex209, z213, (Or.inr (⟨z219, r222, ex220, r225, ex223, ⟨b223, e223⟩, (Or.inl ⟨z227, r232, u231, ex230, ⟨fr230, i304230, rs230⟩, rfl, rfl⟩)⟩))⟩))⟩))⟩))⟩, (show 0 ≤ (u231.1 0 304).toInt ∧ (u231.1 0 304).toInt ≤ 1503 from (om_c99648273b i304230)), (RS.tr RS.rf rs230)⟩, by rw [ht9]; exact hP, hD⟩, hS.F ht9⟩) hS.2.2 dX9_scanNumber_220
            · have z233 : r225.toInt ≠ (0 : Int) := ne_z rfl (show (0 : Int32).toInt = (0 : Int) by decide) h226
              refine lv_aload_n hx hb dX9_scanNumber_169 rfl (lv_at hl 7 rfl) ?_
              refine lv_iconst (v := 1) hx hb dX9_scanNumber_170 (by decide) ?_
              refine lv_iload_n hx hb dX9_scanNumber_171 rfl (lv_at hl 8 rfl) ?_
              refine lv_iconst (v := 0) hx hb dX9_scanNumber_172 (by decide) ?_
              refine lv_iconst (v := 0) hx hb dX9_scanNumber_173 (by decide) ?_
              refine cu_i (rn_Vk (n := 4) (As := [.int 1, .int pa, .int 0, .int 0]) (rest := []) hx hb hml hown ht hKK hFx hP hD hS hA (c_x_X9_add l dC dI cI cB cZ cJ cR tb H.size ad pr N L1 L2 v (1 : Int32) pa (0 : Int32) (0 : Int32) (show 0 ≤ (v.1 0 304).toInt ∧ (v.1 0 304).toInt ≤ 1503 from (om_c99648273b z304))) tw_427 tw_428 (by decide +kernel) rfl rfl ⟨Nat.le_of_ble_eq_true rfl, Nat.le_of_ble_eq_true rfl⟩ (List.range (cW ad pr N cI cR L1 L2 v).length) (rg_map _) (nd_range _) 0 rfl rfl rfl rfl hl.1 rfl (Nat.le_of_ble_eq_true rfl) dX9_scanNumber_174 ⟨Nat.le_of_ble_eq_true rfl, Nat.le_of_ble_eq_true rfl⟩) hP hD hS hA (fun r236 u235 H locs hw234 hP hD hS => ?_)
              obtain ⟨fr234, ex234, i304234, rs234⟩ := hw234
              refine W.widen (k := 0) (n := 0) (Nat.le_refl _) (Nat.le_refl _) ?_
              exact W.iret (v := r236) hx hb hr (fun t ht9 hW => ⟨⟨r236, u235, rfl, ⟨(FC.tr (FC.rf _) (FC.up fr234 (by decide) (by decide))), ⟨z304, z373, r3, ex1, (Or.inr (⟨z88, r91, ex89, (Or.inr (⟨z176, va9, dg, ka, exL81, f1L81, (Or.inr (⟨z205, r208, ex206, r211, ex209, z213, (Or.inr (⟨z219, r222, ex220, r225, ex223, ⟨b223, e223⟩, (Or.inr (⟨z233, r236, u235, ex234, ⟨fr234, i304234, rs234⟩, rfl, rfl⟩))⟩))⟩))⟩))⟩))⟩, (show 0 ≤ (u235.1 0 304).toInt ∧ (u235.1 0 304).toInt ≤ 1503 from (om_c99648273b i304234)), (RS.tr RS.rf rs234)⟩, by rw [ht9]; exact hP, hD⟩, hS.F ht9⟩) hS.2.2 dX9_scanNumber_177
        · have z237 : r211.toInt ≠ (-1 : Int) := ne_z rfl (show ((-1) : Int32).toInt = (-1 : Int) by decide) h212
          refine lv_lload hx hb dX9_scanNumber_108 (lv_at hl 2 rfl) ?_
          refine lv_iload_n hx hb dX9_scanNumber_110 rfl (lv_at hl 5 rfl) ?_
          refine lv_i2l (v := 16) hx hb dX9_scanNumber_111 (by decide) ?_
          refine lv_lmul hx hb dX9_scanNumber_112 ?_
          refine lv_aload_n hx hb dX9_scanNumber_113 rfl (lv_at hl 7 rfl) ?_
          refine va_get (D := (dC, dI)) (ci := 12) (fs := oF_X9 ad pr v) (v := .ref (pr (v.1 0 300))) (C := RX9) (T := TX9) (N := 10) hx hb ht itX9 hown hK hP 0 rfl rfl 0 (by decide) (ht _ tw_415) (fun _ h9 => h9) rfl dX9_scanNumber_114 ?_
          refine lv_iload hx hb dX9_scanNumber_117 (lv_at hl 3 rfl) ?_
          refine lv_iload hx hb dX9_scanNumber_119 (lv_at hl 0 rfl) ?_
          refine lv_iadd hx hb dX9_scanNumber_121 ?_
          refine W.eq (g2 := F0 m 122 ls [.int ((pa + (2 : Int32)) + ka), .ref (ad 908), .long (va9 * 16)]) (by rw [show pr (v.1 0 300) = (ad 908) from (by rw [show (v.1 0 300) = ps from es300]; exact hps)]) ?_
          refine cu_i (rn_Vk (n := 1) (As := [.int ((pa + (2 : Int32)) + ka)]) (rest := [.long (va9 * 16)]) hx hb hml hown ht hKK hFx hP hD hS hA (c_x_X7_byteAt l dC dI cI cB cZ cJ cR tb H.size ad pr N L1 L2 v ((pa + (2 : Int32)) + ka) (show 0 ≤ (v.1 0 373).toInt ∧ (v.1 0 373).toInt ≤ 4000 from (om_c74a68af25 z373))) tw_392 tw_417 (by decide +kernel) rfl rfl ⟨Nat.le_of_ble_eq_true rfl, Nat.le_of_ble_eq_true rfl⟩ (List.range (cW ad pr N cI cR L1 L2 v).length) (rg_map _) (nd_range _) 8 rfl rfl rfl rfl hl.1 rfl (Nat.le_of_ble_eq_true rfl) dX9_scanNumber_122 ⟨Nat.le_of_ble_eq_true rfl, Nat.le_of_ble_eq_true rfl⟩) hP hD hS hA (fun r240 u239 H locs hw238 hP hD hS => ?_)
          obtain ⟨rfl, ex238⟩ := hw238
          refine W.widen (k := 0) (n := 0) (Nat.le_refl _) (Nat.le_refl _) ?_
          refine lv_iload_n hx hb dX9_scanNumber_125 rfl (lv_at hl 5 rfl) ?_
          refine cu_s (nd_range _) (rn_S (n := 2) (As := [.int r240, .int 16]) (rest := [.long (va9 * 16)]) hx hb hml hown ht hKK hFx hP hD hS hA (c_x_X9_digitValue l dC dI cI cB cZ cJ cR tb H.size r240 (16 : Int32) ) tw_432 tw_433 (by decide +kernel) rfl rfl ⟨Nat.le_of_ble_eq_true rfl, Nat.le_of_ble_eq_true rfl⟩ [] rfl rfl rfl hl.1 rfl (Nat.le_of_ble_eq_true rfl) dX9_scanNumber_126 ⟨Nat.le_of_ble_eq_true rfl, Nat.le_of_ble_eq_true rfl⟩) hP hD hS hA (fun r243 H locs hw241 hP hD hS => ?_)
          have ex241 := hw241
          refine W.widen (k := 0) (n := 0) (Nat.le_refl _) (Nat.le_refl _) ?_
          refine lv_i2l hx hb dX9_scanNumber_129 rfl ?_
          refine lv_ladd hx hb dX9_scanNumber_130 ?_
          refine lv_lstore (lv' := [(6, .long ((va9 * 16) + (r243).toInt64)), (9, .int ka), (8, .int dg), (5, .int (pa + (2 : Int32))), (4, .int 8), (3, .int 16), (2, .int 1), (0, .ref (ad 900)), (1, .int pa)]) hx hb dX9_scanNumber_131 hl (by decide) rfl (fun ls hl => ?_)
          refine lv_iinc (v := (dg + (1 : Int32))) (lv' := [(8, .int (dg + (1 : Int32))), (6, .long ((va9 * 16) + (r243).toInt64)), (9, .int ka), (5, .int (pa + (2 : Int32))), (4, .int 8), (3, .int 16), (2, .int 1), (0, .ref (ad 900)), (1, .int pa)]) hx hb dX9_scanNumber_133 hl (k := 2) rfl (rfl) (by decide) rfl (fun ls hl => ?_)
          refine lv_iinc (v := (ka + (1 : Int32))) (lv' := [(9, .int (ka + (1 : Int32))), (8, .int (dg + (1 : Int32))), (6, .long ((va9 * 16) + (r243).toInt64)), (5, .int (pa + (2 : Int32))), (4, .int 8), (3, .int 16), (2, .int 1), (0, .ref (ad 900)), (1, .int pa)]) hx hb dX9_scanNumber_136 hl (k := 2) rfl (rfl) (by decide) rfl (fun ls hl => ?_)
          have z244 : (ka + (1 : Int32)).toInt = ka.toInt + (1 : Int) := add_z rfl (show (1 : Int32).toInt = (1 : Int) by decide) (om_d64a792b2e f1L81) (om_b4da9a55a7 z205)
          refine lv_goto (tgt := 81) hx hb dX9_scanNumber_139 (by decide) ?_
          exact ih81 (((va9 * 16) + (r243).toInt64), (dg + (1 : Int32)), (ka + (1 : Int32))) _ _ _ (show (10 - (ka + (1 : Int32)).toInt).toNat < (10 - ka.toInt).toNat from tn_z (om_5588f1b84f z244) (om_d2511ab53f z205)) ⟨(show 0 ≤ (ka + (1 : Int32)).toInt from (om_d99f09c756 f1L81 z244)), (RT.st exL81 ⟨f1L81, z205, r208, ex206, r211, ex209, z237, r240, ex238, r243, ex241, rfl⟩), hP, hD, hS, lv_sub hl [0, 1, 2, 3, 4, 5, 6, 7, 8] rfl⟩
set_option maxHeartbeats 4000000 in
set_option maxRecDepth 100000 in
theorem c_x_X9_scanCharacter (l : Launch) (dC : Nat → ClassId) (dI : Nat → Nat → Nat) (cI cB cZ cJ cR : ClassId) (tb : Nat → Nat) (sz : Nat) (ad : Nat → Nat) (pr : Int32 → Nat) (N : Nat) (L1 L2 : List Nat) (v : MS) (pa : Int32) (ps : Int32) (z304 : 0 ≤ (v.1 0 304).toInt ∧ (v.1 0 304).toInt ≤ 1503) (z373 : 0 ≤ (v.1 0 373).toInt ∧ (v.1 0 373).toInt ≤ 4000) (hps : pr ps = ad 908) (es300 : (v.1 0 300) = ps) : Met l yX9_scanCharacter (Cond.code yX9_scanCharacter cX9_scanCharacter 4 (some .int) :: tw_W) ({ frames := 1, cells := 0, slots := 0, locals := 24 }) (pc_ (dC, dI) (tyS cI cB cZ cJ cR) tb (cW ad pr N cI cR L1 L2 v) sz [.ref (ad 900), .int pa]) (qi_ (dC, dI) (cW ad pr N cI cR L1 L2 v) sz (fun (r : Int32) (u : MS) => FC [304] [0, 301, 302, 303] v u ∧ (Q_x_X9_scanCharacter L1 L2 v pa r u) ∧ (0 ≤ (u.1 0 304).toInt ∧ (u.1 0 304).toInt ≤ 1503) ∧ (RS v u)) (fun (u : MS) => (cW ad pr N cI cR L1 L2 u))) 0 0 (va_A (cW ad pr N cI cR L1 L2 v) sz) := by
  refine Met.ofW (cc := cX9_scanCharacter) (maxL := 4) (ret := (some .int)) (by decide) rfl ?_
  intro p e s m args below meth c s₁ B hml hv
  obtain ⟨rfl, hsz, hP, hKK, hD0, hFx⟩ := hv
  have hK := hKK.1
  have hx := B.exec
  have hb := B.bytes
  have hr := B.returns
  have ht : ∀ w ∈ tw_W, w.before _ s = true := fun w h => atoms_spec (ws := Cond.code yX9_scanCharacter cX9_scanCharacter 4 (some .int) :: tw_W) B.pre w (List.mem_cons_of_mem _ h)
  have hown : s.vm.findClass RX9 = some m.cls := findClass_of_methodNamed B.named
  have hlocks := B.notSynchronized
  subst hsz
  unfold qi_
  have hD := hD0.self (sz := s.heap.size)
  generalize hAe : va_A (cW ad pr N cI cR L1 L2 v) s.heap.size = A at hD hFx ⊢
  have hA : ∀ q : Nat, s.heap.size ≤ q → A q := fun q h => by rw [← hAe]; exact Or.inr h
  have hS : va_S A s.heap s.heap [] := va_S.rf
  have hl := lv_entry ([.ref (ad 900), .int pa]) (n := 4) (Nat.le_of_ble_eq_true rfl)
  rw [lg_entry_eq]
  generalize (lg_sl ([.ref (ad 900), .int pa]) ++ List.replicate (4 - (lg_sl ([.ref (ad 900), .int pa])).length) Slot.unset).toArray = ls at hl ⊢
  have hl : lv_has ls 4 [(0, .ref (ad 900)), (1, .int pa)] := hl
  refine lv_aload_n hx hb dX9_scanCharacter_0 rfl (lv_at hl 0 rfl) ?_
  refine va_get (D := (dC, dI)) (ci := 12) (fs := oF_X9 ad pr v) (v := .ref (pr (v.1 0 300))) (C := RX9) (T := TX9) (N := 10) hx hb ht itX9 hown hK hP 0 rfl rfl 0 (by decide) (ht _ tw_415) (fun _ h9 => h9) rfl dX9_scanCharacter_1 ?_
  refine lv_iload_n hx hb dX9_scanCharacter_4 rfl (lv_at hl 1 rfl) ?_
  refine lv_iconst (v := 1) hx hb dX9_scanCharacter_5 (by decide) ?_
  refine lv_iadd hx hb dX9_scanCharacter_6 ?_
  refine W.eq (g2 := F0 m 7 ls [.int (pa + (1 : Int32)), .ref (ad 908)]) (by rw [show pr (v.1 0 300) = (ad 908) from (by rw [show (v.1 0 300) = ps from es300]; exact hps)]) ?_
  refine cu_i (rn_Vk (n := 1) (As := [.int (pa + (1 : Int32))]) (rest := []) hx hb hml hown ht hKK hFx hP hD hS hA (c_x_X7_byteAt l dC dI cI cB cZ cJ cR tb s.heap.size ad pr N L1 L2 v (pa + (1 : Int32)) (show 0 ≤ (v.1 0 373).toInt ∧ (v.1 0 373).toInt ≤ 4000 from (om_c74a68af25 z373))) tw_392 tw_417 (by decide +kernel) rfl rfl ⟨Nat.le_of_ble_eq_true rfl, Nat.le_of_ble_eq_true rfl⟩ (List.range (cW ad pr N cI cR L1 L2 v).length) (rg_map _) (nd_range _) 8 rfl rfl rfl rfl hl.1 rfl (Nat.le_of_ble_eq_true rfl) dX9_scanCharacter_7 ⟨Nat.le_of_ble_eq_true rfl, Nat.le_of_ble_eq_true rfl⟩) hP hD hS hA (fun r3 u2 H locs hw1 hP hD hS => ?_)
  obtain ⟨rfl, ex1⟩ := hw1
  refine W.widen (k := 0) (n := 0) (Nat.le_refl _) (Nat.le_refl _) ?_
  refine lv_istore_n (lv' := [(2, .int r3), (0, .ref (ad 900)), (1, .int pa)]) hx hb dX9_scanCharacter_10 rfl hl (by decide) rfl (fun ls hl => ?_)
  refine lv_iload_n hx hb dX9_scanCharacter_11 rfl (lv_at hl 0 rfl) ?_
  refine lv_bipush (v := 32) hx hb dX9_scanCharacter_12 (by decide) ?_
  refine lv_icmp_lt (tgt := 48) hx hb dX9_scanCharacter_14 (by decide) (fun h4 => ?_) (fun h4 => ?_)
  · have z5 : r3.toInt < (32 : Int) := lt_z rfl (show (32 : Int32).toInt = (32 : Int) by decide) h4
    refine lv_iconst (v := 0) hx hb dX9_scanCharacter_48 (by decide) ?_
    refine lv_istore_n (lv' := [(3, .int 0), (2, .int r3), (0, .ref (ad 900)), (1, .int pa)]) hx hb dX9_scanCharacter_49 rfl hl (by decide) rfl (fun ls hl => ?_)
    refine lv_iload_n hx hb dX9_scanCharacter_50 rfl (lv_at hl 0 rfl) ?_
    refine lv_if_eq (tgt := 65) hx hb dX9_scanCharacter_51 (by decide) (fun _ => ?_) (fun k6 => absurd k6 (by decide))
    refine lv_aload_n hx hb dX9_scanCharacter_65 rfl (lv_at hl 2 rfl) ?_
    refine lv_iconst (v := 1) hx hb dX9_scanCharacter_66 (by decide) ?_
    refine lv_iload_n hx hb dX9_scanCharacter_67 rfl (lv_at hl 3 rfl) ?_
    refine lv_iconst (v := 0) hx hb dX9_scanCharacter_68 (by decide) ?_
    refine lv_iconst (v := 0) hx hb dX9_scanCharacter_69 (by decide) ?_
    refine cu_i (rn_Vk (n := 4) (As := [.int 1, .int pa, .int 0, .int 0]) (rest := []) hx hb hml hown ht hKK hFx hP hD hS hA (c_x_X9_add l dC dI cI cB cZ cJ cR tb H.size ad pr N L1 L2 v (1 : Int32) pa (0 : Int32) (0 : Int32) (show 0 ≤ (v.1 0 304).toInt ∧ (v.1 0 304).toInt ≤ 1503 from (om_c99648273b z304))) tw_427 tw_428 (by decide +kernel) rfl rfl ⟨Nat.le_of_ble_eq_true rfl, Nat.le_of_ble_eq_true rfl⟩ (List.range (cW ad pr N cI cR L1 L2 v).length) (rg_map _) (nd_range _) 0 rfl rfl rfl rfl hl.1 rfl (Nat.le_of_ble_eq_true rfl) dX9_scanCharacter_70 ⟨Nat.le_of_ble_eq_true rfl, Nat.le_of_ble_eq_true rfl⟩) hP hD hS hA (fun r9 u8 H locs hw7 hP hD hS => ?_)
    obtain ⟨fr7, ex7, i3047, rs7⟩ := hw7
    refine W.widen (k := 0) (n := 0) (Nat.le_refl _) (Nat.le_refl _) ?_
    exact W.iret (v := r9) hx hb hr (fun t ht9 hW => ⟨⟨r9, u8, rfl, ⟨(FC.tr (FC.rf _) (FC.up fr7 (by decide) (by decide))), ⟨z304, z373, r3, ex1, (Or.inl ⟨z5, r9, u8, ex7, ⟨fr7, i3047, rs7⟩, rfl, rfl⟩)⟩, (show 0 ≤ (u8.1 0 304).toInt ∧ (u8.1 0 304).toInt ≤ 1503 from (om_c99648273b i3047)), (RS.tr RS.rf rs7)⟩, by rw [ht9]; exact hP, hD⟩, hS.F ht9⟩) hS.2.2 dX9_scanCharacter_73
  · have z10 : (32 : Int) ≤ r3.toInt := nlt_z rfl (show (32 : Int32).toInt = (32 : Int) by decide) h4
    refine lv_iload_n hx hb dX9_scanCharacter_17 rfl (lv_at hl 0 rfl) ?_
    refine lv_bipush (v := 126) hx hb dX9_scanCharacter_18 (by decide) ?_
    refine lv_icmp_gt (tgt := 48) hx hb dX9_scanCharacter_20 (by decide) (fun h11 => ?_) (fun h11 => ?_)
    · have z12 : (126 : Int) < r3.toInt := lt_z (show (126 : Int32).toInt = (126 : Int) by decide) rfl h11
      refine lv_iconst (v := 0) hx hb dX9_scanCharacter_48 (by decide) ?_
      refine lv_istore_n (lv' := [(3, .int 0), (2, .int r3), (0, .ref (ad 900)), (1, .int pa)]) hx hb dX9_scanCharacter_49 rfl hl (by decide) rfl (fun ls hl => ?_)
      refine lv_iload_n hx hb dX9_scanCharacter_50 rfl (lv_at hl 0 rfl) ?_
      refine lv_if_eq (tgt := 65) hx hb dX9_scanCharacter_51 (by decide) (fun _ => ?_) (fun k13 => absurd k13 (by decide))
      refine lv_aload_n hx hb dX9_scanCharacter_65 rfl (lv_at hl 2 rfl) ?_
      refine lv_iconst (v := 1) hx hb dX9_scanCharacter_66 (by decide) ?_
      refine lv_iload_n hx hb dX9_scanCharacter_67 rfl (lv_at hl 3 rfl) ?_
      refine lv_iconst (v := 0) hx hb dX9_scanCharacter_68 (by decide) ?_
      refine lv_iconst (v := 0) hx hb dX9_scanCharacter_69 (by decide) ?_
      refine cu_i (rn_Vk (n := 4) (As := [.int 1, .int pa, .int 0, .int 0]) (rest := []) hx hb hml hown ht hKK hFx hP hD hS hA (c_x_X9_add l dC dI cI cB cZ cJ cR tb H.size ad pr N L1 L2 v (1 : Int32) pa (0 : Int32) (0 : Int32) (show 0 ≤ (v.1 0 304).toInt ∧ (v.1 0 304).toInt ≤ 1503 from (om_c99648273b z304))) tw_427 tw_428 (by decide +kernel) rfl rfl ⟨Nat.le_of_ble_eq_true rfl, Nat.le_of_ble_eq_true rfl⟩ (List.range (cW ad pr N cI cR L1 L2 v).length) (rg_map _) (nd_range _) 0 rfl rfl rfl rfl hl.1 rfl (Nat.le_of_ble_eq_true rfl) dX9_scanCharacter_70 ⟨Nat.le_of_ble_eq_true rfl, Nat.le_of_ble_eq_true rfl⟩) hP hD hS hA (fun r16 u15 H locs hw14 hP hD hS => ?_)
      obtain ⟨fr14, ex14, i30414, rs14⟩ := hw14
      refine W.widen (k := 0) (n := 0) (Nat.le_refl _) (Nat.le_refl _) ?_
      exact W.iret (v := r16) hx hb hr (fun t ht9 hW => ⟨⟨r16, u15, rfl, ⟨(FC.tr (FC.rf _) (FC.up fr14 (by decide) (by decide))), ⟨z304, z373, r3, ex1, (Or.inr (⟨z10, (Or.inl ⟨z12, r16, u15, ex14, ⟨fr14, i30414, rs14⟩, rfl, rfl⟩)⟩))⟩, (show 0 ≤ (u15.1 0 304).toInt ∧ (u15.1 0 304).toInt ≤ 1503 from (om_c99648273b i30414)), (RS.tr RS.rf rs14)⟩, by rw [ht9]; exact hP, hD⟩, hS.F ht9⟩) hS.2.2 dX9_scanCharacter_73
    · have z17 : r3.toInt ≤ (126 : Int) := nlt_z (show (126 : Int32).toInt = (126 : Int) by decide) rfl h11
      refine lv_iload_n hx hb dX9_scanCharacter_23 rfl (lv_at hl 0 rfl) ?_
      refine lv_bipush (v := 39) hx hb dX9_scanCharacter_24 (by decide) ?_
      refine lv_icmp_eq (tgt := 48) hx hb dX9_scanCharacter_26 (by decide) (fun h18 => ?_) (fun h18 => ?_)
      · have z19 : r3.toInt = (39 : Int) := eq_z rfl (show (39 : Int32).toInt = (39 : Int) by decide) h18
        refine lv_iconst (v := 0) hx hb dX9_scanCharacter_48 (by decide) ?_
        refine lv_istore_n (lv' := [(3, .int 0), (2, .int r3), (0, .ref (ad 900)), (1, .int pa)]) hx hb dX9_scanCharacter_49 rfl hl (by decide) rfl (fun ls hl => ?_)
        refine lv_iload_n hx hb dX9_scanCharacter_50 rfl (lv_at hl 0 rfl) ?_
        refine lv_if_eq (tgt := 65) hx hb dX9_scanCharacter_51 (by decide) (fun _ => ?_) (fun k20 => absurd k20 (by decide))
        refine lv_aload_n hx hb dX9_scanCharacter_65 rfl (lv_at hl 2 rfl) ?_
        refine lv_iconst (v := 1) hx hb dX9_scanCharacter_66 (by decide) ?_
        refine lv_iload_n hx hb dX9_scanCharacter_67 rfl (lv_at hl 3 rfl) ?_
        refine lv_iconst (v := 0) hx hb dX9_scanCharacter_68 (by decide) ?_
        refine lv_iconst (v := 0) hx hb dX9_scanCharacter_69 (by decide) ?_
        refine cu_i (rn_Vk (n := 4) (As := [.int 1, .int pa, .int 0, .int 0]) (rest := []) hx hb hml hown ht hKK hFx hP hD hS hA (c_x_X9_add l dC dI cI cB cZ cJ cR tb H.size ad pr N L1 L2 v (1 : Int32) pa (0 : Int32) (0 : Int32) (show 0 ≤ (v.1 0 304).toInt ∧ (v.1 0 304).toInt ≤ 1503 from (om_c99648273b z304))) tw_427 tw_428 (by decide +kernel) rfl rfl ⟨Nat.le_of_ble_eq_true rfl, Nat.le_of_ble_eq_true rfl⟩ (List.range (cW ad pr N cI cR L1 L2 v).length) (rg_map _) (nd_range _) 0 rfl rfl rfl rfl hl.1 rfl (Nat.le_of_ble_eq_true rfl) dX9_scanCharacter_70 ⟨Nat.le_of_ble_eq_true rfl, Nat.le_of_ble_eq_true rfl⟩) hP hD hS hA (fun r23 u22 H locs hw21 hP hD hS => ?_)
        obtain ⟨fr21, ex21, i30421, rs21⟩ := hw21
        refine W.widen (k := 0) (n := 0) (Nat.le_refl _) (Nat.le_refl _) ?_
        exact W.iret (v := r23) hx hb hr (fun t ht9 hW => ⟨⟨r23, u22, rfl, ⟨(FC.tr (FC.rf _) (FC.up fr21 (by decide) (by decide))), ⟨z304, z373, r3, ex1, (Or.inr (⟨z10, (Or.inr (⟨z17, (Or.inl ⟨z19, r23, u22, ex21, ⟨fr21, i30421, rs21⟩, rfl, rfl⟩)⟩))⟩))⟩, (show 0 ≤ (u22.1 0 304).toInt ∧ (u22.1 0 304).toInt ≤ 1503 from (om_c99648273b i30421)), (RS.tr RS.rf rs21)⟩, by rw [ht9]; exact hP, hD⟩, hS.F ht9⟩) hS.2.2 dX9_scanCharacter_73
      · have z24 : r3.toInt ≠ (39 : Int) := ne_z rfl (show (39 : Int32).toInt = (39 : Int) by decide) h18
        refine lv_aload_n hx hb dX9_scanCharacter_29 rfl (lv_at hl 1 rfl) ?_
        refine va_get (D := (dC, dI)) (ci := 12) (fs := oF_X9 ad pr v) (v := .ref (pr (v.1 0 300))) (C := RX9) (T := TX9) (N := 10) hx hb ht itX9 hown hK hP 0 rfl rfl 0 (by decide) (ht _ tw_415) (fun _ h9 => h9) rfl dX9_scanCharacter_30 ?_
        refine lv_iload_n hx hb dX9_scanCharacter_33 rfl (lv_at hl 2 rfl) ?_
        refine lv_iconst (v := 2) hx hb dX9_scanCharacter_34 (by decide) ?_
        refine lv_iadd hx hb dX9_scanCharacter_35 ?_
        refine W.eq (g2 := F0 m 36 ls [.int (pa + (2 : Int32)), .ref (ad 908)]) (by rw [show pr (v.1 0 300) = (ad 908) from (by rw [show (v.1 0 300) = ps from es300]; exact hps)]) ?_
        refine cu_i (rn_Vk (n := 1) (As := [.int (pa + (2 : Int32))]) (rest := []) hx hb hml hown ht hKK hFx hP hD hS hA (c_x_X7_byteAt l dC dI cI cB cZ cJ cR tb H.size ad pr N L1 L2 v (pa + (2 : Int32)) (show 0 ≤ (v.1 0 373).toInt ∧ (v.1 0 373).toInt ≤ 4000 from (om_c74a68af25 z373))) tw_392 tw_417 (by decide +kernel) rfl rfl ⟨Nat.le_of_ble_eq_true rfl, Nat.le_of_ble_eq_true rfl⟩ (List.range (cW ad pr N cI cR L1 L2 v).length) (rg_map _) (nd_range _) 8 rfl rfl rfl rfl hl.1 rfl (Nat.le_of_ble_eq_true rfl) dX9_scanCharacter_36 ⟨Nat.le_of_ble_eq_true rfl, Nat.le_of_ble_eq_true rfl⟩) hP hD hS hA (fun r27 u26 H locs hw25 hP hD hS => ?_)
        obtain ⟨rfl, ex25⟩ := hw25
        refine W.widen (k := 0) (n := 0) (Nat.le_refl _) (Nat.le_refl _) ?_
        refine lv_bipush (v := 39) hx hb dX9_scanCharacter_39 (by decide) ?_
        refine lv_icmp_ne (tgt := 48) hx hb dX9_scanCharacter_41 (by decide) (fun h28 => ?_) (fun h28 => ?_)
        · have z29 : r27.toInt ≠ (39 : Int) := ne_z rfl (show (39 : Int32).toInt = (39 : Int) by decide) h28
          refine lv_iconst (v := 0) hx hb dX9_scanCharacter_48 (by decide) ?_
          refine lv_istore_n (lv' := [(3, .int 0), (2, .int r3), (0, .ref (ad 900)), (1, .int pa)]) hx hb dX9_scanCharacter_49 rfl hl (by decide) rfl (fun ls hl => ?_)
          refine lv_iload_n hx hb dX9_scanCharacter_50 rfl (lv_at hl 0 rfl) ?_
          refine lv_if_eq (tgt := 65) hx hb dX9_scanCharacter_51 (by decide) (fun _ => ?_) (fun k30 => absurd k30 (by decide))
          refine lv_aload_n hx hb dX9_scanCharacter_65 rfl (lv_at hl 2 rfl) ?_
          refine lv_iconst (v := 1) hx hb dX9_scanCharacter_66 (by decide) ?_
          refine lv_iload_n hx hb dX9_scanCharacter_67 rfl (lv_at hl 3 rfl) ?_
          refine lv_iconst (v := 0) hx hb dX9_scanCharacter_68 (by decide) ?_
          refine lv_iconst (v := 0) hx hb dX9_scanCharacter_69 (by decide) ?_
          refine cu_i (rn_Vk (n := 4) (As := [.int 1, .int pa, .int 0, .int 0]) (rest := []) hx hb hml hown ht hKK hFx hP hD hS hA (c_x_X9_add l dC dI cI cB cZ cJ cR tb H.size ad pr N L1 L2 v (1 : Int32) pa (0 : Int32) (0 : Int32) (show 0 ≤ (v.1 0 304).toInt ∧ (v.1 0 304).toInt ≤ 1503 from (om_c99648273b z304))) tw_427 tw_428 (by decide +kernel) rfl rfl ⟨Nat.le_of_ble_eq_true rfl, Nat.le_of_ble_eq_true rfl⟩ (List.range (cW ad pr N cI cR L1 L2 v).length) (rg_map _) (nd_range _) 0 rfl rfl rfl rfl hl.1 rfl (Nat.le_of_ble_eq_true rfl) dX9_scanCharacter_70 ⟨Nat.le_of_ble_eq_true rfl, Nat.le_of_ble_eq_true rfl⟩) hP hD hS hA (fun r33 u32 H locs hw31 hP hD hS => ?_)
          obtain ⟨fr31, ex31, i30431, rs31⟩ := hw31
          refine W.widen (k := 0) (n := 0) (Nat.le_refl _) (Nat.le_refl _) ?_
          exact W.iret (v := r33) hx hb hr (fun t ht9 hW => ⟨⟨r33, u32, rfl, ⟨(FC.tr (FC.rf _) (FC.up fr31 (by decide) (by decide))), ⟨z304, z373, r3, ex1, (Or.inr (⟨z10, (Or.inr (⟨z17, (Or.inr (⟨z24, r27, ex25, (Or.inl ⟨z29, r33, u32, ex31, ⟨fr31, i30431, rs31⟩, rfl, rfl⟩)⟩))⟩))⟩))⟩, (show 0 ≤ (u32.1 0 304).toInt ∧ (u32.1 0 304).toInt ≤ 1503 from (om_c99648273b i30431)), (RS.tr RS.rf rs31)⟩, by rw [ht9]; exact hP, hD⟩, hS.F ht9⟩) hS.2.2 dX9_scanCharacter_73
        · have z34 : r27.toInt = (39 : Int) := eq_z rfl (show (39 : Int32).toInt = (39 : Int) by decide) h28
          refine lv_iconst (v := 1) hx hb dX9_scanCharacter_44 (by decide) ?_
          refine lv_goto (tgt := 49) hx hb dX9_scanCharacter_45 (by decide) ?_
          refine lv_istore_n (lv' := [(3, .int 1), (2, .int r3), (0, .ref (ad 900)), (1, .int pa)]) hx hb dX9_scanCharacter_49 rfl hl (by decide) rfl (fun ls hl => ?_)
          refine lv_iload_n hx hb dX9_scanCharacter_50 rfl (lv_at hl 0 rfl) ?_
          refine lv_if_eq (tgt := 65) hx hb dX9_scanCharacter_51 (by decide) (fun k35 => absurd k35 (by decide)) (fun _ => ?_)
          refine lv_aload_n hx hb dX9_scanCharacter_54 rfl (lv_at hl 2 rfl) ?_
          refine lv_iconst (v := 5) hx hb dX9_scanCharacter_55 (by decide) ?_
          refine lv_iload_n hx hb dX9_scanCharacter_56 rfl (lv_at hl 3 rfl) ?_
          refine lv_iload_n hx hb dX9_scanCharacter_57 rfl (lv_at hl 1 rfl) ?_
          refine lv_iconst (v := 3) hx hb dX9_scanCharacter_58 (by decide) ?_
          refine cu_i (rn_Vk (n := 4) (As := [.int 5, .int pa, .int r3, .int 3]) (rest := []) hx hb hml hown ht hKK hFx hP hD hS hA (c_x_X9_add l dC dI cI cB cZ cJ cR tb H.size ad pr N L1 L2 v (5 : Int32) pa r3 (3 : Int32) (show 0 ≤ (v.1 0 304).toInt ∧ (v.1 0 304).toInt ≤ 1503 from (om_c99648273b z304))) tw_427 tw_428 (by decide +kernel) rfl rfl ⟨Nat.le_of_ble_eq_true rfl, Nat.le_of_ble_eq_true rfl⟩ (List.range (cW ad pr N cI cR L1 L2 v).length) (rg_map _) (nd_range _) 0 rfl rfl rfl rfl hl.1 rfl (Nat.le_of_ble_eq_true rfl) dX9_scanCharacter_59 ⟨Nat.le_of_ble_eq_true rfl, Nat.le_of_ble_eq_true rfl⟩) hP hD hS hA (fun r38 u37 H locs hw36 hP hD hS => ?_)
          obtain ⟨fr36, ex36, i30436, rs36⟩ := hw36
          refine W.widen (k := 0) (n := 0) (Nat.le_refl _) (Nat.le_refl _) ?_
          refine lv_goto (tgt := 73) hx hb dX9_scanCharacter_62 (by decide) ?_
          exact W.iret (v := r38) hx hb hr (fun t ht9 hW => ⟨⟨r38, u37, rfl, ⟨(FC.tr (FC.rf _) (FC.up fr36 (by decide) (by decide))), ⟨z304, z373, r3, ex1, (Or.inr (⟨z10, (Or.inr (⟨z17, (Or.inr (⟨z24, r27, ex25, (Or.inr (⟨z34, r38, u37, ex36, ⟨fr36, i30436, rs36⟩, rfl, rfl⟩))⟩))⟩))⟩))⟩, (show 0 ≤ (u37.1 0 304).toInt ∧ (u37.1 0 304).toInt ≤ 1503 from (om_c99648273b i30436)), (RS.tr RS.rf rs36)⟩, by rw [ht9]; exact hP, hD⟩, hS.F ht9⟩) hS.2.2 dX9_scanCharacter_73
set_option maxHeartbeats 4000000 in
set_option maxRecDepth 100000 in
theorem c_x_X9_scanOne (l : Launch) (dC : Nat → ClassId) (dI : Nat → Nat → Nat) (cI cB cZ cJ cR : ClassId) (tb : Nat → Nat) (sz : Nat) (ad : Nat → Nat) (pr : Int32 → Nat) (N : Nat) (L1 L2 : List Nat) (v : MS) (pa : Int32) (ps : Int32) (z304 : 0 ≤ (v.1 0 304).toInt ∧ (v.1 0 304).toInt ≤ 1503) (z373 : 0 ≤ (v.1 0 373).toInt ∧ (v.1 0 373).toInt ≤ 4000) (hps : pr ps = ad 908) (es300 : (v.1 0 300) = ps) : Met l yX9_scanOne (Cond.code yX9_scanOne cX9_scanOne 3 (some .int) :: tw_W) ({ frames := 6, cells := 0, slots := 0, locals := 137 }) (pc_ (dC, dI) (tyS cI cB cZ cJ cR) tb (cW ad pr N cI cR L1 L2 v) sz [.ref (ad 900), .int pa]) (qi_ (dC, dI) (cW ad pr N cI cR L1 L2 v) sz (fun (r : Int32) (u : MS) => FC [304] [0, 301, 302, 303] v u ∧ (Q_x_X9_scanOne L1 L2 v pa r u) ∧ (0 ≤ (u.1 0 304).toInt ∧ (u.1 0 304).toInt ≤ 1503) ∧ (RS v u)) (fun (u : MS) => (cW ad pr N cI cR L1 L2 u))) 0 0 (va_A (cW ad pr N cI cR L1 L2 v) sz) := by
  refine Met.ofW (cc := cX9_scanOne) (maxL := 3) (ret := (some .int)) (by decide) rfl ?_
  intro p e s m args below meth c s₁ B hml hv
  obtain ⟨rfl, hsz, hP, hKK, hD0, hFx⟩ := hv
  have hK := hKK.1
  have hx := B.exec
  have hb := B.bytes
  have hr := B.returns
  have ht : ∀ w ∈ tw_W, w.before _ s = true := fun w h => atoms_spec (ws := Cond.code yX9_scanOne cX9_scanOne 3 (some .int) :: tw_W) B.pre w (List.mem_cons_of_mem _ h)
  have hown : s.vm.findClass RX9 = some m.cls := findClass_of_methodNamed B.named
  have hlocks := B.notSynchronized
  subst hsz
  unfold qi_
  have hD := hD0.self (sz := s.heap.size)
  generalize hAe : va_A (cW ad pr N cI cR L1 L2 v) s.heap.size = A at hD hFx ⊢
  have hA : ∀ q : Nat, s.heap.size ≤ q → A q := fun q h => by rw [← hAe]; exact Or.inr h
  have hS : va_S A s.heap s.heap [] := va_S.rf
  have hl := lv_entry ([.ref (ad 900), .int pa]) (n := 3) (Nat.le_of_ble_eq_true rfl)
  rw [lg_entry_eq]
  generalize (lg_sl ([.ref (ad 900), .int pa]) ++ List.replicate (3 - (lg_sl ([.ref (ad 900), .int pa])).length) Slot.unset).toArray = ls at hl ⊢
  have hl : lv_has ls 3 [(0, .ref (ad 900)), (1, .int pa)] := hl
  refine lv_aload_n hx hb dX9_scanOne_0 rfl (lv_at hl 0 rfl) ?_
  refine va_get (D := (dC, dI)) (ci := 12) (fs := oF_X9 ad pr v) (v := .ref (pr (v.1 0 300))) (C := RX9) (T := TX9) (N := 10) hx hb ht itX9 hown hK hP 0 rfl rfl 0 (by decide) (ht _ tw_415) (fun _ h9 => h9) rfl dX9_scanOne_1 ?_
  refine lv_iload_n hx hb dX9_scanOne_4 rfl (lv_at hl 1 rfl) ?_
  refine W.eq (g2 := F0 m 5 ls [.int pa, .ref (ad 908)]) (by rw [show pr (v.1 0 300) = (ad 908) from (by rw [show (v.1 0 300) = ps from es300]; exact hps)]) ?_
  refine cu_i (rn_Vk (n := 1) (As := [.int pa]) (rest := []) hx hb hml hown ht hKK hFx hP hD hS hA (c_x_X7_byteAt l dC dI cI cB cZ cJ cR tb s.heap.size ad pr N L1 L2 v pa (show 0 ≤ (v.1 0 373).toInt ∧ (v.1 0 373).toInt ≤ 4000 from (om_c74a68af25 z373))) tw_392 tw_417 (by decide +kernel) rfl rfl ⟨Nat.le_of_ble_eq_true rfl, Nat.le_of_ble_eq_true rfl⟩ (List.range (cW ad pr N cI cR L1 L2 v).length) (rg_map _) (nd_range _) 8 rfl rfl rfl rfl hl.1 rfl (Nat.le_of_ble_eq_true rfl) dX9_scanOne_5 ⟨Nat.le_of_ble_eq_true rfl, Nat.le_of_ble_eq_true rfl⟩) hP hD hS hA (fun r3 u2 H locs hw1 hP hD hS => ?_)
  obtain ⟨rfl, ex1⟩ := hw1
  refine W.widen (k := 0) (n := 0) (Nat.le_refl _) (Nat.le_refl _) ?_
  refine lv_istore_n (lv' := [(2, .int r3), (0, .ref (ad 900)), (1, .int pa)]) hx hb dX9_scanOne_8 rfl hl (by decide) rfl (fun ls hl => ?_)
  refine lv_iload_n hx hb dX9_scanOne_9 rfl (lv_at hl 0 rfl) ?_
  refine lv_iconst (v := -1) hx hb dX9_scanOne_10 (by decide) ?_
  refine lv_icmp_ne (tgt := 23) hx hb dX9_scanOne_11 (by decide) (fun h4 => ?_) (fun h4 => ?_)
  · have z5 : r3.toInt ≠ (-1 : Int) := ne_z rfl (show ((-1) : Int32).toInt = (-1 : Int) by decide) h4
    refine lv_iload_n hx hb dX9_scanOne_23 rfl (lv_at hl 0 rfl) ?_
    refine cu_s (nd_range _) (rn_S (n := 1) (As := [.int r3]) (rest := []) hx hb hml hown ht hKK hFx hP hD hS hA (c_x_X9_isLetter l dC dI cI cB cZ cJ cR tb H.size r3 ) tw_434 tw_435 (by decide +kernel) rfl rfl ⟨Nat.le_of_ble_eq_true rfl, Nat.le_of_ble_eq_true rfl⟩ [] rfl rfl rfl hl.1 rfl (Nat.le_of_ble_eq_true rfl) dX9_scanOne_24 ⟨Nat.le_of_ble_eq_true rfl, Nat.le_of_ble_eq_true rfl⟩) hP hD hS hA (fun r8 H locs hw6 hP hD hS => ?_)
    obtain ⟨ex6, b6, e6⟩ := hw6
    refine W.widen (k := 0) (n := 0) (Nat.le_refl _) (Nat.le_refl _) ?_
    refine lv_if_eq (tgt := 36) hx hb dX9_scanOne_27 (by decide) (fun h9 => ?_) (fun h9 => ?_)
    · have z10 : r8.toInt = (0 : Int) := eq_z rfl (show (0 : Int32).toInt = (0 : Int) by decide) h9
      refine lv_iload_n hx hb dX9_scanOne_36 rfl (lv_at hl 0 rfl) ?_
      refine cu_s (nd_range _) (rn_S (n := 1) (As := [.int r3]) (rest := []) hx hb hml hown ht hKK hFx hP hD hS hA (c_x_X9_isDigit l dC dI cI cB cZ cJ cR tb H.size r3 ) tw_409 tw_410 (by decide +kernel) rfl rfl ⟨Nat.le_of_ble_eq_true rfl, Nat.le_of_ble_eq_true rfl⟩ [] rfl rfl rfl hl.1 rfl (Nat.le_of_ble_eq_true rfl) dX9_scanOne_37 ⟨Nat.le_of_ble_eq_true rfl, Nat.le_of_ble_eq_true rfl⟩) hP hD hS hA (fun r13 H locs hw11 hP hD hS => ?_)
      obtain ⟨ex11, b11, e11⟩ := hw11
      refine W.widen (k := 0) (n := 0) (Nat.le_refl _) (Nat.le_refl _) ?_
      refine lv_if_eq (tgt := 49) hx hb dX9_scanOne_40 (by decide) (fun h14 => ?_) (fun h14 => ?_)
      · have z15 : r13.toInt = (0 : Int) := eq_z rfl (show (0 : Int32).toInt = (0 : Int) by decide) h14
        refine lv_iload_n hx hb dX9_scanOne_49 rfl (lv_at hl 0 rfl) ?_
        refine lv_bipush (v := 39) hx hb dX9_scanOne_50 (by decide) ?_
        refine lv_icmp_ne (tgt := 63) hx hb dX9_scanOne_52 (by decide) (fun h16 => ?_) (fun h16 => ?_)
        · have z17 : r3.toInt ≠ (39 : Int) := ne_z rfl (show (39 : Int32).toInt = (39 : Int) by decide) h16
          refine lv_aload_n hx hb dX9_scanOne_63 rfl (lv_at hl 1 rfl) ?_
          refine lv_iload_n hx hb dX9_scanOne_64 rfl (lv_at hl 2 rfl) ?_
          refine cu_i (rn_Vk (n := 1) (As := [.int pa]) (rest := []) hx hb hml hown ht hKK hFx hP hD hS hA (c_x_X9_scanSign l dC dI cI cB cZ cJ cR tb H.size ad pr N L1 L2 v pa ps (show 0 ≤ (v.1 0 304).toInt ∧ (v.1 0 304).toInt ≤ 1503 from (om_c99648273b z304)) (show 0 ≤ (v.1 0 373).toInt ∧ (v.1 0 373).toInt ≤ 4000 from (om_c74a68af25 z373)) (show pr ps = ad 908 from hps) (show (v.1 0 300) = ps from es300)) tw_436 tw_437 (by decide +kernel) rfl rfl ⟨Nat.le_of_ble_eq_true rfl, Nat.le_of_ble_eq_true rfl⟩ (List.range (cW ad pr N cI cR L1 L2 v).length) (rg_map _) (nd_range _) 0 rfl rfl rfl rfl hl.1 rfl (Nat.le_of_ble_eq_true rfl) dX9_scanOne_65 ⟨Nat.le_of_ble_eq_true rfl, Nat.le_of_ble_eq_true rfl⟩) hP hD hS hA (fun r20 u19 H locs hw18 hP hD hS => ?_)
          obtain ⟨fr18, ex18, i30418, rs18⟩ := hw18
          refine W.widen (k := 0) (n := 0) (Nat.le_refl _) (Nat.le_refl _) ?_
          exact W.iret (v := r20) hx hb hr (fun t ht9 hW => ⟨⟨r20, u19, rfl, ⟨(FC.tr (FC.rf _) (FC.up fr18 (by decide) (by decide))), ⟨z304, z373, r3, ex1, (Or.inl ⟨z5, r8, ex6, ⟨b6, e6⟩, (Or.inl ⟨z10, r13, ex11, ⟨b11, e11⟩, (Or.inl ⟨z15, (Or.inl ⟨z17, r20, u19, ex18, ⟨fr18, i30418, rs18⟩, rfl, rfl⟩)⟩)⟩)⟩)⟩, (show 0 ≤ (u19.1 0 304).toInt ∧ (u19.1 0 304).toInt ≤ 1503 from (om_c99648273b i30418)), (RS.tr RS.rf rs18)⟩, by rw [ht9]; exact hP, hD⟩, hS.F ht9⟩) hS.2.2 dX9_scanOne_68
        · have z21 : r3.toInt = (39 : Int) := eq_z rfl (show (39 : Int32).toInt = (39 : Int) by decide) h16
          refine lv_aload_n hx hb dX9_scanOne_55 rfl (lv_at hl 1 rfl) ?_
          refine lv_iload_n hx hb dX9_scanOne_56 rfl (lv_at hl 2 rfl) ?_
          refine cu_i (rn_Vk (n := 1) (As := [.int pa]) (rest := []) hx hb hml hown ht hKK hFx hP hD hS hA (c_x_X9_scanCharacter l dC dI cI cB cZ cJ cR tb H.size ad pr N L1 L2 v pa ps (show 0 ≤ (v.1 0 304).toInt ∧ (v.1 0 304).toInt ≤ 1503 from (om_c99648273b z304)) (show 0 ≤ (v.1 0 373).toInt ∧ (v.1 0 373).toInt ≤ 4000 from (om_c74a68af25 z373)) (show pr ps = ad 908 from hps) (show (v.1 0 300) = ps from es300)) tw_438 tw_439 (by decide +kernel) rfl rfl ⟨Nat.le_of_ble_eq_true rfl, Nat.le_of_ble_eq_true rfl⟩ (List.range (cW ad pr N cI cR L1 L2 v).length) (rg_map _) (nd_range _) 0 rfl rfl rfl rfl hl.1 rfl (Nat.le_of_ble_eq_true rfl) dX9_scanOne_57 ⟨Nat.le_of_ble_eq_true rfl, Nat.le_of_ble_eq_true rfl⟩) hP hD hS hA (fun r24 u23 H locs hw22 hP hD hS => ?_)
          obtain ⟨fr22, ex22, i30422, rs22⟩ := hw22
          refine W.widen (k := 0) (n := 0) (Nat.le_refl _) (Nat.le_refl _) ?_
          refine lv_goto (tgt := 68) hx hb dX9_scanOne_60 (by decide) ?_
          exact W.iret (v := r24) hx hb hr (fun t ht9 hW => ⟨⟨r24, u23, rfl, ⟨(FC.tr (FC.rf _) (FC.up fr22 (by decide) (by decide))), ⟨z304, z373, r3, ex1, (Or.inl ⟨z5, r8, ex6, ⟨b6, e6⟩, (Or.inl ⟨z10, r13, ex11, ⟨b11, e11⟩, (Or.inl ⟨z15, (Or.inr (⟨z21, r24, u23, ex22, ⟨fr22, i30422, rs22⟩, rfl, rfl⟩))⟩)⟩)⟩)⟩, (show 0 ≤ (u23.1 0 304).toInt ∧ (u23.1 0 304).toInt ≤ 1503 from (om_c99648273b i30422)), (RS.tr RS.rf rs22)⟩, by rw [ht9]; exact hP, hD⟩, hS.F ht9⟩) hS.2.2 dX9_scanOne_68
      · have z25 : r13.toInt ≠ (0 : Int) := ne_z rfl (show (0 : Int32).toInt = (0 : Int) by decide) h14
        refine lv_aload_n hx hb dX9_scanOne_43 rfl (lv_at hl 1 rfl) ?_
        refine lv_iload_n hx hb dX9_scanOne_44 rfl (lv_at hl 2 rfl) ?_
        refine cu_i (rn_Vk (n := 1) (As := [.int pa]) (rest := []) hx hb hml hown ht hKK hFx hP hD hS hA (c_x_X9_scanNumber l dC dI cI cB cZ cJ cR tb H.size ad pr N L1 L2 v pa ps (show 0 ≤ (v.1 0 304).toInt ∧ (v.1 0 304).toInt ≤ 1503 from (om_c99648273b z304)) (show 0 ≤ (v.1 0 373).toInt ∧ (v.1 0 373).toInt ≤ 4000 from (om_c74a68af25 z373)) (show pr ps = ad 908 from hps) (show (v.1 0 300) = ps from es300)) tw_440 tw_441 (by decide +kernel) rfl rfl ⟨Nat.le_of_ble_eq_true rfl, Nat.le_of_ble_eq_true rfl⟩ (List.range (cW ad pr N cI cR L1 L2 v).length) (rg_map _) (nd_range _) 0 rfl rfl rfl rfl hl.1 rfl (Nat.le_of_ble_eq_true rfl) dX9_scanOne_45 ⟨Nat.le_of_ble_eq_true rfl, Nat.le_of_ble_eq_true rfl⟩) hP hD hS hA (fun r28 u27 H locs hw26 hP hD hS => ?_)
        obtain ⟨fr26, ex26, i30426, rs26⟩ := hw26
        refine W.widen (k := 0) (n := 0) (Nat.le_refl _) (Nat.le_refl _) ?_
        exact W.iret (v := r28) hx hb hr (fun t ht9 hW => ⟨⟨r28, u27, rfl, ⟨(FC.tr (FC.rf _) (FC.up fr26 (by decide) (by decide))), ⟨z304, z373, r3, ex1, (Or.inl ⟨z5, r8, ex6, ⟨b6, e6⟩, (Or.inl ⟨z10, r13, ex11, ⟨b11, e11⟩, (Or.inr (⟨z25, r28, u27, ex26, ⟨fr26, i30426, rs26⟩, rfl, rfl⟩))⟩)⟩)⟩, (show 0 ≤ (u27.1 0 304).toInt ∧ (u27.1 0 304).toInt ≤ 1503 from (om_c99648273b i30426)), (RS.tr RS.rf rs26)⟩, by rw [ht9]; exact hP, hD⟩, hS.F ht9⟩) hS.2.2 dX9_scanOne_48
    · have z29 : r8.toInt ≠ (0 : Int) := ne_z rfl (show (0 : Int32).toInt = (0 : Int) by decide) h9
      refine lv_aload_n hx hb dX9_scanOne_30 rfl (lv_at hl 1 rfl) ?_
      refine lv_iload_n hx hb dX9_scanOne_31 rfl (lv_at hl 2 rfl) ?_
      refine cu_i (rn_Vk (n := 1) (As := [.int pa]) (rest := []) hx hb hml hown ht hKK hFx hP hD hS hA (c_x_X9_scanName l dC dI cI cB cZ cJ cR tb H.size ad pr N L1 L2 v pa ps (show 0 ≤ (v.1 0 304).toInt ∧ (v.1 0 304).toInt ≤ 1503 from (om_c99648273b z304)) (show 0 ≤ (v.1 0 373).toInt ∧ (v.1 0 373).toInt ≤ 4000 from (om_c74a68af25 z373)) (show pr ps = ad 908 from hps) (show (v.1 0 300) = ps from es300)) tw_442 tw_443 (by decide +kernel) rfl rfl ⟨Nat.le_of_ble_eq_true rfl, Nat.le_of_ble_eq_true rfl⟩ (List.range (cW ad pr N cI cR L1 L2 v).length) (rg_map _) (nd_range _) 0 rfl rfl rfl rfl hl.1 rfl (Nat.le_of_ble_eq_true rfl) dX9_scanOne_32 ⟨Nat.le_of_ble_eq_true rfl, Nat.le_of_ble_eq_true rfl⟩) hP hD hS hA (fun r32 u31 H locs hw30 hP hD hS => ?_)
      obtain ⟨fr30, ex30, i30430, rs30⟩ := hw30
      refine W.widen (k := 0) (n := 0) (Nat.le_refl _) (Nat.le_refl _) ?_
      exact W.iret (v := r32) hx hb hr (fun t ht9 hW => ⟨⟨r32, u31, rfl, ⟨(FC.tr (FC.rf _) (FC.up fr30 (by decide) (by decide))), ⟨z304, z373, r3, ex1, (Or.inl ⟨z5, r8, ex6, ⟨b6, e6⟩, (Or.inr (⟨z29, r32, u31, ex30, ⟨fr30, i30430, rs30⟩, rfl, rfl⟩))⟩)⟩, (show 0 ≤ (u31.1 0 304).toInt ∧ (u31.1 0 304).toInt ≤ 1503 from (om_c99648273b i30430)), (RS.tr RS.rf rs30)⟩, by rw [ht9]; exact hP, hD⟩, hS.F ht9⟩) hS.2.2 dX9_scanOne_35
  · have z33 : r3.toInt = (-1 : Int) := eq_z rfl (show ((-1) : Int32).toInt = (-1 : Int) by decide) h4
    refine lv_aload_n hx hb dX9_scanOne_14 rfl (lv_at hl 1 rfl) ?_
    refine lv_iconst (v := 0) hx hb dX9_scanOne_15 (by decide) ?_
    refine lv_iload_n hx hb dX9_scanOne_16 rfl (lv_at hl 2 rfl) ?_
    refine lv_iconst (v := 0) hx hb dX9_scanOne_17 (by decide) ?_
    refine lv_iconst (v := 0) hx hb dX9_scanOne_18 (by decide) ?_
    refine cu_i (rn_Vk (n := 4) (As := [.int 0, .int pa, .int 0, .int 0]) (rest := []) hx hb hml hown ht hKK hFx hP hD hS hA (c_x_X9_add l dC dI cI cB cZ cJ cR tb H.size ad pr N L1 L2 v (0 : Int32) pa (0 : Int32) (0 : Int32) (show 0 ≤ (v.1 0 304).toInt ∧ (v.1 0 304).toInt ≤ 1503 from (om_c99648273b z304))) tw_427 tw_428 (by decide +kernel) rfl rfl ⟨Nat.le_of_ble_eq_true rfl, Nat.le_of_ble_eq_true rfl⟩ (List.range (cW ad pr N cI cR L1 L2 v).length) (rg_map _) (nd_range _) 0 rfl rfl rfl rfl hl.1 rfl (Nat.le_of_ble_eq_true rfl) dX9_scanOne_19 ⟨Nat.le_of_ble_eq_true rfl, Nat.le_of_ble_eq_true rfl⟩) hP hD hS hA (fun r36 u35 H locs hw34 hP hD hS => ?_)
    obtain ⟨fr34, ex34, i30434, rs34⟩ := hw34
    refine W.widen (k := 0) (n := 0) (Nat.le_refl _) (Nat.le_refl _) ?_
    exact W.iret (v := r36) hx hb hr (fun t ht9 hW => ⟨⟨r36, u35, rfl, ⟨(FC.tr (FC.rf _) (FC.up fr34 (by decide) (by decide))), ⟨z304, z373, r3, ex1, (Or.inr (⟨z33, r36, u35, ex34, ⟨fr34, i30434, rs34⟩, rfl, rfl⟩))⟩, (show 0 ≤ (u35.1 0 304).toInt ∧ (u35.1 0 304).toInt ≤ 1503 from (om_c99648273b i30434)), (RS.tr RS.rf rs34)⟩, by rw [ht9]; exact hP, hD⟩, hS.F ht9⟩) hS.2.2 dX9_scanOne_22
theorem om_96184fa03a : 0 ≤ (0 : Int) ∧ (0 : Int) ≤ 1503 := by omega
theorem om_b1c23a1f42 : 0 ≤ (0 : Int) ∧ (0 : Int) ≤ 1500 := by omega
theorem om_35e9ddc021 : 0 ≤ (0 : Int) ∧ (0 : Int) ≤ 40 := by omega
theorem om_547bcd02c1 {x0 : Int} (h0 : 0 ≤ x0 ∧ x0 ≤ 1500) (h1 : x0 = 0) : 0 ≤ x0 ∧ x0 ≤ 1500 := by omega
theorem om_8d889e46da {x0 : Int} (h0 : 0 ≤ x0 ∧ x0 ≤ 1500) (h1 : x0 = 0) : x0 = 0 := by omega
theorem om_365fed3308 {x0 x1 : Int} (h0 : 0 ≤ x0 ∧ x0 ≤ 1500) (h1 : x0 = 0) (h2 : x1 = x0) : 0 ≤ x1 ∧ x1 ≤ 1500 := by omega
theorem om_013f75a304 {x0 x1 : Int} (h0 : 0 ≤ x0 ∧ x0 ≤ 1500) (h1 : x0 = 0) (h2 : x1 = x0) : x1 = 0 := by omega
theorem om_54c66431cd {x0 : Int} (h0 : 0 ≤ x0 ∧ x0 ≤ 1503) : -2147483648 ≤ x0 + (1 : Int) := by omega
theorem om_3e879deb31 {x0 : Int} (h0 : 0 ≤ x0 ∧ x0 ≤ 1503) : x0 + (1 : Int) < 2147483648 := by omega
theorem om_01aac76a24 {x0 x1 : Int} (h0 : 0 ≤ x0 ∧ x0 ≤ 1503) (h1 : x0 < (1503 : Int)) (h2 : x1 = x0 + (1 : Int)) : 0 ≤ x1 ∧ x1 ≤ 1503 := by omega
theorem om_6ea5bdad63 {x0 x1 : Int} (h0 : x0 = x1 + (1 : Int)) : 1503 - x0 < 1503 - x1 := by omega
theorem om_355c119233 {x0 : Int} (h0 : x0 < (1503 : Int)) : 0 < 1503 - x0 := by omega
set_option maxHeartbeats 4000000 in
set_option maxRecDepth 100000 in
theorem c_x_X9_scan (l : Launch) (dC : Nat → ClassId) (dI : Nat → Nat → Nat) (cI cB cZ cJ cR : ClassId) (tb : Nat → Nat) (sz : Nat) (ad : Nat → Nat) (pr : Int32 → Nat) (N : Nat) (L1 L2 : List Nat) (v : MS) (ps : Int32) (hps : pr ps = ad 908) (z373 : 0 ≤ (v.1 0 373).toInt ∧ (v.1 0 373).toInt ≤ 4000) : Met l yX9_scan (Cond.code yX9_scan cX9_scan 4 none :: tw_W) ({ frames := 7, cells := 0, slots := 0, locals := 159 }) (pc_ (dC, dI) (tyS cI cB cZ cJ cR) tb (cW ad pr N cI cR L1 L2 v) sz [.ref (ad 900), .ref (pr ps)]) (qv_ (dC, dI) (cW ad pr N cI cR L1 L2 v) sz (fun (u : MS) => FC [300, 304, 305, 306, 307, 308, 309] [0, 301, 302, 303] v u ∧ (Q_x_X9_scan L1 L2 v ps u) ∧ (0 ≤ (u.1 0 304).toInt ∧ (u.1 0 304).toInt ≤ 1503) ∧ (0 ≤ (u.1 0 305).toInt ∧ (u.1 0 305).toInt ≤ 1500) ∧ (0 ≤ (u.1 0 306).toInt ∧ (u.1 0 306).toInt ≤ 40) ∧ ((u.1 0 305).toInt = 0) ∧ (u.1 0 300 = ps) ∧ (RS v u)) (fun (u : MS) => (cW ad pr N cI cR L1 L2 u))) 0 0 (va_A (cW ad pr N cI cR L1 L2 v) sz) := by
  refine Met.ofW (cc := cX9_scan) (maxL := 4) (ret := none) (by decide) rfl ?_
  intro p e s m args below meth c s₁ B hml hv
  obtain ⟨rfl, hsz, hP, hKK, hD0, hFx⟩ := hv
  have hK := hKK.1
  have hx := B.exec
  have hb := B.bytes
  have hr := B.returns
  have ht : ∀ w ∈ tw_W, w.before _ s = true := fun w h => atoms_spec (ws := Cond.code yX9_scan cX9_scan 4 none :: tw_W) B.pre w (List.mem_cons_of_mem _ h)
  have hown : s.vm.findClass RX9 = some m.cls := findClass_of_methodNamed B.named
  have hlocks := B.notSynchronized
  subst hsz
  unfold qv_
  have hD := hD0.self (sz := s.heap.size)
  generalize hAe : va_A (cW ad pr N cI cR L1 L2 v) s.heap.size = A at hD hFx ⊢
  have hA : ∀ q : Nat, s.heap.size ≤ q → A q := fun q h => by rw [← hAe]; exact Or.inr h
  have hS : va_S A s.heap s.heap [] := va_S.rf
  have hl := lv_entry ([.ref (ad 900), .ref (pr ps)]) (n := 4) (Nat.le_of_ble_eq_true rfl)
  rw [lg_entry_eq]
  generalize (lg_sl ([.ref (ad 900), .ref (pr ps)]) ++ List.replicate (4 - (lg_sl ([.ref (ad 900), .ref (pr ps)])).length) Slot.unset).toArray = ls at hl ⊢
  have hl : lv_has ls 4 [(0, .ref (ad 900)), (1, .ref (pr ps))] := hl
  refine lv_aload_n hx hb dX9_scan_0 rfl (lv_at hl 0 rfl) ?_
  refine lv_aload_n hx hb dX9_scan_1 rfl (lv_at hl 1 rfl) ?_
  refine va_put (D := (dC, dI)) (ci := 12) (fs := oF_X9 ad pr v) (v := .ref (pr ps)) (ty := .object "PocketCompiler$Program") (C := RX9) (T := TX9) (N := 10) hx hb ht itX9 tyX9 tyX9_ok nmX9 hown hK hP hD hS 0 rfl rfl 0 (by decide) (ht _ tw_415) (fun _ h9 => h9) rfl (by decide +kernel) rfl rfl (Nat.le_of_ble_eq_true rfl) dX9_scan_2 (fun H locs hP hD hS => ?_)
  have hP := cP_ (cw_300 ad pr N cI cR L1 L2 v ps) hP
  have hD := cD_ (cw_300 ad pr N cI cR L1 L2 v ps) hD
  refine lv_aload_n hx hb dX9_scan_5 rfl (lv_at hl 0 rfl) ?_
  refine lv_iconst (v := 0) hx hb dX9_scan_6 (by decide) ?_
  refine va_put (D := (dC, dI)) (ci := 12) (fs := oF_X9 ad pr (wA v 0 300 ps)) (v := .int 0) (ty := .int) (C := RX9) (T := TX9) (N := 10) hx hb ht itX9 tyX9 tyX9_ok nmX9 hown hK hP hD hS 0 rfl rfl 4 (by decide) (ht _ tw_411) (fun _ h9 => h9) rfl (by decide +kernel) rfl rfl (Nat.le_of_ble_eq_true rfl) dX9_scan_7 (fun H locs hP hD hS => ?_)
  have hP := cP_ (cw_304 ad pr N cI cR L1 L2 (wA v 0 300 ps) 0) hP
  have hD := cD_ (cw_304 ad pr N cI cR L1 L2 (wA v 0 300 ps) 0) hD
  refine lv_aload_n hx hb dX9_scan_10 rfl (lv_at hl 0 rfl) ?_
  refine lv_iconst (v := 0) hx hb dX9_scan_11 (by decide) ?_
  refine va_put (D := (dC, dI)) (ci := 12) (fs := oF_X9 ad pr (wA (wA v 0 300 ps) 0 304 0)) (v := .int 0) (ty := .int) (C := RX9) (T := TX9) (N := 10) hx hb ht itX9 tyX9 tyX9_ok nmX9 hown hK hP hD hS 0 rfl rfl 5 (by decide) (ht _ tw_444) (fun _ h9 => h9) rfl (by decide +kernel) rfl rfl (Nat.le_of_ble_eq_true rfl) dX9_scan_12 (fun H locs hP hD hS => ?_)
  have hP := cP_ (cw_305 ad pr N cI cR L1 L2 (wA (wA v 0 300 ps) 0 304 0) 0) hP
  have hD := cD_ (cw_305 ad pr N cI cR L1 L2 (wA (wA v 0 300 ps) 0 304 0) 0) hD
  refine lv_aload_n hx hb dX9_scan_15 rfl (lv_at hl 0 rfl) ?_
  refine lv_iconst (v := 0) hx hb dX9_scan_16 (by decide) ?_
  refine va_put (D := (dC, dI)) (ci := 12) (fs := oF_X9 ad pr (wA (wA (wA v 0 300 ps) 0 304 0) 0 305 0)) (v := .int 0) (ty := .int) (C := RX9) (T := TX9) (N := 10) hx hb ht itX9 tyX9 tyX9_ok nmX9 hown hK hP hD hS 0 rfl rfl 6 (by decide) (ht _ tw_445) (fun _ h9 => h9) rfl (by decide +kernel) rfl rfl (Nat.le_of_ble_eq_true rfl) dX9_scan_17 (fun H locs hP hD hS => ?_)
  have hP := cP_ (cw_306 ad pr N cI cR L1 L2 (wA (wA (wA v 0 300 ps) 0 304 0) 0 305 0) 0) hP
  have hD := cD_ (cw_306 ad pr N cI cR L1 L2 (wA (wA (wA v 0 300 ps) 0 304 0) 0 305 0) 0) hD
  refine lv_aload_n hx hb dX9_scan_20 rfl (lv_at hl 0 rfl) ?_
  refine lv_iconst (v := -1) hx hb dX9_scan_21 (by decide) ?_
  refine va_put (D := (dC, dI)) (ci := 12) (fs := oF_X9 ad pr (wA (wA (wA (wA v 0 300 ps) 0 304 0) 0 305 0) 0 306 0)) (v := .int (-1)) (ty := .int) (C := RX9) (T := TX9) (N := 10) hx hb ht itX9 tyX9 tyX9_ok nmX9 hown hK hP hD hS 0 rfl rfl 7 (by decide) (ht _ tw_446) (fun _ h9 => h9) rfl (by decide +kernel) rfl rfl (Nat.le_of_ble_eq_true rfl) dX9_scan_22 (fun H locs hP hD hS => ?_)
  have hP := cP_ (cw_307 ad pr N cI cR L1 L2 (wA (wA (wA (wA v 0 300 ps) 0 304 0) 0 305 0) 0 306 0) (-1)) hP
  have hD := cD_ (cw_307 ad pr N cI cR L1 L2 (wA (wA (wA (wA v 0 300 ps) 0 304 0) 0 305 0) 0 306 0) (-1)) hD
  refine lv_aload_n hx hb dX9_scan_25 rfl (lv_at hl 0 rfl) ?_
  refine lv_iconst (v := 0) hx hb dX9_scan_26 (by decide) ?_
  refine va_put (D := (dC, dI)) (ci := 12) (fs := oF_X9 ad pr (wA (wA (wA (wA (wA v 0 300 ps) 0 304 0) 0 305 0) 0 306 0) 0 307 (-1))) (v := .int 0) (ty := .int) (C := RX9) (T := TX9) (N := 10) hx hb ht itX9 tyX9 tyX9_ok nmX9 hown hK hP hD hS 0 rfl rfl 8 (by decide) (ht _ tw_447) (fun _ h9 => h9) rfl (by decide +kernel) rfl rfl (Nat.le_of_ble_eq_true rfl) dX9_scan_27 (fun H locs hP hD hS => ?_)
  have hP := cP_ (cw_308 ad pr N cI cR L1 L2 (wA (wA (wA (wA (wA v 0 300 ps) 0 304 0) 0 305 0) 0 306 0) 0 307 (-1)) 0) hP
  have hD := cD_ (cw_308 ad pr N cI cR L1 L2 (wA (wA (wA (wA (wA v 0 300 ps) 0 304 0) 0 305 0) 0 306 0) 0 307 (-1)) 0) hD
  refine lv_aload_n hx hb dX9_scan_30 rfl (lv_at hl 0 rfl) ?_
  refine lv_iconst (v := -1) hx hb dX9_scan_31 (by decide) ?_
  refine va_put (D := (dC, dI)) (ci := 12) (fs := oF_X9 ad pr (wA (wA (wA (wA (wA (wA v 0 300 ps) 0 304 0) 0 305 0) 0 306 0) 0 307 (-1)) 0 308 0)) (v := .int (-1)) (ty := .int) (C := RX9) (T := TX9) (N := 10) hx hb ht itX9 tyX9 tyX9_ok nmX9 hown hK hP hD hS 0 rfl rfl 9 (by decide) (ht _ tw_448) (fun _ h9 => h9) rfl (by decide +kernel) rfl rfl (Nat.le_of_ble_eq_true rfl) dX9_scan_32 (fun H locs hP hD hS => ?_)
  have hP := cP_ (cw_309 ad pr N cI cR L1 L2 (wA (wA (wA (wA (wA (wA v 0 300 ps) 0 304 0) 0 305 0) 0 306 0) 0 307 (-1)) 0 308 0) (-1)) hP
  have hD := cD_ (cw_309 ad pr N cI cR L1 L2 (wA (wA (wA (wA (wA (wA v 0 300 ps) 0 304 0) 0 305 0) 0 306 0) 0 307 (-1)) 0 308 0) (-1)) hD
  refine lv_iconst (v := 0) hx hb dX9_scan_35 (by decide) ?_
  refine lv_istore_n (lv' := [(2, .int 0), (0, .ref (ad 900)), (1, .ref (pr ps))]) hx hb dX9_scan_36 rfl hl (by decide) rfl (fun ls hl => ?_)
  refine lv_iconst (v := 0) hx hb dX9_scan_37 (by decide) ?_
  refine lv_istore_n (lv' := [(3, .int 0), (2, .int 0), (0, .ref (ad 900)), (1, .ref (pr ps))]) hx hb dX9_scan_38 rfl hl (by decide) rfl (fun ls hl => ?_)
  refine lpm_ (X := Int32 × Int32 × MS) (P := (fun (x9 : Int32 × Int32 × MS) (H : Heap) (locs : List Loc) (ls : Array Slot) => (FC [300, 304, 305, 306, 307, 308, 309] [0, 301, 302, 303] v x9.2.2) ∧ (0 ≤ (x9.2.2.1 0 304).toInt ∧ (x9.2.2.1 0 304).toInt ≤ 1503) ∧ (0 ≤ (x9.2.2.1 0 305).toInt ∧ (x9.2.2.1 0 305).toInt ≤ 1500) ∧ (0 ≤ (x9.2.2.1 0 306).toInt ∧ (x9.2.2.1 0 306).toInt ≤ 40) ∧ (0 ≤ x9.2.1.toInt ∧ x9.2.1.toInt ≤ 1503) ∧ ((x9.2.2.1 0 305).toInt = 0) ∧ ((x9.2.2.1 0 300) = ps) ∧ (RS v x9.2.2) ∧ (RT (Q_x_X9_scan_L0 L1 L2 v) (0, 0, (wA (wA (wA (wA (wA (wA (wA v 0 300 ps) 0 304 0) 0 305 0) 0 306 0) 0 307 (-1)) 0 308 0) 0 309 (-1))) (x9.1, x9.2.1, x9.2.2)) ∧ va_P (dC, dI) vwCl (cW ad pr N cI cR L1 L2 x9.2.2) H ∧ va_D A (cW ad pr N cI cR L1 L2 x9.2.2) ∧ va_S A s.heap H locs ∧ lv_has ls 4 [(3, .int x9.2.1), (2, .int x9.1), (0, .ref (ad 900)), (1, .ref (pr ps))])) (fun x9 => (1503 - x9.2.1.toInt).toNat) 39 (fun x9 H locs ls hh ih39 => ?_) (0, 0, (wA (wA (wA (wA (wA (wA (wA v 0 300 ps) 0 304 0) 0 305 0) 0 306 0) 0 307 (-1)) 0 308 0) 0 309 (-1))) _ _ _ ⟨(show FC [300, 304, 305, 306, 307, 308, 309] [0, 301, 302, 303] v (wA (wA (wA (wA (wA (wA (wA v 0 300 ps) 0 304 0) 0 305 0) 0 306 0) 0 307 (-1)) 0 308 0) 0 309 (-1)) from (FC.f (FC.f (FC.f (FC.f (FC.f (FC.f (FC.f (FC.rf _) ps (by decide)) 0 (by decide)) 0 (by decide)) 0 (by decide)) (-1) (by decide)) 0 (by decide)) (-1) (by decide))), (show 0 ≤ (0 : Int) ∧ (0 : Int) ≤ 1503 from om_96184fa03a), (show 0 ≤ (0 : Int) ∧ (0 : Int) ≤ 1500 from om_b1c23a1f42), (show 0 ≤ (0 : Int) ∧ (0 : Int) ≤ 40 from om_35e9ddc021), (show 0 ≤ (0 : Int) ∧ (0 : Int) ≤ 1503 from om_96184fa03a), (show (0 : Int) = 0 from om_3ff73904e8), (show ps = ps from rfl), (show RS v (wA (wA (wA (wA (wA (wA (wA v 0 300 ps) 0 304 0) 0 305 0) 0 306 0) 0 307 (-1)) 0 308 0) 0 309 (-1)) from (RS.w0 (RS.w0 (RS.w0 (RS.w0 (RS.w0 (RS.w0 (RS.w0 RS.rf (by decide)) (by decide)) (by decide)) (by decide)) (by decide)) (by decide)) (by decide))), RT.rf, hP, hD, hS, lv_sub hl [0, 1, 2, 3] rfl⟩
  obtain ⟨pl, ka, w39⟩ := x9
  obtain ⟨fwL39, i304L39, i305L39, i306L39, f1L39, p305L39, slL39, rsL39, exL39, hP, hD, hS, hl⟩ := hh
  have fwL39 : FC [300, 304, 305, 306, 307, 308, 309] [0, 301, 302, 303] v w39 := fwL39
  have i304L39 : 0 ≤ (w39.1 0 304).toInt ∧ (w39.1 0 304).toInt ≤ 1503 := i304L39
  have i305L39 : 0 ≤ (w39.1 0 305).toInt ∧ (w39.1 0 305).toInt ≤ 1500 := i305L39
  have i306L39 : 0 ≤ (w39.1 0 306).toInt ∧ (w39.1 0 306).toInt ≤ 40 := i306L39
  have f1L39 : 0 ≤ ka.toInt ∧ ka.toInt ≤ 1503 := f1L39
  have p305L39 : (w39.1 0 305).toInt = 0 := p305L39
  have slL39 : (w39.1 0 300) = ps := slL39
  have rsL39 : RS v w39 := rsL39
  have hP : va_P (dC, dI) vwCl (cW ad pr N cI cR L1 L2 w39) H := hP
  have hD : va_D A (cW ad pr N cI cR L1 L2 w39) := hD
  have hl : lv_has ls 4 [(3, .int ka), (2, .int pl), (0, .ref (ad 900)), (1, .ref (pr ps))] := hl
  refine lv_iload_n hx hb dX9_scan_39 rfl (lv_at hl 0 rfl) ?_
  refine lv_sipush (v := 1503) hx hb dX9_scan_40 (by decide) ?_
  refine lv_icmp_ge (tgt := 82) hx hb dX9_scan_43 (by decide) (fun h1 => ?_) (fun h1 => ?_)
  · have z2 : (1503 : Int) ≤ ka.toInt := le_z (show (1503 : Int32).toInt = (1503 : Int) by decide) rfl h1
    exact W.vret hx hb hr (fun t ht9 hW => ⟨⟨w39, rfl, ⟨(FC.tr (FC.rf _) (FC.up fwL39 (by decide) (by decide))), ⟨z373, pl, ka, w39, exL39, fwL39, i304L39, i305L39, i306L39, f1L39, p305L39, rsL39, (Or.inl ⟨z2, rfl⟩)⟩, (show 0 ≤ (w39.1 0 304).toInt ∧ (w39.1 0 304).toInt ≤ 1503 from (om_c99648273b i304L39)), (show 0 ≤ (w39.1 0 305).toInt ∧ (w39.1 0 305).toInt ≤ 1500 from (om_547bcd02c1 i305L39 p305L39)), (show 0 ≤ (w39.1 0 306).toInt ∧ (w39.1 0 306).toInt ≤ 40 from (om_7eaf33e007 i306L39)), (show (w39.1 0 305).toInt = 0 from (om_8d889e46da i305L39 p305L39)), slL39, (RS.tr RS.rf rsL39)⟩, by rw [ht9]; exact hP, hD⟩, hS.F ht9⟩) hS.2.2 dX9_scan_82
  · have z3 : ka.toInt < (1503 : Int) := nle_z (show (1503 : Int32).toInt = (1503 : Int) by decide) rfl h1
    refine lv_aload_n hx hb dX9_scan_46 rfl (lv_at hl 2 rfl) ?_
    refine lv_aload_n hx hb dX9_scan_47 rfl (lv_at hl 2 rfl) ?_
    refine lv_iload_n hx hb dX9_scan_48 rfl (lv_at hl 1 rfl) ?_
    have q4 : (w39.1 0 373).toInt = (v.1 0 373).toInt := congrArg Int32.toInt ((fwL39.2.1 373 (by decide)).trans (show v.1 0 373 = (v.1 0 373) by rfl))
    refine cu_i (rn_Vk (n := 1) (As := [.int pl]) (rest := [.ref (ad 900)]) hx hb hml hown ht hKK hFx hP hD hS hA (c_x_X9_behindBlanks l dC dI cI cB cZ cJ cR tb H.size ad pr N L1 L2 w39 pl ps (show 0 ≤ (w39.1 0 373).toInt ∧ (w39.1 0 373).toInt ≤ 4000 from (om_9084c127ed z373 q4)) (show pr ps = ad 908 from hps) (show (w39.1 0 300) = ps from slL39)) tw_449 tw_450 (by decide +kernel) rfl rfl ⟨Nat.le_of_ble_eq_true rfl, Nat.le_of_ble_eq_true rfl⟩ (List.range (cW ad pr N cI cR L1 L2 w39).length) (rg_map _) (nd_range _) 0 rfl rfl rfl rfl hl.1 rfl (Nat.le_of_ble_eq_true rfl) dX9_scan_49 ⟨Nat.le_of_ble_eq_true rfl, Nat.le_of_ble_eq_true rfl⟩) hP hD hS hA (fun r7 u6 H locs hw5 hP hD hS => ?_)
    obtain ⟨rfl, ex5⟩ := hw5
    refine W.widen (k := 0) (n := 0) (Nat.le_refl _) (Nat.le_refl _) ?_
    refine cu_i (rn_Vk (n := 1) (As := [.int r7]) (rest := []) hx hb hml hown ht hKK hFx hP hD hS hA (c_x_X9_scanOne l dC dI cI cB cZ cJ cR tb H.size ad pr N L1 L2 w39 r7 ps (show 0 ≤ (w39.1 0 304).toInt ∧ (w39.1 0 304).toInt ≤ 1503 from (om_c99648273b i304L39)) (show 0 ≤ (w39.1 0 373).toInt ∧ (w39.1 0 373).toInt ≤ 4000 from (om_9084c127ed z373 q4)) (show pr ps = ad 908 from hps) (show (w39.1 0 300) = ps from slL39)) tw_451 tw_452 (by decide +kernel) rfl rfl ⟨Nat.le_of_ble_eq_true rfl, Nat.le_of_ble_eq_true rfl⟩ (List.range (cW ad pr N cI cR L1 L2 w39).length) (rg_map _) (nd_range _) 0 rfl rfl rfl rfl hl.1 rfl (Nat.le_of_ble_eq_true rfl) dX9_scan_52 ⟨Nat.le_of_ble_eq_true rfl, Nat.le_of_ble_eq_true rfl⟩) hP hD hS hA (fun r11 u10 H locs hw8 hP hD hS => ?_)
    obtain ⟨fr8, ex8, i3048, rs8⟩ := hw8
    have i3048 : 0 ≤ (u10.1 0 304).toInt ∧ (u10.1 0 304).toInt ≤ 1503 := i3048
    have rs8 : RS w39 u10 := rs8
    refine W.widen (k := 0) (n := 0) (Nat.le_refl _) (Nat.le_refl _) ?_
    refine lv_istore_n (lv' := [(2, .int r11), (3, .int ka), (0, .ref (ad 900)), (1, .ref (pr ps))]) hx hb dX9_scan_55 rfl hl (by decide) rfl (fun ls hl => ?_)
    refine lv_aload_n hx hb dX9_scan_56 rfl (lv_at hl 2 rfl) ?_
    refine va_get (D := (dC, dI)) (ci := 12) (fs := oF_X9 ad pr u10) (v := .ref (ad 301)) (C := RX9) (T := TX9) (N := 10) hx hb ht itX9 hown hK hP 0 rfl rfl 1 (by decide) (ht _ tw_412) (fun _ h9 => h9) rfl dX9_scan_57 ?_
    refine lv_iload_n hx hb dX9_scan_60 rfl (lv_at hl 1 rfl) ?_
    refine va_iald (D := (dC, dI)) (f := (u10.1 301)) hx hb hK hP 10 0 rfl rfl (in_y (a := ka.toInt) (b := 1503) rfl (om_fb6af053eb f1L39) (om_38135f3232 z3) rfl) dX9_scan_61 ?_
    refine lv_if_eq (tgt := 75) hx hb dX9_scan_62 (by decide) (fun h12 => ?_) (fun h12 => ?_)
    · have z13 : ((u10.1 301) ka.toNatClampNeg).toInt = (0 : Int) := eq_z rfl (show (0 : Int32).toInt = (0 : Int) by decide) h12
      have q14 : (u10.1 0 305).toInt = (w39.1 0 305).toInt := congrArg Int32.toInt ((fr8.2.1 305 (by decide)).trans (show w39.1 0 305 = (w39.1 0 305) by rfl))
      have q15 : (u10.1 0 306).toInt = (w39.1 0 306).toInt := congrArg Int32.toInt ((fr8.2.1 306 (by decide)).trans (show w39.1 0 306 = (w39.1 0 306) by rfl))
      exact W.vret hx hb hr (fun t ht9 hW => ⟨⟨u10, rfl, ⟨(FC.tr (FC.tr (FC.rf _) (FC.up fwL39 (by decide) (by decide))) (FC.up fr8 (by decide) (by decide))), ⟨z373, pl, ka, w39, exL39, fwL39, i304L39, i305L39, i306L39, f1L39, p305L39, rsL39, (Or.inr (⟨z3, r7, ex5, r11, u10, ex8, ⟨fr8, i3048, rs8⟩, (Or.inl ⟨z13, rfl⟩)⟩))⟩, (show 0 ≤ (u10.1 0 304).toInt ∧ (u10.1 0 304).toInt ≤ 1503 from (om_c99648273b i3048)), (show 0 ≤ (u10.1 0 305).toInt ∧ (u10.1 0 305).toInt ≤ 1500 from (om_365fed3308 i305L39 p305L39 q14)), (show 0 ≤ (u10.1 0 306).toInt ∧ (u10.1 0 306).toInt ≤ 40 from (om_99e115f631 i306L39 q15)), (show (u10.1 0 305).toInt = 0 from (om_013f75a304 i305L39 p305L39 q14)), (Eq.trans (fr8.2.1 300 (by decide)) slL39), (RS.tr (RS.tr RS.rf rsL39) rs8)⟩, by rw [ht9]; exact hP, hD⟩, hS.F ht9⟩) hS.2.2 dX9_scan_75
    · have z16 : ((u10.1 301) ka.toNatClampNeg).toInt ≠ (0 : Int) := ne_z rfl (show (0 : Int32).toInt = (0 : Int) by decide) h12
      refine lv_aload_n hx hb dX9_scan_65 rfl (lv_at hl 2 rfl) ?_
      refine va_get (D := (dC, dI)) (ci := 12) (fs := oF_X9 ad pr u10) (v := .ref (ad 301)) (C := RX9) (T := TX9) (N := 10) hx hb ht itX9 hown hK hP 0 rfl rfl 1 (by decide) (ht _ tw_412) (fun _ h9 => h9) rfl dX9_scan_66 ?_
      refine lv_iload_n hx hb dX9_scan_69 rfl (lv_at hl 1 rfl) ?_
      refine va_iald (D := (dC, dI)) (f := (u10.1 301)) hx hb hK hP 10 0 rfl rfl (in_y (a := ka.toInt) (b := 1503) rfl (om_fb6af053eb f1L39) (om_38135f3232 z3) rfl) dX9_scan_70 ?_
      refine lv_iconst (v := 1) hx hb dX9_scan_71 (by decide) ?_
      refine lv_icmp_ne (tgt := 76) hx hb dX9_scan_72 (by decide) (fun h17 => ?_) (fun h17 => ?_)
      · have z18 : ((u10.1 301) ka.toNatClampNeg).toInt ≠ (1 : Int) := ne_z rfl (show (1 : Int32).toInt = (1 : Int) by decide) h17
        refine lv_iinc (v := (ka + (1 : Int32))) (lv' := [(3, .int (ka + (1 : Int32))), (2, .int r11), (0, .ref (ad 900)), (1, .ref (pr ps))]) hx hb dX9_scan_76 hl (k := 1) rfl (rfl) (by decide) rfl (fun ls hl => ?_)
        have z19 : (ka + (1 : Int32)).toInt = ka.toInt + (1 : Int) := add_z rfl (show (1 : Int32).toInt = (1 : Int) by decide) (om_54c66431cd f1L39) (om_3e879deb31 f1L39)
        refine lv_goto (tgt := 39) hx hb dX9_scan_79 (by decide) ?_
        have q20 : (u10.1 0 305).toInt = (w39.1 0 305).toInt := congrArg Int32.toInt ((fr8.2.1 305 (by decide)).trans (show w39.1 0 305 = (w39.1 0 305) by rfl))
        have q21 : (u10.1 0 306).toInt = (w39.1 0 306).toInt := congrArg Int32.toInt ((fr8.2.1 306 (by decide)).trans (show w39.1 0 306 = (w39.1 0 306) by rfl))
        exact ih39 (r11, (ka + (1 : Int32)), u10) _ _ _ (show (1503 - (ka + (1 : Int32)).toInt).toNat < (1503 - ka.toInt).toNat from tn_z (om_6ea5bdad63 z19) (om_355c119233 z3)) ⟨(show FC [300, 304, 305, 306, 307, 308, 309] [0, 301, 302, 303] v u10 from (FC.tr (FC.tr (FC.rf _) (FC.up fwL39 (by decide) (by decide))) (FC.up fr8 (by decide) (by decide)))), (show 0 ≤ (u10.1 0 304).toInt ∧ (u10.1 0 304).toInt ≤ 1503 from (om_c99648273b i3048)), (show 0 ≤ (u10.1 0 305).toInt ∧ (u10.1 0 305).toInt ≤ 1500 from (om_365fed3308 i305L39 p305L39 q20)), (show 0 ≤ (u10.1 0 306).toInt ∧ (u10.1 0 306).toInt ≤ 40 from (om_99e115f631 i306L39 q21)), (show 0 ≤ (ka + (1 : Int32)).toInt ∧ (ka + (1 : Int32)).toInt ≤ 1503 from (om_01aac76a24 f1L39 z3 z19)), (show (u10.1 0 305).toInt = 0 from (om_013f75a304 i305L39 p305L39 q20)), (show (u10.1 0 300) = ps from (Eq.trans (fr8.2.1 300 (by decide)) slL39)), (show RS v u10 from (RS.tr (RS.tr RS.rf rsL39) rs8)), (RT.st exL39 ⟨fwL39, i304L39, i305L39, i306L39, f1L39, p305L39, rsL39, z3, r7, ex5, r11, u10, ex8, ⟨fr8, i3048, rs8⟩, z16, z18, rfl⟩), hP, hD, hS, lv_sub hl [0, 1, 2, 3] rfl⟩
      · have z22 : ((u10.1 301) ka.toNatClampNeg).toInt = (1 : Int) := eq_z rfl (show (1 : Int32).toInt = (1 : Int) by decide) h17
        have q23 : (u10.1 0 305).toInt = (w39.1 0 305).toInt := congrArg Int32.toInt ((fr8.2.1 305 (by decide)).trans (show w39.1 0 305 = (w39.1 0 305) by rfl))
        have q24 : (u10.1 0 306).toInt = (w39.1 0 306).toInt := congrArg Int32.toInt ((fr8.2.1 306 (by decide)).trans (show w39.1 0 306 = (w39.1 0 306) by rfl))
        exact W.vret hx hb hr (fun t ht9 hW => ⟨⟨u10, rfl, ⟨(FC.tr (FC.tr (FC.rf _) (FC.up fwL39 (by decide) (by decide))) (FC.up fr8 (by decide) (by decide))), ⟨z373, pl, ka, w39, exL39, fwL39, i304L39, i305L39, i306L39, f1L39, p305L39, rsL39, (Or.inr (⟨z3, r7, ex5, r11, u10, ex8, ⟨fr8, i3048, rs8⟩, (Or.inr (⟨z16, z22, rfl⟩))⟩))⟩, (show 0 ≤ (u10.1 0 304).toInt ∧ (u10.1 0 304).toInt ≤ 1503 from (om_c99648273b i3048)), (show 0 ≤ (u10.1 0 305).toInt ∧ (u10.1 0 305).toInt ≤ 1500 from (om_365fed3308 i305L39 p305L39 q23)), (show 0 ≤ (u10.1 0 306).toInt ∧ (u10.1 0 306).toInt ≤ 40 from (om_99e115f631 i306L39 q24)), (show (u10.1 0 305).toInt = 0 from (om_013f75a304 i305L39 p305L39 q23)), (Eq.trans (fr8.2.1 300 (by decide)) slL39), (RS.tr (RS.tr RS.rf rsL39) rs8)⟩, by rw [ht9]; exact hP, hD⟩, hS.F ht9⟩) hS.2.2 dX9_scan_75
