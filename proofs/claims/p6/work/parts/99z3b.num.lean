theorem xdJ6_stringSize_0f7a4_0 : decode cJ6_stringSize_0f7a4 0 = .ok (.iconst 1, 1) := by decide +kernel
theorem xdJ6_stringSize_0f7a4_1 : decode cJ6_stringSize_0f7a4 1 = .ok (.istore_n 1, 1) := by decide +kernel
theorem xdJ6_stringSize_0f7a4_2 : decode cJ6_stringSize_0f7a4 2 = .ok (.iload_n 0, 1) := by decide +kernel
theorem xdJ6_stringSize_0f7a4_3 : decode cJ6_stringSize_0f7a4 3 = .ok (.ifCond .lt 8, 3) := by decide +kernel
theorem xdJ6_stringSize_0f7a4_11 : decode cJ6_stringSize_0f7a4 11 = .ok (.bipush (-10), 2) := by decide +kernel
theorem xdJ6_stringSize_0f7a4_13 : decode cJ6_stringSize_0f7a4 13 = .ok (.istore_n 2, 1) := by decide +kernel
theorem xdJ6_stringSize_0f7a4_14 : decode cJ6_stringSize_0f7a4 14 = .ok (.iconst 1, 1) := by decide +kernel
theorem xdJ6_stringSize_0f7a4_15 : decode cJ6_stringSize_0f7a4 15 = .ok (.istore_n 3, 1) := by decide +kernel
theorem xdJ6_stringSize_0f7a4_16 : decode cJ6_stringSize_0f7a4 16 = .ok (.iload_n 3, 1) := by decide +kernel
theorem xdJ6_stringSize_0f7a4_17 : decode cJ6_stringSize_0f7a4 17 = .ok (.bipush 10, 2) := by decide +kernel
theorem xdJ6_stringSize_0f7a4_19 : decode cJ6_stringSize_0f7a4 19 = .ok (.if_icmp .ge 23, 3) := by decide +kernel
theorem xdJ6_stringSize_0f7a4_22 : decode cJ6_stringSize_0f7a4 22 = .ok (.iload_n 0, 1) := by decide +kernel
theorem xdJ6_stringSize_0f7a4_23 : decode cJ6_stringSize_0f7a4 23 = .ok (.iload_n 2, 1) := by decide +kernel
theorem xdJ6_stringSize_0f7a4_24 : decode cJ6_stringSize_0f7a4 24 = .ok (.if_icmp .le 7, 3) := by decide +kernel
theorem xdJ6_stringSize_0f7a4_31 : decode cJ6_stringSize_0f7a4 31 = .ok (.bipush 10, 2) := by decide +kernel
theorem xdJ6_stringSize_0f7a4_33 : decode cJ6_stringSize_0f7a4 33 = .ok (.iload_n 2, 1) := by decide +kernel
theorem xdJ6_stringSize_0f7a4_34 : decode cJ6_stringSize_0f7a4 34 = .ok (.imul, 1) := by decide +kernel
theorem xdJ6_stringSize_0f7a4_35 : decode cJ6_stringSize_0f7a4 35 = .ok (.istore_n 2, 1) := by decide +kernel
theorem xdJ6_stringSize_0f7a4_36 : decode cJ6_stringSize_0f7a4 36 = .ok (.iinc 3 1, 3) := by decide +kernel
theorem xdJ6_stringSize_0f7a4_39 : decode cJ6_stringSize_0f7a4 39 = .ok (.goto (-23), 3) := by decide +kernel
theorem xdJ6_stringSize_0f7a4_42 : decode cJ6_stringSize_0f7a4 42 = .ok (.bipush 10, 2) := by decide +kernel
theorem xdJ6_stringSize_0f7a4_44 : decode cJ6_stringSize_0f7a4 44 = .ok (.iload_n 1, 1) := by decide +kernel
theorem xdJ6_stringSize_0f7a4_45 : decode cJ6_stringSize_0f7a4 45 = .ok (.iadd, 1) := by decide +kernel
theorem xdJ6_stringSize_0f7a4_46 : decode cJ6_stringSize_0f7a4 46 = .ok (.ireturn, 1) := by decide +kernel
theorem xdJ6_stringSize_0f7a4_27 : decode cJ6_stringSize_0f7a4 27 = .ok (.iload_n 3, 1) := by decide +kernel
theorem xdJ6_stringSize_0f7a4_28 : decode cJ6_stringSize_0f7a4 28 = .ok (.iload_n 1, 1) := by decide +kernel
theorem xdJ6_stringSize_0f7a4_29 : decode cJ6_stringSize_0f7a4 29 = .ok (.iadd, 1) := by decide +kernel
theorem xdJ6_stringSize_0f7a4_30 : decode cJ6_stringSize_0f7a4 30 = .ok (.ireturn, 1) := by decide +kernel
theorem xdJ6_stringSize_0f7a4_6 : decode cJ6_stringSize_0f7a4 6 = .ok (.iconst 0, 1) := by decide +kernel
theorem xdJ6_stringSize_0f7a4_7 : decode cJ6_stringSize_0f7a4 7 = .ok (.istore_n 1, 1) := by decide +kernel
theorem xdJ6_stringSize_0f7a4_8 : decode cJ6_stringSize_0f7a4 8 = .ok (.iload_n 0, 1) := by decide +kernel
theorem xdJ6_stringSize_0f7a4_9 : decode cJ6_stringSize_0f7a4 9 = .ok (.ineg, 1) := by decide +kernel
theorem xdJ6_stringSize_0f7a4_10 : decode cJ6_stringSize_0f7a4 10 = .ok (.istore_n 0, 1) := by decide +kernel
theorem xdJ6_getChars_ba4f3_0 : decode cJ6_getChars_ba4f3 0 = .ok (.iload_n 1, 1) := by decide +kernel
theorem xdJ6_getChars_ba4f3_1 : decode cJ6_getChars_ba4f3 1 = .ok (.istore 5, 2) := by decide +kernel
theorem xdJ6_getChars_ba4f3_3 : decode cJ6_getChars_ba4f3 3 = .ok (.iload_n 0, 1) := by decide +kernel
theorem xdJ6_getChars_ba4f3_4 : decode cJ6_getChars_ba4f3 4 = .ok (.ifCond .ge 7, 3) := by decide +kernel
theorem xdJ6_getChars_ba4f3_11 : decode cJ6_getChars_ba4f3 11 = .ok (.iconst 0, 1) := by decide +kernel
theorem xdJ6_getChars_ba4f3_12 : decode cJ6_getChars_ba4f3 12 = .ok (.istore 6, 2) := by decide +kernel
theorem xdJ6_getChars_ba4f3_14 : decode cJ6_getChars_ba4f3 14 = .ok (.iload 6, 2) := by decide +kernel
theorem xdJ6_getChars_ba4f3_16 : decode cJ6_getChars_ba4f3 16 = .ok (.ifCond .ne 6, 3) := by decide +kernel
theorem xdJ6_getChars_ba4f3_19 : decode cJ6_getChars_ba4f3 19 = .ok (.iload_n 0, 1) := by decide +kernel
theorem xdJ6_getChars_ba4f3_20 : decode cJ6_getChars_ba4f3 20 = .ok (.ineg, 1) := by decide +kernel
theorem xdJ6_getChars_ba4f3_21 : decode cJ6_getChars_ba4f3 21 = .ok (.istore_n 0, 1) := by decide +kernel
theorem xdJ6_getChars_ba4f3_22 : decode cJ6_getChars_ba4f3 22 = .ok (.iload_n 0, 1) := by decide +kernel
theorem xdJ6_getChars_ba4f3_23 : decode cJ6_getChars_ba4f3 23 = .ok (.bipush (-100), 2) := by decide +kernel
theorem xdJ6_getChars_ba4f3_25 : decode cJ6_getChars_ba4f3 25 = .ok (.if_icmp .gt 47, 3) := by decide +kernel
theorem xdJ6_getChars_ba4f3_72 : decode cJ6_getChars_ba4f3 72 = .ok (.aload_n 2, 1) := by decide +kernel
theorem xdJ6_getChars_ba4f3_73 : decode cJ6_getChars_ba4f3 73 = .ok (.iinc 5 (-1), 3) := by decide +kernel
theorem xdJ6_getChars_ba4f3_76 : decode cJ6_getChars_ba4f3 76 = .ok (.iload 5, 2) := by decide +kernel
theorem xdJ6_getChars_ba4f3_78 : decode cJ6_getChars_ba4f3 78 = .ok (.getstatic 83, 3) := by decide +kernel
theorem xw_83 : (.fieldLink RJ6 83 "java/lang/Integer" "DigitOnes" "[B" : Cond) ∈ tw_W := tw_in (t8_7 (List.mem_of_getElem? (i := 40) rfl)) rfl
theorem xdJ6_getChars_ba4f3_81 : decode cJ6_getChars_ba4f3 81 = .ok (.iload_n 0, 1) := by decide +kernel
theorem xdJ6_getChars_ba4f3_82 : decode cJ6_getChars_ba4f3 82 = .ok (.ineg, 1) := by decide +kernel
theorem xdJ6_getChars_ba4f3_83 : decode cJ6_getChars_ba4f3 83 = .ok (.baload, 1) := by decide +kernel
theorem xdJ6_getChars_ba4f3_84 : decode cJ6_getChars_ba4f3 84 = .ok (.bastore, 1) := by decide +kernel
theorem xdJ6_getChars_ba4f3_85 : decode cJ6_getChars_ba4f3 85 = .ok (.iload_n 0, 1) := by decide +kernel
theorem xdJ6_getChars_ba4f3_86 : decode cJ6_getChars_ba4f3 86 = .ok (.bipush (-9), 2) := by decide +kernel
theorem xdJ6_getChars_ba4f3_88 : decode cJ6_getChars_ba4f3 88 = .ok (.if_icmp .ge 16, 3) := by decide +kernel
theorem xdJ6_getChars_ba4f3_104 : decode cJ6_getChars_ba4f3 104 = .ok (.iload 6, 2) := by decide +kernel
theorem xdJ6_getChars_ba4f3_106 : decode cJ6_getChars_ba4f3 106 = .ok (.ifCond .eq 12, 3) := by decide +kernel
theorem xdJ6_getChars_ba4f3_118 : decode cJ6_getChars_ba4f3 118 = .ok (.iload 5, 2) := by decide +kernel
theorem xdJ6_getChars_ba4f3_120 : decode cJ6_getChars_ba4f3 120 = .ok (.ireturn, 1) := by decide +kernel
theorem xdJ6_getChars_ba4f3_91 : decode cJ6_getChars_ba4f3 91 = .ok (.aload_n 2, 1) := by decide +kernel
theorem xdJ6_getChars_ba4f3_92 : decode cJ6_getChars_ba4f3 92 = .ok (.iinc 5 (-1), 3) := by decide +kernel
theorem xdJ6_getChars_ba4f3_95 : decode cJ6_getChars_ba4f3 95 = .ok (.iload 5, 2) := by decide +kernel
theorem xdJ6_getChars_ba4f3_97 : decode cJ6_getChars_ba4f3 97 = .ok (.getstatic 87, 3) := by decide +kernel
theorem xw_84 : (.fieldLink RJ6 87 "java/lang/Integer" "DigitTens" "[B" : Cond) ∈ tw_W := tw_in (t8_7 (List.mem_of_getElem? (i := 42) rfl)) rfl
theorem xdJ6_getChars_ba4f3_100 : decode cJ6_getChars_ba4f3 100 = .ok (.iload_n 0, 1) := by decide +kernel
theorem xdJ6_getChars_ba4f3_101 : decode cJ6_getChars_ba4f3 101 = .ok (.ineg, 1) := by decide +kernel
theorem xdJ6_getChars_ba4f3_102 : decode cJ6_getChars_ba4f3 102 = .ok (.baload, 1) := by decide +kernel
theorem xdJ6_getChars_ba4f3_103 : decode cJ6_getChars_ba4f3 103 = .ok (.bastore, 1) := by decide +kernel
theorem xdJ6_getChars_ba4f3_28 : decode cJ6_getChars_ba4f3 28 = .ok (.iload_n 0, 1) := by decide +kernel
theorem xdJ6_getChars_ba4f3_29 : decode cJ6_getChars_ba4f3 29 = .ok (.bipush 100, 2) := by decide +kernel
theorem xdJ6_getChars_ba4f3_31 : decode cJ6_getChars_ba4f3 31 = .ok (.idiv, 1) := by decide +kernel
theorem xdJ6_getChars_ba4f3_32 : decode cJ6_getChars_ba4f3 32 = .ok (.istore_n 3, 1) := by decide +kernel
theorem xdJ6_getChars_ba4f3_33 : decode cJ6_getChars_ba4f3 33 = .ok (.iload_n 3, 1) := by decide +kernel
theorem xdJ6_getChars_ba4f3_34 : decode cJ6_getChars_ba4f3 34 = .ok (.bipush 100, 2) := by decide +kernel
theorem xdJ6_getChars_ba4f3_36 : decode cJ6_getChars_ba4f3 36 = .ok (.imul, 1) := by decide +kernel
theorem xdJ6_getChars_ba4f3_37 : decode cJ6_getChars_ba4f3 37 = .ok (.iload_n 0, 1) := by decide +kernel
theorem xdJ6_getChars_ba4f3_38 : decode cJ6_getChars_ba4f3 38 = .ok (.isub, 1) := by decide +kernel
theorem xdJ6_getChars_ba4f3_39 : decode cJ6_getChars_ba4f3 39 = .ok (.istore 4, 2) := by decide +kernel
theorem xdJ6_getChars_ba4f3_41 : decode cJ6_getChars_ba4f3 41 = .ok (.iload_n 3, 1) := by decide +kernel
theorem xdJ6_getChars_ba4f3_42 : decode cJ6_getChars_ba4f3 42 = .ok (.istore_n 0, 1) := by decide +kernel
theorem xdJ6_getChars_ba4f3_43 : decode cJ6_getChars_ba4f3 43 = .ok (.aload_n 2, 1) := by decide +kernel
theorem xdJ6_getChars_ba4f3_44 : decode cJ6_getChars_ba4f3 44 = .ok (.iinc 5 (-1), 3) := by decide +kernel
theorem xdJ6_getChars_ba4f3_47 : decode cJ6_getChars_ba4f3 47 = .ok (.iload 5, 2) := by decide +kernel
theorem xdJ6_getChars_ba4f3_49 : decode cJ6_getChars_ba4f3 49 = .ok (.getstatic 83, 3) := by decide +kernel
theorem xdJ6_getChars_ba4f3_52 : decode cJ6_getChars_ba4f3 52 = .ok (.iload 4, 2) := by decide +kernel
theorem xdJ6_getChars_ba4f3_54 : decode cJ6_getChars_ba4f3 54 = .ok (.baload, 1) := by decide +kernel
theorem xdJ6_getChars_ba4f3_55 : decode cJ6_getChars_ba4f3 55 = .ok (.bastore, 1) := by decide +kernel
theorem xdJ6_getChars_ba4f3_56 : decode cJ6_getChars_ba4f3 56 = .ok (.aload_n 2, 1) := by decide +kernel
theorem xdJ6_getChars_ba4f3_57 : decode cJ6_getChars_ba4f3 57 = .ok (.iinc 5 (-1), 3) := by decide +kernel
theorem xdJ6_getChars_ba4f3_60 : decode cJ6_getChars_ba4f3 60 = .ok (.iload 5, 2) := by decide +kernel
theorem xdJ6_getChars_ba4f3_62 : decode cJ6_getChars_ba4f3 62 = .ok (.getstatic 87, 3) := by decide +kernel
theorem xdJ6_getChars_ba4f3_65 : decode cJ6_getChars_ba4f3 65 = .ok (.iload 4, 2) := by decide +kernel
theorem xdJ6_getChars_ba4f3_67 : decode cJ6_getChars_ba4f3 67 = .ok (.baload, 1) := by decide +kernel
theorem xdJ6_getChars_ba4f3_68 : decode cJ6_getChars_ba4f3 68 = .ok (.bastore, 1) := by decide +kernel
theorem xdJ6_getChars_ba4f3_69 : decode cJ6_getChars_ba4f3 69 = .ok (.goto (-47), 3) := by decide +kernel
theorem xdJ6_getChars_ba4f3_7 : decode cJ6_getChars_ba4f3 7 = .ok (.iconst 1, 1) := by decide +kernel
theorem xdJ6_getChars_ba4f3_8 : decode cJ6_getChars_ba4f3 8 = .ok (.goto 4, 3) := by decide +kernel
theorem xdJ6_getChars_ba4f3_109 : decode cJ6_getChars_ba4f3 109 = .ok (.aload_n 2, 1) := by decide +kernel
theorem xdJ6_getChars_ba4f3_110 : decode cJ6_getChars_ba4f3 110 = .ok (.iinc 5 (-1), 3) := by decide +kernel
theorem xdJ6_getChars_ba4f3_113 : decode cJ6_getChars_ba4f3 113 = .ok (.iload 5, 2) := by decide +kernel
theorem xdJ6_getChars_ba4f3_115 : decode cJ6_getChars_ba4f3 115 = .ok (.bipush 45, 2) := by decide +kernel
theorem xdJ6_getChars_ba4f3_117 : decode cJ6_getChars_ba4f3 117 = .ok (.bastore, 1) := by decide +kernel
theorem xdJ5_append_c97b9_0 : decode cJ5_append_c97b9 0 = .ok (.aload_n 0, 1) := by decide +kernel
theorem xdJ5_append_c97b9_1 : decode cJ5_append_c97b9 1 = .ok (.getfield 79, 3) := by decide +kernel
theorem xdJ5_append_c97b9_4 : decode cJ5_append_c97b9 4 = .ok (.istore_n 2, 1) := by decide +kernel
theorem xdJ5_append_c97b9_5 : decode cJ5_append_c97b9 5 = .ok (.iload_n 2, 1) := by decide +kernel
theorem xdJ5_append_c97b9_6 : decode cJ5_append_c97b9 6 = .ok (.iload_n 1, 1) := by decide +kernel
theorem xdJ5_append_c97b9_7 : decode cJ5_append_c97b9 7 = .ok (.invokestatic 245, 3) := by decide +kernel
theorem xw_85 : (.code yJ6_stringSize_0f7a4 cJ6_stringSize_0f7a4 4 (some .int) : Cond) ∈ tw_W := tw_in (t8_7 (List.mem_of_getElem? (i := 36) rfl)) rfl
theorem xw_86 : ∀ w ∈ ([.methodLink RJ5 245 yJ6_stringSize_0f7a4, .static yJ6_stringSize_0f7a4, .initialized yJ6_stringSize_0f7a4.cls] : List Cond), w ∈ tw_W := al_c (tw_in (t8_7 (List.mem_of_getElem? (i := 34) rfl)) rfl) (al_c (tw_in (t8_7 (List.mem_of_getElem? (i := 35) rfl)) rfl) (al_c (tw_in (t8_1 (List.mem_of_getElem? (i := 30) rfl)) rfl) al_n))
theorem xdJ5_append_c97b9_10 : decode cJ5_append_c97b9 10 = .ok (.iadd, 1) := by decide +kernel
theorem xdJ5_append_c97b9_11 : decode cJ5_append_c97b9 11 = .ok (.istore_n 3, 1) := by decide +kernel
theorem xdJ5_append_c97b9_12 : decode cJ5_append_c97b9 12 = .ok (.aload_n 0, 1) := by decide +kernel
theorem xdJ5_append_c97b9_13 : decode cJ5_append_c97b9 13 = .ok (.iload_n 3, 1) := by decide +kernel
theorem xdJ5_append_c97b9_14 : decode cJ5_append_c97b9 14 = .ok (.invokevirtual 100, 3) := by decide +kernel
theorem xdJ5_append_c97b9_17 : decode cJ5_append_c97b9 17 = .ok (.aload_n 0, 1) := by decide +kernel
theorem xdJ5_append_c97b9_18 : decode cJ5_append_c97b9 18 = .ok (.invokevirtual 83, 3) := by decide +kernel
theorem xdJ5_append_c97b9_21 : decode cJ5_append_c97b9 21 = .ok (.ifCond .eq 16, 3) := by decide +kernel
theorem xdJ5_append_c97b9_24 : decode cJ5_append_c97b9 24 = .ok (.iload_n 1, 1) := by decide +kernel
theorem xdJ5_append_c97b9_25 : decode cJ5_append_c97b9 25 = .ok (.iload_n 3, 1) := by decide +kernel
theorem xdJ5_append_c97b9_26 : decode cJ5_append_c97b9 26 = .ok (.aload_n 0, 1) := by decide +kernel
theorem xdJ5_append_c97b9_27 : decode cJ5_append_c97b9 27 = .ok (.getfield 15, 3) := by decide +kernel
theorem xdJ5_append_c97b9_30 : decode cJ5_append_c97b9 30 = .ok (.invokestatic 248, 3) := by decide +kernel
theorem xw_87 : (.code yJ6_getChars_ba4f3 cJ6_getChars_ba4f3 7 (some .int) : Cond) ∈ tw_W := tw_in (t8_7 (List.mem_of_getElem? (i := 39) rfl)) rfl
theorem xw_88 : ∀ w ∈ ([.methodLink RJ5 248 yJ6_getChars_ba4f3, .static yJ6_getChars_ba4f3, .initialized yJ6_getChars_ba4f3.cls] : List Cond), w ∈ tw_W := al_c (tw_in (t8_7 (List.mem_of_getElem? (i := 37) rfl)) rfl) (al_c (tw_in (t8_7 (List.mem_of_getElem? (i := 38) rfl)) rfl) (al_c (tw_in (t8_1 (List.mem_of_getElem? (i := 30) rfl)) rfl) al_n))
theorem xdJ5_append_c97b9_33 : decode cJ5_append_c97b9 33 = .ok (.pop, 1) := by decide +kernel
theorem xdJ5_append_c97b9_34 : decode cJ5_append_c97b9 34 = .ok (.goto 14, 3) := by decide +kernel
theorem xdJ5_append_c97b9_48 : decode cJ5_append_c97b9 48 = .ok (.aload_n 0, 1) := by decide +kernel
theorem xdJ5_append_c97b9_49 : decode cJ5_append_c97b9 49 = .ok (.iload_n 3, 1) := by decide +kernel
theorem xdJ5_append_c97b9_50 : decode cJ5_append_c97b9 50 = .ok (.putfield 79, 3) := by decide +kernel
theorem xdJ5_append_c97b9_53 : decode cJ5_append_c97b9 53 = .ok (.aload_n 0, 1) := by decide +kernel
theorem xdJ5_append_c97b9_54 : decode cJ5_append_c97b9 54 = .ok (.areturn, 1) := by decide +kernel
theorem xdJ4_append_bf812_0 : decode cJ4_append_bf812 0 = .ok (.aload_n 0, 1) := by decide +kernel
theorem xdJ4_append_bf812_1 : decode cJ4_append_bf812 1 = .ok (.iload_n 1, 1) := by decide +kernel
theorem xdJ4_append_bf812_2 : decode cJ4_append_bf812 2 = .ok (.invokespecial 53, 3) := by decide +kernel
theorem xw_89 : (.code yJ5_append_c97b9 cJ5_append_c97b9 4 (some (.object "java/lang/AbstractStringBuilder")) : Cond) ∈ tw_W := tw_in (t8_7 (List.mem_of_getElem? (i := 33) rfl)) rfl
theorem xw_90 : ∀ w ∈ ([.methodLink RJ4 53 yJ5_append_c97b9, .sameMethod yJ5_append_c97b9.cls yJ5_append_c97b9.cls yJ5_append_c97b9.name yJ5_append_c97b9.desc, .superclass RJ4 yJ5_append_c97b9.cls, .instanceMethod yJ5_append_c97b9, .initialized yJ5_append_c97b9.cls] : List Cond), w ∈ tw_W := al_c (tw_in (t8_7 (List.mem_of_getElem? (i := 31) rfl)) rfl) (al_c (tw_in (t8_13 (List.mem_of_getElem? (i := 90) rfl)) rfl) (al_c (tw_in (t8_1 (List.mem_of_getElem? (i := 98) rfl)) rfl) (al_c (tw_in (t8_7 (List.mem_of_getElem? (i := 32) rfl)) rfl) (al_c (tw_in (t8_1 (List.mem_of_getElem? (i := 4) rfl)) rfl) al_n))))
theorem xdJ4_append_bf812_5 : decode cJ4_append_bf812 5 = .ok (.pop, 1) := by decide +kernel
theorem xdJ4_append_bf812_6 : decode cJ4_append_bf812 6 = .ok (.aload_n 0, 1) := by decide +kernel
theorem xdJ4_append_bf812_7 : decode cJ4_append_bf812 7 = .ok (.areturn, 1) := by decide +kernel
set_option maxHeartbeats 4000000 in
set_option maxRecDepth 100000 in
/-- Integer.stringSize -/
theorem c_sx_size (l : Launch) (dC : Nat → ClassId) (dI : Nat → Nat → Nat) (cI cB cZ cJ cR : ClassId) (tb : Nat → Nat) (sz : Nat) (x : Int32)  : Met l yJ6_stringSize_0f7a4 (Cond.code yJ6_stringSize_0f7a4 cJ6_stringSize_0f7a4 4 (some .int) :: tw_W) ({ frames := 0, cells := 0, slots := 0, locals := 0 }) (pc_ (dC, dI) (tyS cI cB cZ cJ cR) tb [] sz [.int x]) (qi_ (dC, dI) [] sz (fun (r : Int32) (u : Unit) => r = (if x < 0 then (if x ≤ (-10) then (if x ≤ (-100) then (if x ≤ (-1000) then (if x ≤ (-10000) then (if x ≤ (-100000) then (if x ≤ (-1000000) then (if x ≤ (-10000000) then (if x ≤ (-100000000) then (if x ≤ (-1000000000) then 11 else 10) else 9) else 8) else 7) else 6) else 5) else 4) else 3) else 2) else (if (-x) ≤ (-10) then (if (-x) ≤ (-100) then (if (-x) ≤ (-1000) then (if (-x) ≤ (-10000) then (if (-x) ≤ (-100000) then (if (-x) ≤ (-1000000) then (if (-x) ≤ (-10000000) then (if (-x) ≤ (-100000000) then (if (-x) ≤ (-1000000000) then 10 else 9) else 8) else 7) else 6) else 5) else 4) else 3) else 2) else 1))) (fun (u : Unit) => [])) 0 0 (va_A [] sz) := by
  refine Met.ofW (cc := cJ6_stringSize_0f7a4) (maxL := 4) (ret := (some .int)) (by decide) rfl ?_
  intro p e s m args below meth c s₁ B hml hv
  obtain ⟨rfl, hsz, hP, hKK, hD0, hFx⟩ := hv
  have hK := hKK.1
  have hx := B.exec
  have hb := B.bytes
  have hr := B.returns
  have ht : ∀ w ∈ tw_W, w.before _ s = true := fun w h => atoms_spec (ws := Cond.code yJ6_stringSize_0f7a4 cJ6_stringSize_0f7a4 4 (some .int) :: tw_W) B.pre w (List.mem_cons_of_mem _ h)
  have hown : s.vm.findClass RJ6 = some m.cls := findClass_of_methodNamed B.named
  have hlocks := B.notSynchronized
  subst hsz
  unfold qi_
  have hD := hD0.self (sz := s.heap.size)
  generalize hAe : va_A [] s.heap.size = A at hD hFx ⊢
  have hA : ∀ q : Nat, s.heap.size ≤ q → A q := fun q h => by rw [← hAe]; exact Or.inr h
  have hS : va_S A s.heap s.heap [] := va_S.rf
  have hP : va_P (dC, dI) vwCl [] s.heap := hP
  have hl := lv_entry ([.int x]) (n := 4) (Nat.le_of_ble_eq_true rfl)
  rw [lg_entry_eq]
  generalize (lg_sl ([.int x]) ++ List.replicate (4 - (lg_sl ([.int x])).length) Slot.unset).toArray = ls at hl ⊢
  have hl : lv_has ls 4 [(0, .int x)] := hl
  refine lv_iconst (v := 1) hx hb xdJ6_stringSize_0f7a4_0 (by decide) ?_
  refine lv_istore_n (lv' := [(1, .int 1), (0, .int x)]) hx hb xdJ6_stringSize_0f7a4_1 rfl hl (by decide) rfl (fun ls hl => ?_)
  refine lv_iload_n hx hb xdJ6_stringSize_0f7a4_2 rfl (lv_at hl 1 rfl) ?_
  refine lv_if_lt (tgt := 11) hx hb xdJ6_stringSize_0f7a4_3 (by decide) (fun h1 => ?_) (fun h1 => ?_)
  · refine lv_bipush (v := -10) hx hb xdJ6_stringSize_0f7a4_11 (by decide) ?_
    refine lv_istore_n (lv' := [(2, .int (-10)), (1, .int 1), (0, .int x)]) hx hb xdJ6_stringSize_0f7a4_13 rfl hl (by decide) rfl (fun ls hl => ?_)
    refine lv_iconst (v := 1) hx hb xdJ6_stringSize_0f7a4_14 (by decide) ?_
    refine lv_istore_n (lv' := [(3, .int 1), (2, .int (-10)), (1, .int 1), (0, .int x)]) hx hb xdJ6_stringSize_0f7a4_15 rfl hl (by decide) rfl (fun ls hl => ?_)
    refine lv_iload_n hx hb xdJ6_stringSize_0f7a4_16 rfl (lv_at hl 0 rfl) ?_
    refine lv_bipush (v := 10) hx hb xdJ6_stringSize_0f7a4_17 (by decide) ?_
    refine lv_icmp_ge (tgt := 42) hx hb xdJ6_stringSize_0f7a4_19 (by decide) (fun k2 => absurd k2 (by decide)) (fun _ => ?_)
    refine lv_iload_n hx hb xdJ6_stringSize_0f7a4_22 rfl (lv_at hl 3 rfl) ?_
    refine lv_iload_n hx hb xdJ6_stringSize_0f7a4_23 rfl (lv_at hl 1 rfl) ?_
    refine lv_icmp_le (tgt := 31) hx hb xdJ6_stringSize_0f7a4_24 (by decide) (fun h3 => ?_) (fun h3 => ?_)
    · refine lv_bipush (v := 10) hx hb xdJ6_stringSize_0f7a4_31 (by decide) ?_
      refine lv_iload_n hx hb xdJ6_stringSize_0f7a4_33 rfl (lv_at hl 1 rfl) ?_
      refine lv_imul hx hb xdJ6_stringSize_0f7a4_34 ?_
      refine tp_i (y := (-100)) (by decide) ?_
      refine lv_istore_n (lv' := [(2, .int (-100)), (3, .int 1), (1, .int 1), (0, .int x)]) hx hb xdJ6_stringSize_0f7a4_35 rfl hl (by decide) rfl (fun ls hl => ?_)
      refine lv_iinc (v := 2) (lv' := [(3, .int 2), (2, .int (-100)), (1, .int 1), (0, .int x)]) hx hb xdJ6_stringSize_0f7a4_36 hl (k := 1) rfl (by decide) (by decide) rfl (fun ls hl => ?_)
      refine lv_goto (tgt := 16) hx hb xdJ6_stringSize_0f7a4_39 (by decide) ?_
      refine lv_iload_n hx hb xdJ6_stringSize_0f7a4_16 rfl (lv_at hl 0 rfl) ?_
      refine lv_bipush (v := 10) hx hb xdJ6_stringSize_0f7a4_17 (by decide) ?_
      refine lv_icmp_ge (tgt := 42) hx hb xdJ6_stringSize_0f7a4_19 (by decide) (fun k4 => absurd k4 (by decide)) (fun _ => ?_)
      refine lv_iload_n hx hb xdJ6_stringSize_0f7a4_22 rfl (lv_at hl 3 rfl) ?_
      refine lv_iload_n hx hb xdJ6_stringSize_0f7a4_23 rfl (lv_at hl 1 rfl) ?_
      refine lv_icmp_le (tgt := 31) hx hb xdJ6_stringSize_0f7a4_24 (by decide) (fun h5 => ?_) (fun h5 => ?_)
      · refine lv_bipush (v := 10) hx hb xdJ6_stringSize_0f7a4_31 (by decide) ?_
        refine lv_iload_n hx hb xdJ6_stringSize_0f7a4_33 rfl (lv_at hl 1 rfl) ?_
        refine lv_imul hx hb xdJ6_stringSize_0f7a4_34 ?_
        refine tp_i (y := (-1000)) (by decide) ?_
        refine lv_istore_n (lv' := [(2, .int (-1000)), (3, .int 2), (1, .int 1), (0, .int x)]) hx hb xdJ6_stringSize_0f7a4_35 rfl hl (by decide) rfl (fun ls hl => ?_)
        refine lv_iinc (v := 3) (lv' := [(3, .int 3), (2, .int (-1000)), (1, .int 1), (0, .int x)]) hx hb xdJ6_stringSize_0f7a4_36 hl (k := 1) rfl (by decide) (by decide) rfl (fun ls hl => ?_)
        refine lv_goto (tgt := 16) hx hb xdJ6_stringSize_0f7a4_39 (by decide) ?_
        refine lv_iload_n hx hb xdJ6_stringSize_0f7a4_16 rfl (lv_at hl 0 rfl) ?_
        refine lv_bipush (v := 10) hx hb xdJ6_stringSize_0f7a4_17 (by decide) ?_
        refine lv_icmp_ge (tgt := 42) hx hb xdJ6_stringSize_0f7a4_19 (by decide) (fun k6 => absurd k6 (by decide)) (fun _ => ?_)
        refine lv_iload_n hx hb xdJ6_stringSize_0f7a4_22 rfl (lv_at hl 3 rfl) ?_
        refine lv_iload_n hx hb xdJ6_stringSize_0f7a4_23 rfl (lv_at hl 1 rfl) ?_
        refine lv_icmp_le (tgt := 31) hx hb xdJ6_stringSize_0f7a4_24 (by decide) (fun h7 => ?_) (fun h7 => ?_)
        · refine lv_bipush (v := 10) hx hb xdJ6_stringSize_0f7a4_31 (by decide) ?_
          refine lv_iload_n hx hb xdJ6_stringSize_0f7a4_33 rfl (lv_at hl 1 rfl) ?_
          refine lv_imul hx hb xdJ6_stringSize_0f7a4_34 ?_
          refine tp_i (y := (-10000)) (by decide) ?_
          refine lv_istore_n (lv' := [(2, .int (-10000)), (3, .int 3), (1, .int 1), (0, .int x)]) hx hb xdJ6_stringSize_0f7a4_35 rfl hl (by decide) rfl (fun ls hl => ?_)
          refine lv_iinc (v := 4) (lv' := [(3, .int 4), (2, .int (-10000)), (1, .int 1), (0, .int x)]) hx hb xdJ6_stringSize_0f7a4_36 hl (k := 1) rfl (by decide) (by decide) rfl (fun ls hl => ?_)
          refine lv_goto (tgt := 16) hx hb xdJ6_stringSize_0f7a4_39 (by decide) ?_
          refine lv_iload_n hx hb xdJ6_stringSize_0f7a4_16 rfl (lv_at hl 0 rfl) ?_
          refine lv_bipush (v := 10) hx hb xdJ6_stringSize_0f7a4_17 (by decide) ?_
          refine lv_icmp_ge (tgt := 42) hx hb xdJ6_stringSize_0f7a4_19 (by decide) (fun k8 => absurd k8 (by decide)) (fun _ => ?_)
          refine lv_iload_n hx hb xdJ6_stringSize_0f7a4_22 rfl (lv_at hl 3 rfl) ?_
          refine lv_iload_n hx hb xdJ6_stringSize_0f7a4_23 rfl (lv_at hl 1 rfl) ?_
          refine lv_icmp_le (tgt := 31) hx hb xdJ6_stringSize_0f7a4_24 (by decide) (fun h9 => ?_) (fun h9 => ?_)
          · refine lv_bipush (v := 10) hx hb xdJ6_stringSize_0f7a4_31 (by decide) ?_
            refine lv_iload_n hx hb xdJ6_stringSize_0f7a4_33 rfl (lv_at hl 1 rfl) ?_
            refine lv_imul hx hb xdJ6_stringSize_0f7a4_34 ?_
            refine tp_i (y := (-100000)) (by decide) ?_
            refine lv_istore_n (lv' := [(2, .int (-100000)), (3, .int 4), (1, .int 1), (0, .int x)]) hx hb xdJ6_stringSize_0f7a4_35 rfl hl (by decide) rfl (fun ls hl => ?_)
            refine lv_iinc (v := 5) (lv' := [(3, .int 5), (2, .int (-100000)), (1, .int 1), (0, .int x)]) hx hb xdJ6_stringSize_0f7a4_36 hl (k := 1) rfl (by decide) (by decide) rfl (fun ls hl => ?_)
            refine lv_goto (tgt := 16) hx hb xdJ6_stringSize_0f7a4_39 (by decide) ?_
            refine lv_iload_n hx hb xdJ6_stringSize_0f7a4_16 rfl (lv_at hl 0 rfl) ?_
            refine lv_bipush (v := 10) hx hb xdJ6_stringSize_0f7a4_17 (by decide) ?_
            refine lv_icmp_ge (tgt := 42) hx hb xdJ6_stringSize_0f7a4_19 (by decide) (fun k10 => absurd k10 (by decide)) (fun _ => ?_)
            refine lv_iload_n hx hb xdJ6_stringSize_0f7a4_22 rfl (lv_at hl 3 rfl) ?_
            refine lv_iload_n hx hb xdJ6_stringSize_0f7a4_23 rfl (lv_at hl 1 rfl) ?_
            refine lv_icmp_le (tgt := 31) hx hb xdJ6_stringSize_0f7a4_24 (by decide) (fun h11 => ?_) (fun h11 => ?_)
            · refine lv_bipush (v := 10) hx hb xdJ6_stringSize_0f7a4_31 (by decide) ?_
              refine lv_iload_n hx hb xdJ6_stringSize_0f7a4_33 rfl (lv_at hl 1 rfl) ?_
              refine lv_imul hx hb xdJ6_stringSize_0f7a4_34 ?_
              refine tp_i (y := (-1000000)) (by decide) ?_
              refine lv_istore_n (lv' := [(2, .int (-1000000)), (3, .int 5), (1, .int 1), (0, .int x)]) hx hb xdJ6_stringSize_0f7a4_35 rfl hl (by decide) rfl (fun ls hl => ?_)
              refine lv_iinc (v := 6) (lv' := [(3, .int 6), (2, .int (-1000000)), (1, .int 1), (0, .int x)]) hx hb xdJ6_stringSize_0f7a4_36 hl (k := 1) rfl (by decide) (by decide) rfl (fun ls hl => ?_)
              refine lv_goto (tgt := 16) hx hb xdJ6_stringSize_0f7a4_39 (by decide) ?_
              refine lv_iload_n hx hb xdJ6_stringSize_0f7a4_16 rfl (lv_at hl 0 rfl) ?_
              refine lv_bipush (v := 10) hx hb xdJ6_stringSize_0f7a4_17 (by decide) ?_
              refine lv_icmp_ge (tgt := 42) hx hb xdJ6_stringSize_0f7a4_19 (by decide) (fun k12 => absurd k12 (by decide)) (fun _ => ?_)
              refine lv_iload_n hx hb xdJ6_stringSize_0f7a4_22 rfl (lv_at hl 3 rfl) ?_
              refine lv_iload_n hx hb xdJ6_stringSize_0f7a4_23 rfl (lv_at hl 1 rfl) ?_
              refine lv_icmp_le (tgt := 31) hx hb xdJ6_stringSize_0f7a4_24 (by decide) (fun h13 => ?_) (fun h13 => ?_)
              · refine lv_bipush (v := 10) hx hb xdJ6_stringSize_0f7a4_31 (by decide) ?_
                refine lv_iload_n hx hb xdJ6_stringSize_0f7a4_33 rfl (lv_at hl 1 rfl) ?_
                refine lv_imul hx hb xdJ6_stringSize_0f7a4_34 ?_
                refine tp_i (y := (-10000000)) (by decide) ?_
                refine lv_istore_n (lv' := [(2, .int (-10000000)), (3, .int 6), (1, .int 1), (0, .int x)]) hx hb xdJ6_stringSize_0f7a4_35 rfl hl (by decide) rfl (fun ls hl => ?_)
                refine lv_iinc (v := 7) (lv' := [(3, .int 7), (2, .int (-10000000)), (1, .int 1), (0, .int x)]) hx hb xdJ6_stringSize_0f7a4_36 hl (k := 1) rfl (by decide) (by decide) rfl (fun ls hl => ?_)
                refine lv_goto (tgt := 16) hx hb xdJ6_stringSize_0f7a4_39 (by decide) ?_
                refine lv_iload_n hx hb xdJ6_stringSize_0f7a4_16 rfl (lv_at hl 0 rfl) ?_
                refine lv_bipush (v := 10) hx hb xdJ6_stringSize_0f7a4_17 (by decide) ?_
                refine lv_icmp_ge (tgt := 42) hx hb xdJ6_stringSize_0f7a4_19 (by decide) (fun k14 => absurd k14 (by decide)) (fun _ => ?_)
                refine lv_iload_n hx hb xdJ6_stringSize_0f7a4_22 rfl (lv_at hl 3 rfl) ?_
                refine lv_iload_n hx hb xdJ6_stringSize_0f7a4_23 rfl (lv_at hl 1 rfl) ?_
                refine lv_icmp_le (tgt := 31) hx hb xdJ6_stringSize_0f7a4_24 (by decide) (fun h15 => ?_) (fun h15 => ?_)
                · refine lv_bipush (v := 10) hx hb xdJ6_stringSize_0f7a4_31 (by decide) ?_
                  refine lv_iload_n hx hb xdJ6_stringSize_0f7a4_33 rfl (lv_at hl 1 rfl) ?_
                  refine lv_imul hx hb xdJ6_stringSize_0f7a4_34 ?_
                  refine tp_i (y := (-100000000)) (by decide) ?_
                  refine lv_istore_n (lv' := [(2, .int (-100000000)), (3, .int 7), (1, .int 1), (0, .int x)]) hx hb xdJ6_stringSize_0f7a4_35 rfl hl (by decide) rfl (fun ls hl => ?_)
                  refine lv_iinc (v := 8) (lv' := [(3, .int 8), (2, .int (-100000000)), (1, .int 1), (0, .int x)]) hx hb xdJ6_stringSize_0f7a4_36 hl (k := 1) rfl (by decide) (by decide) rfl (fun ls hl => ?_)
                  refine lv_goto (tgt := 16) hx hb xdJ6_stringSize_0f7a4_39 (by decide) ?_
                  refine lv_iload_n hx hb xdJ6_stringSize_0f7a4_16 rfl (lv_at hl 0 rfl) ?_
                  refine lv_bipush (v := 10) hx hb xdJ6_stringSize_0f7a4_17 (by decide) ?_
                  refine lv_icmp_ge (tgt := 42) hx hb xdJ6_stringSize_0f7a4_19 (by decide) (fun k16 => absurd k16 (by decide)) (fun _ => ?_)
                  refine lv_iload_n hx hb xdJ6_stringSize_0f7a4_22 rfl (lv_at hl 3 rfl) ?_
                  refine lv_iload_n hx hb xdJ6_stringSize_0f7a4_23 rfl (lv_at hl 1 rfl) ?_
                  refine lv_icmp_le (tgt := 31) hx hb xdJ6_stringSize_0f7a4_24 (by decide) (fun h17 => ?_) (fun h17 => ?_)
                  · refine lv_bipush (v := 10) hx hb xdJ6_stringSize_0f7a4_31 (by decide) ?_
                    refine lv_iload_n hx hb xdJ6_stringSize_0f7a4_33 rfl (lv_at hl 1 rfl) ?_
                    refine lv_imul hx hb xdJ6_stringSize_0f7a4_34 ?_
                    refine tp_i (y := (-1000000000)) (by decide) ?_
                    refine lv_istore_n (lv' := [(2, .int (-1000000000)), (3, .int 8), (1, .int 1), (0, .int x)]) hx hb xdJ6_stringSize_0f7a4_35 rfl hl (by decide) rfl (fun ls hl => ?_)
                    refine lv_iinc (v := 9) (lv' := [(3, .int 9), (2, .int (-1000000000)), (1, .int 1), (0, .int x)]) hx hb xdJ6_stringSize_0f7a4_36 hl (k := 1) rfl (by decide) (by decide) rfl (fun ls hl => ?_)
                    refine lv_goto (tgt := 16) hx hb xdJ6_stringSize_0f7a4_39 (by decide) ?_
                    refine lv_iload_n hx hb xdJ6_stringSize_0f7a4_16 rfl (lv_at hl 0 rfl) ?_
                    refine lv_bipush (v := 10) hx hb xdJ6_stringSize_0f7a4_17 (by decide) ?_
                    refine lv_icmp_ge (tgt := 42) hx hb xdJ6_stringSize_0f7a4_19 (by decide) (fun k18 => absurd k18 (by decide)) (fun _ => ?_)
                    refine lv_iload_n hx hb xdJ6_stringSize_0f7a4_22 rfl (lv_at hl 3 rfl) ?_
                    refine lv_iload_n hx hb xdJ6_stringSize_0f7a4_23 rfl (lv_at hl 1 rfl) ?_
                    refine lv_icmp_le (tgt := 31) hx hb xdJ6_stringSize_0f7a4_24 (by decide) (fun h19 => ?_) (fun h19 => ?_)
                    · refine lv_bipush (v := 10) hx hb xdJ6_stringSize_0f7a4_31 (by decide) ?_
                      refine lv_iload_n hx hb xdJ6_stringSize_0f7a4_33 rfl (lv_at hl 1 rfl) ?_
                      refine lv_imul hx hb xdJ6_stringSize_0f7a4_34 ?_
                      refine tp_i (y := (-1410065408)) (by decide) ?_
                      refine lv_istore_n (lv' := [(2, .int (-1410065408)), (3, .int 9), (1, .int 1), (0, .int x)]) hx hb xdJ6_stringSize_0f7a4_35 rfl hl (by decide) rfl (fun ls hl => ?_)
                      refine lv_iinc (v := 10) (lv' := [(3, .int 10), (2, .int (-1410065408)), (1, .int 1), (0, .int x)]) hx hb xdJ6_stringSize_0f7a4_36 hl (k := 1) rfl (by decide) (by decide) rfl (fun ls hl => ?_)
                      refine lv_goto (tgt := 16) hx hb xdJ6_stringSize_0f7a4_39 (by decide) ?_
                      refine lv_iload_n hx hb xdJ6_stringSize_0f7a4_16 rfl (lv_at hl 0 rfl) ?_
                      refine lv_bipush (v := 10) hx hb xdJ6_stringSize_0f7a4_17 (by decide) ?_
                      refine lv_icmp_ge (tgt := 42) hx hb xdJ6_stringSize_0f7a4_19 (by decide) (fun _ => ?_) (fun k20 => absurd k20 (by decide))
                      refine lv_bipush (v := 10) hx hb xdJ6_stringSize_0f7a4_42 (by decide) ?_
                      refine lv_iload_n hx hb xdJ6_stringSize_0f7a4_44 rfl (lv_at hl 2 rfl) ?_
                      refine lv_iadd hx hb xdJ6_stringSize_0f7a4_45 ?_
                      refine tp_i (y := 11) (by decide) ?_
                      have hP9 := hP.sub (ws' := []) [] rfl
                      have hD9 := hD.sub (ws' := []) [] (by decide) rfl
                      refine W.widen (k := 0) (n := 0) (by omega) (by omega) ?_
                      exact W.iret (v := 11) hx hb hr (fun t ht9 hW => ⟨⟨11, (), rfl, (by rw [if_pos h1, if_pos h3, if_pos h5, if_pos h7, if_pos h9, if_pos h11, if_pos h13, if_pos h15, if_pos h17, if_pos h19]), by rw [ht9]; exact hP9, hD9⟩, hS.F ht9⟩) hS.2.2 xdJ6_stringSize_0f7a4_46
                    · refine lv_iload_n hx hb xdJ6_stringSize_0f7a4_27 rfl (lv_at hl 0 rfl) ?_
                      refine lv_iload_n hx hb xdJ6_stringSize_0f7a4_28 rfl (lv_at hl 2 rfl) ?_
                      refine lv_iadd hx hb xdJ6_stringSize_0f7a4_29 ?_
                      refine tp_i (y := 10) (by decide) ?_
                      have hP9 := hP.sub (ws' := []) [] rfl
                      have hD9 := hD.sub (ws' := []) [] (by decide) rfl
                      refine W.widen (k := 0) (n := 0) (by omega) (by omega) ?_
                      exact W.iret (v := 10) hx hb hr (fun t ht9 hW => ⟨⟨10, (), rfl, (by rw [if_pos h1, if_pos h3, if_pos h5, if_pos h7, if_pos h9, if_pos h11, if_pos h13, if_pos h15, if_pos h17, if_neg h19]), by rw [ht9]; exact hP9, hD9⟩, hS.F ht9⟩) hS.2.2 xdJ6_stringSize_0f7a4_30
                  · refine lv_iload_n hx hb xdJ6_stringSize_0f7a4_27 rfl (lv_at hl 0 rfl) ?_
                    refine lv_iload_n hx hb xdJ6_stringSize_0f7a4_28 rfl (lv_at hl 2 rfl) ?_
                    refine lv_iadd hx hb xdJ6_stringSize_0f7a4_29 ?_
                    refine tp_i (y := 9) (by decide) ?_
                    have hP9 := hP.sub (ws' := []) [] rfl
                    have hD9 := hD.sub (ws' := []) [] (by decide) rfl
                    refine W.widen (k := 0) (n := 0) (by omega) (by omega) ?_
                    exact W.iret (v := 9) hx hb hr (fun t ht9 hW => ⟨⟨9, (), rfl, (by rw [if_pos h1, if_pos h3, if_pos h5, if_pos h7, if_pos h9, if_pos h11, if_pos h13, if_pos h15, if_neg h17]), by rw [ht9]; exact hP9, hD9⟩, hS.F ht9⟩) hS.2.2 xdJ6_stringSize_0f7a4_30
                · refine lv_iload_n hx hb xdJ6_stringSize_0f7a4_27 rfl (lv_at hl 0 rfl) ?_
                  refine lv_iload_n hx hb xdJ6_stringSize_0f7a4_28 rfl (lv_at hl 2 rfl) ?_
                  refine lv_iadd hx hb xdJ6_stringSize_0f7a4_29 ?_
                  refine tp_i (y := 8) (by decide) ?_
                  have hP9 := hP.sub (ws' := []) [] rfl
                  have hD9 := hD.sub (ws' := []) [] (by decide) rfl
                  refine W.widen (k := 0) (n := 0) (by omega) (by omega) ?_
                  exact W.iret (v := 8) hx hb hr (fun t ht9 hW => ⟨⟨8, (), rfl, (by rw [if_pos h1, if_pos h3, if_pos h5, if_pos h7, if_pos h9, if_pos h11, if_pos h13, if_neg h15]), by rw [ht9]; exact hP9, hD9⟩, hS.F ht9⟩) hS.2.2 xdJ6_stringSize_0f7a4_30
              · refine lv_iload_n hx hb xdJ6_stringSize_0f7a4_27 rfl (lv_at hl 0 rfl) ?_
                refine lv_iload_n hx hb xdJ6_stringSize_0f7a4_28 rfl (lv_at hl 2 rfl) ?_
                refine lv_iadd hx hb xdJ6_stringSize_0f7a4_29 ?_
                refine tp_i (y := 7) (by decide) ?_
                have hP9 := hP.sub (ws' := []) [] rfl
                have hD9 := hD.sub (ws' := []) [] (by decide) rfl
                refine W.widen (k := 0) (n := 0) (by omega) (by omega) ?_
                exact W.iret (v := 7) hx hb hr (fun t ht9 hW => ⟨⟨7, (), rfl, (by rw [if_pos h1, if_pos h3, if_pos h5, if_pos h7, if_pos h9, if_pos h11, if_neg h13]), by rw [ht9]; exact hP9, hD9⟩, hS.F ht9⟩) hS.2.2 xdJ6_stringSize_0f7a4_30
            · refine lv_iload_n hx hb xdJ6_stringSize_0f7a4_27 rfl (lv_at hl 0 rfl) ?_
              refine lv_iload_n hx hb xdJ6_stringSize_0f7a4_28 rfl (lv_at hl 2 rfl) ?_
              refine lv_iadd hx hb xdJ6_stringSize_0f7a4_29 ?_
              refine tp_i (y := 6) (by decide) ?_
              have hP9 := hP.sub (ws' := []) [] rfl
              have hD9 := hD.sub (ws' := []) [] (by decide) rfl
              refine W.widen (k := 0) (n := 0) (by omega) (by omega) ?_
              exact W.iret (v := 6) hx hb hr (fun t ht9 hW => ⟨⟨6, (), rfl, (by rw [if_pos h1, if_pos h3, if_pos h5, if_pos h7, if_pos h9, if_neg h11]), by rw [ht9]; exact hP9, hD9⟩, hS.F ht9⟩) hS.2.2 xdJ6_stringSize_0f7a4_30
          · refine lv_iload_n hx hb xdJ6_stringSize_0f7a4_27 rfl (lv_at hl 0 rfl) ?_
            refine lv_iload_n hx hb xdJ6_stringSize_0f7a4_28 rfl (lv_at hl 2 rfl) ?_
            refine lv_iadd hx hb xdJ6_stringSize_0f7a4_29 ?_
            refine tp_i (y := 5) (by decide) ?_
            have hP9 := hP.sub (ws' := []) [] rfl
            have hD9 := hD.sub (ws' := []) [] (by decide) rfl
            refine W.widen (k := 0) (n := 0) (by omega) (by omega) ?_
            exact W.iret (v := 5) hx hb hr (fun t ht9 hW => ⟨⟨5, (), rfl, (by rw [if_pos h1, if_pos h3, if_pos h5, if_pos h7, if_neg h9]), by rw [ht9]; exact hP9, hD9⟩, hS.F ht9⟩) hS.2.2 xdJ6_stringSize_0f7a4_30
        · refine lv_iload_n hx hb xdJ6_stringSize_0f7a4_27 rfl (lv_at hl 0 rfl) ?_
          refine lv_iload_n hx hb xdJ6_stringSize_0f7a4_28 rfl (lv_at hl 2 rfl) ?_
          refine lv_iadd hx hb xdJ6_stringSize_0f7a4_29 ?_
          refine tp_i (y := 4) (by decide) ?_
          have hP9 := hP.sub (ws' := []) [] rfl
          have hD9 := hD.sub (ws' := []) [] (by decide) rfl
          refine W.widen (k := 0) (n := 0) (by omega) (by omega) ?_
          exact W.iret (v := 4) hx hb hr (fun t ht9 hW => ⟨⟨4, (), rfl, (by rw [if_pos h1, if_pos h3, if_pos h5, if_neg h7]), by rw [ht9]; exact hP9, hD9⟩, hS.F ht9⟩) hS.2.2 xdJ6_stringSize_0f7a4_30
      · refine lv_iload_n hx hb xdJ6_stringSize_0f7a4_27 rfl (lv_at hl 0 rfl) ?_
        refine lv_iload_n hx hb xdJ6_stringSize_0f7a4_28 rfl (lv_at hl 2 rfl) ?_
        refine lv_iadd hx hb xdJ6_stringSize_0f7a4_29 ?_
        refine tp_i (y := 3) (by decide) ?_
        have hP9 := hP.sub (ws' := []) [] rfl
        have hD9 := hD.sub (ws' := []) [] (by decide) rfl
        refine W.widen (k := 0) (n := 0) (by omega) (by omega) ?_
        exact W.iret (v := 3) hx hb hr (fun t ht9 hW => ⟨⟨3, (), rfl, (by rw [if_pos h1, if_pos h3, if_neg h5]), by rw [ht9]; exact hP9, hD9⟩, hS.F ht9⟩) hS.2.2 xdJ6_stringSize_0f7a4_30
    · refine lv_iload_n hx hb xdJ6_stringSize_0f7a4_27 rfl (lv_at hl 0 rfl) ?_
      refine lv_iload_n hx hb xdJ6_stringSize_0f7a4_28 rfl (lv_at hl 2 rfl) ?_
      refine lv_iadd hx hb xdJ6_stringSize_0f7a4_29 ?_
      refine tp_i (y := 2) (by decide) ?_
      have hP9 := hP.sub (ws' := []) [] rfl
      have hD9 := hD.sub (ws' := []) [] (by decide) rfl
      refine W.widen (k := 0) (n := 0) (by omega) (by omega) ?_
      exact W.iret (v := 2) hx hb hr (fun t ht9 hW => ⟨⟨2, (), rfl, (by rw [if_pos h1, if_neg h3]), by rw [ht9]; exact hP9, hD9⟩, hS.F ht9⟩) hS.2.2 xdJ6_stringSize_0f7a4_30
  · refine lv_iconst (v := 0) hx hb xdJ6_stringSize_0f7a4_6 (by decide) ?_
    refine lv_istore_n (lv' := [(1, .int 0), (0, .int x)]) hx hb xdJ6_stringSize_0f7a4_7 rfl hl (by decide) rfl (fun ls hl => ?_)
    refine lv_iload_n hx hb xdJ6_stringSize_0f7a4_8 rfl (lv_at hl 1 rfl) ?_
    refine lv_ineg hx hb xdJ6_stringSize_0f7a4_9 ?_
    refine lv_istore_n (lv' := [(0, .int (-x)), (1, .int 0)]) hx hb xdJ6_stringSize_0f7a4_10 rfl hl (by decide) rfl (fun ls hl => ?_)
    refine lv_bipush (v := -10) hx hb xdJ6_stringSize_0f7a4_11 (by decide) ?_
    refine lv_istore_n (lv' := [(2, .int (-10)), (0, .int (-x)), (1, .int 0)]) hx hb xdJ6_stringSize_0f7a4_13 rfl hl (by decide) rfl (fun ls hl => ?_)
    refine lv_iconst (v := 1) hx hb xdJ6_stringSize_0f7a4_14 (by decide) ?_
    refine lv_istore_n (lv' := [(3, .int 1), (2, .int (-10)), (0, .int (-x)), (1, .int 0)]) hx hb xdJ6_stringSize_0f7a4_15 rfl hl (by decide) rfl (fun ls hl => ?_)
    refine lv_iload_n hx hb xdJ6_stringSize_0f7a4_16 rfl (lv_at hl 0 rfl) ?_
    refine lv_bipush (v := 10) hx hb xdJ6_stringSize_0f7a4_17 (by decide) ?_
    refine lv_icmp_ge (tgt := 42) hx hb xdJ6_stringSize_0f7a4_19 (by decide) (fun k21 => absurd k21 (by decide)) (fun _ => ?_)
    refine lv_iload_n hx hb xdJ6_stringSize_0f7a4_22 rfl (lv_at hl 2 rfl) ?_
    refine lv_iload_n hx hb xdJ6_stringSize_0f7a4_23 rfl (lv_at hl 1 rfl) ?_
    refine lv_icmp_le (tgt := 31) hx hb xdJ6_stringSize_0f7a4_24 (by decide) (fun h22 => ?_) (fun h22 => ?_)
    · refine lv_bipush (v := 10) hx hb xdJ6_stringSize_0f7a4_31 (by decide) ?_
      refine lv_iload_n hx hb xdJ6_stringSize_0f7a4_33 rfl (lv_at hl 1 rfl) ?_
      refine lv_imul hx hb xdJ6_stringSize_0f7a4_34 ?_
      refine tp_i (y := (-100)) (by decide) ?_
      refine lv_istore_n (lv' := [(2, .int (-100)), (3, .int 1), (0, .int (-x)), (1, .int 0)]) hx hb xdJ6_stringSize_0f7a4_35 rfl hl (by decide) rfl (fun ls hl => ?_)
      refine lv_iinc (v := 2) (lv' := [(3, .int 2), (2, .int (-100)), (0, .int (-x)), (1, .int 0)]) hx hb xdJ6_stringSize_0f7a4_36 hl (k := 1) rfl (by decide) (by decide) rfl (fun ls hl => ?_)
      refine lv_goto (tgt := 16) hx hb xdJ6_stringSize_0f7a4_39 (by decide) ?_
      refine lv_iload_n hx hb xdJ6_stringSize_0f7a4_16 rfl (lv_at hl 0 rfl) ?_
      refine lv_bipush (v := 10) hx hb xdJ6_stringSize_0f7a4_17 (by decide) ?_
      refine lv_icmp_ge (tgt := 42) hx hb xdJ6_stringSize_0f7a4_19 (by decide) (fun k23 => absurd k23 (by decide)) (fun _ => ?_)
      refine lv_iload_n hx hb xdJ6_stringSize_0f7a4_22 rfl (lv_at hl 2 rfl) ?_
      refine lv_iload_n hx hb xdJ6_stringSize_0f7a4_23 rfl (lv_at hl 1 rfl) ?_
      refine lv_icmp_le (tgt := 31) hx hb xdJ6_stringSize_0f7a4_24 (by decide) (fun h24 => ?_) (fun h24 => ?_)
      · refine lv_bipush (v := 10) hx hb xdJ6_stringSize_0f7a4_31 (by decide) ?_
        refine lv_iload_n hx hb xdJ6_stringSize_0f7a4_33 rfl (lv_at hl 1 rfl) ?_
        refine lv_imul hx hb xdJ6_stringSize_0f7a4_34 ?_
        refine tp_i (y := (-1000)) (by decide) ?_
        refine lv_istore_n (lv' := [(2, .int (-1000)), (3, .int 2), (0, .int (-x)), (1, .int 0)]) hx hb xdJ6_stringSize_0f7a4_35 rfl hl (by decide) rfl (fun ls hl => ?_)
        refine lv_iinc (v := 3) (lv' := [(3, .int 3), (2, .int (-1000)), (0, .int (-x)), (1, .int 0)]) hx hb xdJ6_stringSize_0f7a4_36 hl (k := 1) rfl (by decide) (by decide) rfl (fun ls hl => ?_)
        refine lv_goto (tgt := 16) hx hb xdJ6_stringSize_0f7a4_39 (by decide) ?_
        refine lv_iload_n hx hb xdJ6_stringSize_0f7a4_16 rfl (lv_at hl 0 rfl) ?_
        refine lv_bipush (v := 10) hx hb xdJ6_stringSize_0f7a4_17 (by decide) ?_
        refine lv_icmp_ge (tgt := 42) hx hb xdJ6_stringSize_0f7a4_19 (by decide) (fun k25 => absurd k25 (by decide)) (fun _ => ?_)
        refine lv_iload_n hx hb xdJ6_stringSize_0f7a4_22 rfl (lv_at hl 2 rfl) ?_
        refine lv_iload_n hx hb xdJ6_stringSize_0f7a4_23 rfl (lv_at hl 1 rfl) ?_
        refine lv_icmp_le (tgt := 31) hx hb xdJ6_stringSize_0f7a4_24 (by decide) (fun h26 => ?_) (fun h26 => ?_)
        · refine lv_bipush (v := 10) hx hb xdJ6_stringSize_0f7a4_31 (by decide) ?_
          refine lv_iload_n hx hb xdJ6_stringSize_0f7a4_33 rfl (lv_at hl 1 rfl) ?_
          refine lv_imul hx hb xdJ6_stringSize_0f7a4_34 ?_
          refine tp_i (y := (-10000)) (by decide) ?_
          refine lv_istore_n (lv' := [(2, .int (-10000)), (3, .int 3), (0, .int (-x)), (1, .int 0)]) hx hb xdJ6_stringSize_0f7a4_35 rfl hl (by decide) rfl (fun ls hl => ?_)
          refine lv_iinc (v := 4) (lv' := [(3, .int 4), (2, .int (-10000)), (0, .int (-x)), (1, .int 0)]) hx hb xdJ6_stringSize_0f7a4_36 hl (k := 1) rfl (by decide) (by decide) rfl (fun ls hl => ?_)
          refine lv_goto (tgt := 16) hx hb xdJ6_stringSize_0f7a4_39 (by decide) ?_
          refine lv_iload_n hx hb xdJ6_stringSize_0f7a4_16 rfl (lv_at hl 0 rfl) ?_
          refine lv_bipush (v := 10) hx hb xdJ6_stringSize_0f7a4_17 (by decide) ?_
          refine lv_icmp_ge (tgt := 42) hx hb xdJ6_stringSize_0f7a4_19 (by decide) (fun k27 => absurd k27 (by decide)) (fun _ => ?_)
          refine lv_iload_n hx hb xdJ6_stringSize_0f7a4_22 rfl (lv_at hl 2 rfl) ?_
          refine lv_iload_n hx hb xdJ6_stringSize_0f7a4_23 rfl (lv_at hl 1 rfl) ?_
          refine lv_icmp_le (tgt := 31) hx hb xdJ6_stringSize_0f7a4_24 (by decide) (fun h28 => ?_) (fun h28 => ?_)
          · refine lv_bipush (v := 10) hx hb xdJ6_stringSize_0f7a4_31 (by decide) ?_
            refine lv_iload_n hx hb xdJ6_stringSize_0f7a4_33 rfl (lv_at hl 1 rfl) ?_
            refine lv_imul hx hb xdJ6_stringSize_0f7a4_34 ?_
            refine tp_i (y := (-100000)) (by decide) ?_
            refine lv_istore_n (lv' := [(2, .int (-100000)), (3, .int 4), (0, .int (-x)), (1, .int 0)]) hx hb xdJ6_stringSize_0f7a4_35 rfl hl (by decide) rfl (fun ls hl => ?_)
            refine lv_iinc (v := 5) (lv' := [(3, .int 5), (2, .int (-100000)), (0, .int (-x)), (1, .int 0)]) hx hb xdJ6_stringSize_0f7a4_36 hl (k := 1) rfl (by decide) (by decide) rfl (fun ls hl => ?_)
            refine lv_goto (tgt := 16) hx hb xdJ6_stringSize_0f7a4_39 (by decide) ?_
            refine lv_iload_n hx hb xdJ6_stringSize_0f7a4_16 rfl (lv_at hl 0 rfl) ?_
            refine lv_bipush (v := 10) hx hb xdJ6_stringSize_0f7a4_17 (by decide) ?_
            refine lv_icmp_ge (tgt := 42) hx hb xdJ6_stringSize_0f7a4_19 (by decide) (fun k29 => absurd k29 (by decide)) (fun _ => ?_)
            refine lv_iload_n hx hb xdJ6_stringSize_0f7a4_22 rfl (lv_at hl 2 rfl) ?_
            refine lv_iload_n hx hb xdJ6_stringSize_0f7a4_23 rfl (lv_at hl 1 rfl) ?_
            refine lv_icmp_le (tgt := 31) hx hb xdJ6_stringSize_0f7a4_24 (by decide) (fun h30 => ?_) (fun h30 => ?_)
            · refine lv_bipush (v := 10) hx hb xdJ6_stringSize_0f7a4_31 (by decide) ?_
              refine lv_iload_n hx hb xdJ6_stringSize_0f7a4_33 rfl (lv_at hl 1 rfl) ?_
              refine lv_imul hx hb xdJ6_stringSize_0f7a4_34 ?_
              refine tp_i (y := (-1000000)) (by decide) ?_
              refine lv_istore_n (lv' := [(2, .int (-1000000)), (3, .int 5), (0, .int (-x)), (1, .int 0)]) hx hb xdJ6_stringSize_0f7a4_35 rfl hl (by decide) rfl (fun ls hl => ?_)
              refine lv_iinc (v := 6) (lv' := [(3, .int 6), (2, .int (-1000000)), (0, .int (-x)), (1, .int 0)]) hx hb xdJ6_stringSize_0f7a4_36 hl (k := 1) rfl (by decide) (by decide) rfl (fun ls hl => ?_)
              refine lv_goto (tgt := 16) hx hb xdJ6_stringSize_0f7a4_39 (by decide) ?_
              refine lv_iload_n hx hb xdJ6_stringSize_0f7a4_16 rfl (lv_at hl 0 rfl) ?_
              refine lv_bipush (v := 10) hx hb xdJ6_stringSize_0f7a4_17 (by decide) ?_
              refine lv_icmp_ge (tgt := 42) hx hb xdJ6_stringSize_0f7a4_19 (by decide) (fun k31 => absurd k31 (by decide)) (fun _ => ?_)
              refine lv_iload_n hx hb xdJ6_stringSize_0f7a4_22 rfl (lv_at hl 2 rfl) ?_
              refine lv_iload_n hx hb xdJ6_stringSize_0f7a4_23 rfl (lv_at hl 1 rfl) ?_
              refine lv_icmp_le (tgt := 31) hx hb xdJ6_stringSize_0f7a4_24 (by decide) (fun h32 => ?_) (fun h32 => ?_)
              · refine lv_bipush (v := 10) hx hb xdJ6_stringSize_0f7a4_31 (by decide) ?_
                refine lv_iload_n hx hb xdJ6_stringSize_0f7a4_33 rfl (lv_at hl 1 rfl) ?_
                refine lv_imul hx hb xdJ6_stringSize_0f7a4_34 ?_
                refine tp_i (y := (-10000000)) (by decide) ?_
                refine lv_istore_n (lv' := [(2, .int (-10000000)), (3, .int 6), (0, .int (-x)), (1, .int 0)]) hx hb xdJ6_stringSize_0f7a4_35 rfl hl (by decide) rfl (fun ls hl => ?_)
                refine lv_iinc (v := 7) (lv' := [(3, .int 7), (2, .int (-10000000)), (0, .int (-x)), (1, .int 0)]) hx hb xdJ6_stringSize_0f7a4_36 hl (k := 1) rfl (by decide) (by decide) rfl (fun ls hl => ?_)
                refine lv_goto (tgt := 16) hx hb xdJ6_stringSize_0f7a4_39 (by decide) ?_
                refine lv_iload_n hx hb xdJ6_stringSize_0f7a4_16 rfl (lv_at hl 0 rfl) ?_
                refine lv_bipush (v := 10) hx hb xdJ6_stringSize_0f7a4_17 (by decide) ?_
                refine lv_icmp_ge (tgt := 42) hx hb xdJ6_stringSize_0f7a4_19 (by decide) (fun k33 => absurd k33 (by decide)) (fun _ => ?_)
                refine lv_iload_n hx hb xdJ6_stringSize_0f7a4_22 rfl (lv_at hl 2 rfl) ?_
                refine lv_iload_n hx hb xdJ6_stringSize_0f7a4_23 rfl (lv_at hl 1 rfl) ?_
                refine lv_icmp_le (tgt := 31) hx hb xdJ6_stringSize_0f7a4_24 (by decide) (fun h34 => ?_) (fun h34 => ?_)
                · refine lv_bipush (v := 10) hx hb xdJ6_stringSize_0f7a4_31 (by decide) ?_
                  refine lv_iload_n hx hb xdJ6_stringSize_0f7a4_33 rfl (lv_at hl 1 rfl) ?_
                  refine lv_imul hx hb xdJ6_stringSize_0f7a4_34 ?_
                  refine tp_i (y := (-100000000)) (by decide) ?_
                  refine lv_istore_n (lv' := [(2, .int (-100000000)), (3, .int 7), (0, .int (-x)), (1, .int 0)]) hx hb xdJ6_stringSize_0f7a4_35 rfl hl (by decide) rfl (fun ls hl => ?_)
                  refine lv_iinc (v := 8) (lv' := [(3, .int 8), (2, .int (-100000000)), (0, .int (-x)), (1, .int 0)]) hx hb xdJ6_stringSize_0f7a4_36 hl (k := 1) rfl (by decide) (by decide) rfl (fun ls hl => ?_)
                  refine lv_goto (tgt := 16) hx hb xdJ6_stringSize_0f7a4_39 (by decide) ?_
                  refine lv_iload_n hx hb xdJ6_stringSize_0f7a4_16 rfl (lv_at hl 0 rfl) ?_
                  refine lv_bipush (v := 10) hx hb xdJ6_stringSize_0f7a4_17 (by decide) ?_
                  refine lv_icmp_ge (tgt := 42) hx hb xdJ6_stringSize_0f7a4_19 (by decide) (fun k35 => absurd k35 (by decide)) (fun _ => ?_)
                  refine lv_iload_n hx hb xdJ6_stringSize_0f7a4_22 rfl (lv_at hl 2 rfl) ?_
                  refine lv_iload_n hx hb xdJ6_stringSize_0f7a4_23 rfl (lv_at hl 1 rfl) ?_
                  refine lv_icmp_le (tgt := 31) hx hb xdJ6_stringSize_0f7a4_24 (by decide) (fun h36 => ?_) (fun h36 => ?_)
                  · refine lv_bipush (v := 10) hx hb xdJ6_stringSize_0f7a4_31 (by decide) ?_
                    refine lv_iload_n hx hb xdJ6_stringSize_0f7a4_33 rfl (lv_at hl 1 rfl) ?_
                    refine lv_imul hx hb xdJ6_stringSize_0f7a4_34 ?_
                    refine tp_i (y := (-1000000000)) (by decide) ?_
                    refine lv_istore_n (lv' := [(2, .int (-1000000000)), (3, .int 8), (0, .int (-x)), (1, .int 0)]) hx hb xdJ6_stringSize_0f7a4_35 rfl hl (by decide) rfl (fun ls hl => ?_)
                    refine lv_iinc (v := 9) (lv' := [(3, .int 9), (2, .int (-1000000000)), (0, .int (-x)), (1, .int 0)]) hx hb xdJ6_stringSize_0f7a4_36 hl (k := 1) rfl (by decide) (by decide) rfl (fun ls hl => ?_)
                    refine lv_goto (tgt := 16) hx hb xdJ6_stringSize_0f7a4_39 (by decide) ?_
                    refine lv_iload_n hx hb xdJ6_stringSize_0f7a4_16 rfl (lv_at hl 0 rfl) ?_
                    refine lv_bipush (v := 10) hx hb xdJ6_stringSize_0f7a4_17 (by decide) ?_
                    refine lv_icmp_ge (tgt := 42) hx hb xdJ6_stringSize_0f7a4_19 (by decide) (fun k37 => absurd k37 (by decide)) (fun _ => ?_)
                    refine lv_iload_n hx hb xdJ6_stringSize_0f7a4_22 rfl (lv_at hl 2 rfl) ?_
                    refine lv_iload_n hx hb xdJ6_stringSize_0f7a4_23 rfl (lv_at hl 1 rfl) ?_
                    refine lv_icmp_le (tgt := 31) hx hb xdJ6_stringSize_0f7a4_24 (by decide) (fun h38 => ?_) (fun h38 => ?_)
                    · refine lv_bipush (v := 10) hx hb xdJ6_stringSize_0f7a4_31 (by decide) ?_
                      refine lv_iload_n hx hb xdJ6_stringSize_0f7a4_33 rfl (lv_at hl 1 rfl) ?_
                      refine lv_imul hx hb xdJ6_stringSize_0f7a4_34 ?_
                      refine tp_i (y := (-1410065408)) (by decide) ?_
                      refine lv_istore_n (lv' := [(2, .int (-1410065408)), (3, .int 9), (0, .int (-x)), (1, .int 0)]) hx hb xdJ6_stringSize_0f7a4_35 rfl hl (by decide) rfl (fun ls hl => ?_)
                      refine lv_iinc (v := 10) (lv' := [(3, .int 10), (2, .int (-1410065408)), (0, .int (-x)), (1, .int 0)]) hx hb xdJ6_stringSize_0f7a4_36 hl (k := 1) rfl (by decide) (by decide) rfl (fun ls hl => ?_)
                      refine lv_goto (tgt := 16) hx hb xdJ6_stringSize_0f7a4_39 (by decide) ?_
                      refine lv_iload_n hx hb xdJ6_stringSize_0f7a4_16 rfl (lv_at hl 0 rfl) ?_
                      refine lv_bipush (v := 10) hx hb xdJ6_stringSize_0f7a4_17 (by decide) ?_
                      refine lv_icmp_ge (tgt := 42) hx hb xdJ6_stringSize_0f7a4_19 (by decide) (fun _ => ?_) (fun k39 => absurd k39 (by decide))
                      refine lv_bipush (v := 10) hx hb xdJ6_stringSize_0f7a4_42 (by decide) ?_
                      refine lv_iload_n hx hb xdJ6_stringSize_0f7a4_44 rfl (lv_at hl 3 rfl) ?_
                      refine lv_iadd hx hb xdJ6_stringSize_0f7a4_45 ?_
                      refine tp_i (y := 10) (by decide) ?_
                      have hP9 := hP.sub (ws' := []) [] rfl
                      have hD9 := hD.sub (ws' := []) [] (by decide) rfl
                      refine W.widen (k := 0) (n := 0) (by omega) (by omega) ?_
                      exact W.iret (v := 10) hx hb hr (fun t ht9 hW => ⟨⟨10, (), rfl, (by rw [if_neg h1, if_pos h22, if_pos h24, if_pos h26, if_pos h28, if_pos h30, if_pos h32, if_pos h34, if_pos h36, if_pos h38]), by rw [ht9]; exact hP9, hD9⟩, hS.F ht9⟩) hS.2.2 xdJ6_stringSize_0f7a4_46
                    · refine lv_iload_n hx hb xdJ6_stringSize_0f7a4_27 rfl (lv_at hl 0 rfl) ?_
                      refine lv_iload_n hx hb xdJ6_stringSize_0f7a4_28 rfl (lv_at hl 3 rfl) ?_
                      refine lv_iadd hx hb xdJ6_stringSize_0f7a4_29 ?_
                      refine tp_i (y := 9) (by decide) ?_
                      have hP9 := hP.sub (ws' := []) [] rfl
                      have hD9 := hD.sub (ws' := []) [] (by decide) rfl
                      refine W.widen (k := 0) (n := 0) (by omega) (by omega) ?_
                      exact W.iret (v := 9) hx hb hr (fun t ht9 hW => ⟨⟨9, (), rfl, (by rw [if_neg h1, if_pos h22, if_pos h24, if_pos h26, if_pos h28, if_pos h30, if_pos h32, if_pos h34, if_pos h36, if_neg h38]), by rw [ht9]; exact hP9, hD9⟩, hS.F ht9⟩) hS.2.2 xdJ6_stringSize_0f7a4_30
                  · refine lv_iload_n hx hb xdJ6_stringSize_0f7a4_27 rfl (lv_at hl 0 rfl) ?_
                    refine lv_iload_n hx hb xdJ6_stringSize_0f7a4_28 rfl (lv_at hl 3 rfl) ?_
                    refine lv_iadd hx hb xdJ6_stringSize_0f7a4_29 ?_
                    refine tp_i (y := 8) (by decide) ?_
                    have hP9 := hP.sub (ws' := []) [] rfl
                    have hD9 := hD.sub (ws' := []) [] (by decide) rfl
                    refine W.widen (k := 0) (n := 0) (by omega) (by omega) ?_
                    exact W.iret (v := 8) hx hb hr (fun t ht9 hW => ⟨⟨8, (), rfl, (by rw [if_neg h1, if_pos h22, if_pos h24, if_pos h26, if_pos h28, if_pos h30, if_pos h32, if_pos h34, if_neg h36]), by rw [ht9]; exact hP9, hD9⟩, hS.F ht9⟩) hS.2.2 xdJ6_stringSize_0f7a4_30
                · refine lv_iload_n hx hb xdJ6_stringSize_0f7a4_27 rfl (lv_at hl 0 rfl) ?_
                  refine lv_iload_n hx hb xdJ6_stringSize_0f7a4_28 rfl (lv_at hl 3 rfl) ?_
                  refine lv_iadd hx hb xdJ6_stringSize_0f7a4_29 ?_
                  refine tp_i (y := 7) (by decide) ?_
                  have hP9 := hP.sub (ws' := []) [] rfl
                  have hD9 := hD.sub (ws' := []) [] (by decide) rfl
                  refine W.widen (k := 0) (n := 0) (by omega) (by omega) ?_
                  exact W.iret (v := 7) hx hb hr (fun t ht9 hW => ⟨⟨7, (), rfl, (by rw [if_neg h1, if_pos h22, if_pos h24, if_pos h26, if_pos h28, if_pos h30, if_pos h32, if_neg h34]), by rw [ht9]; exact hP9, hD9⟩, hS.F ht9⟩) hS.2.2 xdJ6_stringSize_0f7a4_30
              · refine lv_iload_n hx hb xdJ6_stringSize_0f7a4_27 rfl (lv_at hl 0 rfl) ?_
                refine lv_iload_n hx hb xdJ6_stringSize_0f7a4_28 rfl (lv_at hl 3 rfl) ?_
                refine lv_iadd hx hb xdJ6_stringSize_0f7a4_29 ?_
                refine tp_i (y := 6) (by decide) ?_
                have hP9 := hP.sub (ws' := []) [] rfl
                have hD9 := hD.sub (ws' := []) [] (by decide) rfl
                refine W.widen (k := 0) (n := 0) (by omega) (by omega) ?_
                exact W.iret (v := 6) hx hb hr (fun t ht9 hW => ⟨⟨6, (), rfl, (by rw [if_neg h1, if_pos h22, if_pos h24, if_pos h26, if_pos h28, if_pos h30, if_neg h32]), by rw [ht9]; exact hP9, hD9⟩, hS.F ht9⟩) hS.2.2 xdJ6_stringSize_0f7a4_30
            · refine lv_iload_n hx hb xdJ6_stringSize_0f7a4_27 rfl (lv_at hl 0 rfl) ?_
              refine lv_iload_n hx hb xdJ6_stringSize_0f7a4_28 rfl (lv_at hl 3 rfl) ?_
              refine lv_iadd hx hb xdJ6_stringSize_0f7a4_29 ?_
              refine tp_i (y := 5) (by decide) ?_
              have hP9 := hP.sub (ws' := []) [] rfl
              have hD9 := hD.sub (ws' := []) [] (by decide) rfl
              refine W.widen (k := 0) (n := 0) (by omega) (by omega) ?_
              exact W.iret (v := 5) hx hb hr (fun t ht9 hW => ⟨⟨5, (), rfl, (by rw [if_neg h1, if_pos h22, if_pos h24, if_pos h26, if_pos h28, if_neg h30]), by rw [ht9]; exact hP9, hD9⟩, hS.F ht9⟩) hS.2.2 xdJ6_stringSize_0f7a4_30
          · refine lv_iload_n hx hb xdJ6_stringSize_0f7a4_27 rfl (lv_at hl 0 rfl) ?_
            refine lv_iload_n hx hb xdJ6_stringSize_0f7a4_28 rfl (lv_at hl 3 rfl) ?_
            refine lv_iadd hx hb xdJ6_stringSize_0f7a4_29 ?_
            refine tp_i (y := 4) (by decide) ?_
            have hP9 := hP.sub (ws' := []) [] rfl
            have hD9 := hD.sub (ws' := []) [] (by decide) rfl
            refine W.widen (k := 0) (n := 0) (by omega) (by omega) ?_
            exact W.iret (v := 4) hx hb hr (fun t ht9 hW => ⟨⟨4, (), rfl, (by rw [if_neg h1, if_pos h22, if_pos h24, if_pos h26, if_neg h28]), by rw [ht9]; exact hP9, hD9⟩, hS.F ht9⟩) hS.2.2 xdJ6_stringSize_0f7a4_30
        · refine lv_iload_n hx hb xdJ6_stringSize_0f7a4_27 rfl (lv_at hl 0 rfl) ?_
          refine lv_iload_n hx hb xdJ6_stringSize_0f7a4_28 rfl (lv_at hl 3 rfl) ?_
          refine lv_iadd hx hb xdJ6_stringSize_0f7a4_29 ?_
          refine tp_i (y := 3) (by decide) ?_
          have hP9 := hP.sub (ws' := []) [] rfl
          have hD9 := hD.sub (ws' := []) [] (by decide) rfl
          refine W.widen (k := 0) (n := 0) (by omega) (by omega) ?_
          exact W.iret (v := 3) hx hb hr (fun t ht9 hW => ⟨⟨3, (), rfl, (by rw [if_neg h1, if_pos h22, if_pos h24, if_neg h26]), by rw [ht9]; exact hP9, hD9⟩, hS.F ht9⟩) hS.2.2 xdJ6_stringSize_0f7a4_30
      · refine lv_iload_n hx hb xdJ6_stringSize_0f7a4_27 rfl (lv_at hl 0 rfl) ?_
        refine lv_iload_n hx hb xdJ6_stringSize_0f7a4_28 rfl (lv_at hl 3 rfl) ?_
        refine lv_iadd hx hb xdJ6_stringSize_0f7a4_29 ?_
        refine tp_i (y := 2) (by decide) ?_
        have hP9 := hP.sub (ws' := []) [] rfl
        have hD9 := hD.sub (ws' := []) [] (by decide) rfl
        refine W.widen (k := 0) (n := 0) (by omega) (by omega) ?_
        exact W.iret (v := 2) hx hb hr (fun t ht9 hW => ⟨⟨2, (), rfl, (by rw [if_neg h1, if_pos h22, if_neg h24]), by rw [ht9]; exact hP9, hD9⟩, hS.F ht9⟩) hS.2.2 xdJ6_stringSize_0f7a4_30
    · refine lv_iload_n hx hb xdJ6_stringSize_0f7a4_27 rfl (lv_at hl 0 rfl) ?_
      refine lv_iload_n hx hb xdJ6_stringSize_0f7a4_28 rfl (lv_at hl 3 rfl) ?_
      refine lv_iadd hx hb xdJ6_stringSize_0f7a4_29 ?_
      refine tp_i (y := 1) (by decide) ?_
      have hP9 := hP.sub (ws' := []) [] rfl
      have hD9 := hD.sub (ws' := []) [] (by decide) rfl
      refine W.widen (k := 0) (n := 0) (by omega) (by omega) ?_
      exact W.iret (v := 1) hx hb hr (fun t ht9 hW => ⟨⟨1, (), rfl, (by rw [if_neg h1, if_neg h22]), by rw [ht9]; exact hP9, hD9⟩, hS.F ht9⟩) hS.2.2 xdJ6_stringSize_0f7a4_30
def szX (x : Int32) : Int32 := (if x < 0 then (if x ≤ (-10) then (if x ≤ (-100) then (if x ≤ (-1000) then (if x ≤ (-10000) then (if x ≤ (-100000) then (if x ≤ (-1000000) then (if x ≤ (-10000000) then (if x ≤ (-100000000) then (if x ≤ (-1000000000) then 11 else 10) else 9) else 8) else 7) else 6) else 5) else 4) else 3) else 2) else (if (-x) ≤ (-10) then (if (-x) ≤ (-100) then (if (-x) ≤ (-1000) then (if (-x) ≤ (-10000) then (if (-x) ≤ (-100000) then (if (-x) ≤ (-1000000) then (if (-x) ≤ (-10000000) then (if (-x) ≤ (-100000000) then (if (-x) ≤ (-1000000000) then 10 else 9) else 8) else 7) else 6) else 5) else 4) else 3) else 2) else 1))
theorem dgN_val (M : Nat) : (M < 10 ∧ dgN M = 1) ∨ (10 ≤ M ∧ M < 100 ∧ dgN M = 2) ∨ (100 ≤ M ∧ M < 1000 ∧ dgN M = 3) ∨ (1000 ≤ M ∧ M < 10000 ∧ dgN M = 4) ∨ (10000 ≤ M ∧ M < 100000 ∧ dgN M = 5) ∨ (100000 ≤ M ∧ M < 1000000 ∧ dgN M = 6) ∨ (1000000 ≤ M ∧ M < 10000000 ∧ dgN M = 7) ∨ (10000000 ≤ M ∧ M < 100000000 ∧ dgN M = 8) ∨ (100000000 ≤ M ∧ M < 1000000000 ∧ dgN M = 9) ∨ (1000000000 ≤ M ∧ dgN M = 10) := by
  unfold dgN
  repeat' split
  all_goals omega
theorem szX_eq (x : Int32) : szX x = nI (dl x) := by
  unfold szX dl
  by_cases h : x < 0
  · obtain ⟨e, hb, h0⟩ := nN_of h
    rw [if_pos h, if_pos h]
    generalize (-x.toInt).toNat = M at e hb h0 ⊢
    subst e
    simp only [nN_le (k := 10) (y := -10) (by decide) hb (by omega), nN_le (k := 100) (y := -100) (by decide) hb (by omega), nN_le (k := 1000) (y := -1000) (by decide) hb (by omega), nN_le (k := 10000) (y := -10000) (by decide) hb (by omega), nN_le (k := 100000) (y := -100000) (by decide) hb (by omega), nN_le (k := 1000000) (y := -1000000) (by decide) hb (by omega), nN_le (k := 10000000) (y := -10000000) (by decide) hb (by omega), nN_le (k := 100000000) (y := -100000000) (by decide) hb (by omega), nN_le (k := 1000000000) (y := -1000000000) (by decide) hb (by omega)]
    rcases dgN_val M with h9 | h9 | h9 | h9 | h9 | h9 | h9 | h9 | h9 | h9
    · rw [if_neg (show ¬ 10 ≤ M by omega), h9.2]; rfl
    · rw [if_pos (show 10 ≤ M by omega), if_neg (show ¬ 100 ≤ M by omega), h9.2.2]; rfl
    · rw [if_pos (show 10 ≤ M by omega), if_pos (show 100 ≤ M by omega), if_neg (show ¬ 1000 ≤ M by omega), h9.2.2]; rfl
    · rw [if_pos (show 10 ≤ M by omega), if_pos (show 100 ≤ M by omega), if_pos (show 1000 ≤ M by omega), if_neg (show ¬ 10000 ≤ M by omega), h9.2.2]; rfl
    · rw [if_pos (show 10 ≤ M by omega), if_pos (show 100 ≤ M by omega), if_pos (show 1000 ≤ M by omega), if_pos (show 10000 ≤ M by omega), if_neg (show ¬ 100000 ≤ M by omega), h9.2.2]; rfl
    · rw [if_pos (show 10 ≤ M by omega), if_pos (show 100 ≤ M by omega), if_pos (show 1000 ≤ M by omega), if_pos (show 10000 ≤ M by omega), if_pos (show 100000 ≤ M by omega), if_neg (show ¬ 1000000 ≤ M by omega), h9.2.2]; rfl
    · rw [if_pos (show 10 ≤ M by omega), if_pos (show 100 ≤ M by omega), if_pos (show 1000 ≤ M by omega), if_pos (show 10000 ≤ M by omega), if_pos (show 100000 ≤ M by omega), if_pos (show 1000000 ≤ M by omega), if_neg (show ¬ 10000000 ≤ M by omega), h9.2.2]; rfl
    · rw [if_pos (show 10 ≤ M by omega), if_pos (show 100 ≤ M by omega), if_pos (show 1000 ≤ M by omega), if_pos (show 10000 ≤ M by omega), if_pos (show 100000 ≤ M by omega), if_pos (show 1000000 ≤ M by omega), if_pos (show 10000000 ≤ M by omega), if_neg (show ¬ 100000000 ≤ M by omega), h9.2.2]; rfl
    · rw [if_pos (show 10 ≤ M by omega), if_pos (show 100 ≤ M by omega), if_pos (show 1000 ≤ M by omega), if_pos (show 10000 ≤ M by omega), if_pos (show 100000 ≤ M by omega), if_pos (show 1000000 ≤ M by omega), if_pos (show 10000000 ≤ M by omega), if_pos (show 100000000 ≤ M by omega), if_neg (show ¬ 1000000000 ≤ M by omega), h9.2.2]; rfl
    · rw [if_pos (show 10 ≤ M by omega), if_pos (show 100 ≤ M by omega), if_pos (show 1000 ≤ M by omega), if_pos (show 10000 ≤ M by omega), if_pos (show 100000 ≤ M by omega), if_pos (show 1000000 ≤ M by omega), if_pos (show 10000000 ≤ M by omega), if_pos (show 100000000 ≤ M by omega), if_pos (show 1000000000 ≤ M by omega), h9.2]; rfl
  · obtain ⟨e, hb⟩ := nN_neg h
    have hb : x.toInt.toNat ≤ 2147483648 := by omega
    rw [if_neg h, if_neg h]
    rw [e]
    generalize x.toInt.toNat = M at hb ⊢
    simp only [nN_le (k := 10) (y := -10) (by decide) hb (by omega), nN_le (k := 100) (y := -100) (by decide) hb (by omega), nN_le (k := 1000) (y := -1000) (by decide) hb (by omega), nN_le (k := 10000) (y := -10000) (by decide) hb (by omega), nN_le (k := 100000) (y := -100000) (by decide) hb (by omega), nN_le (k := 1000000) (y := -1000000) (by decide) hb (by omega), nN_le (k := 10000000) (y := -10000000) (by decide) hb (by omega), nN_le (k := 100000000) (y := -100000000) (by decide) hb (by omega), nN_le (k := 1000000000) (y := -1000000000) (by decide) hb (by omega)]
    rcases dgN_val M with h9 | h9 | h9 | h9 | h9 | h9 | h9 | h9 | h9 | h9
    · rw [if_neg (show ¬ 10 ≤ M by omega), h9.2]; rfl
    · rw [if_pos (show 10 ≤ M by omega), if_neg (show ¬ 100 ≤ M by omega), h9.2.2]; rfl
    · rw [if_pos (show 10 ≤ M by omega), if_pos (show 100 ≤ M by omega), if_neg (show ¬ 1000 ≤ M by omega), h9.2.2]; rfl
    · rw [if_pos (show 10 ≤ M by omega), if_pos (show 100 ≤ M by omega), if_pos (show 1000 ≤ M by omega), if_neg (show ¬ 10000 ≤ M by omega), h9.2.2]; rfl
    · rw [if_pos (show 10 ≤ M by omega), if_pos (show 100 ≤ M by omega), if_pos (show 1000 ≤ M by omega), if_pos (show 10000 ≤ M by omega), if_neg (show ¬ 100000 ≤ M by omega), h9.2.2]; rfl
    · rw [if_pos (show 10 ≤ M by omega), if_pos (show 100 ≤ M by omega), if_pos (show 1000 ≤ M by omega), if_pos (show 10000 ≤ M by omega), if_pos (show 100000 ≤ M by omega), if_neg (show ¬ 1000000 ≤ M by omega), h9.2.2]; rfl
    · rw [if_pos (show 10 ≤ M by omega), if_pos (show 100 ≤ M by omega), if_pos (show 1000 ≤ M by omega), if_pos (show 10000 ≤ M by omega), if_pos (show 100000 ≤ M by omega), if_pos (show 1000000 ≤ M by omega), if_neg (show ¬ 10000000 ≤ M by omega), h9.2.2]; rfl
    · rw [if_pos (show 10 ≤ M by omega), if_pos (show 100 ≤ M by omega), if_pos (show 1000 ≤ M by omega), if_pos (show 10000 ≤ M by omega), if_pos (show 100000 ≤ M by omega), if_pos (show 1000000 ≤ M by omega), if_pos (show 10000000 ≤ M by omega), if_neg (show ¬ 100000000 ≤ M by omega), h9.2.2]; rfl
    · rw [if_pos (show 10 ≤ M by omega), if_pos (show 100 ≤ M by omega), if_pos (show 1000 ≤ M by omega), if_pos (show 10000 ≤ M by omega), if_pos (show 100000 ≤ M by omega), if_pos (show 1000000 ≤ M by omega), if_pos (show 10000000 ≤ M by omega), if_pos (show 100000000 ≤ M by omega), if_neg (show ¬ 1000000000 ≤ M by omega), h9.2.2]; rfl
    · rw [if_pos (show 10 ≤ M by omega), if_pos (show 100 ≤ M by omega), if_pos (show 1000 ≤ M by omega), if_pos (show 10000 ≤ M by omega), if_pos (show 100000 ≤ M by omega), if_pos (show 1000000 ≤ M by omega), if_pos (show 10000000 ≤ M by omega), if_pos (show 100000000 ≤ M by omega), if_pos (show 1000000000 ≤ M by omega), h9.2]; rfl
theorem dgN_2 {M : Nat} (h : ¬ M ≤ 9) : 2 ≤ dgN M := by
  unfold dgN
  repeat' split
  all_goals omega
theorem TB.eq {f g : Nat → Int32} {c e : Nat} {p q : List Int32} (a : TB f g c e p) (h : q = p) : TB f g c e q := h ▸ a
theorem TB.mv {f g : Nat → Int32} {c c2 e : Nat} {p : List Int32} (h : c = c2) (a : TB f g c e p) : TB f g c2 e p := h ▸ a
theorem dgR_1 {d : Nat} (h : d ≤ 9) : dgR d (dgN d) = [nI (48 + d % 10)] := by
  have e : dgN d = 1 := by unfold dgN; rw [if_pos (by omega)]
  rw [e]
  show [nI (48 + d / 10 ^ 0 % 10)] = _
  rw [Nat.pow_zero, Nat.div_one]
theorem dgR_2 {d : Nat} (h : ¬ d ≤ 9) (h2 : d < 100) : dgR d (dgN d) = [nI (48 + d / 10), nI (48 + d % 10)] := by
  have e : dgN d = 2 := by unfold dgN; rw [if_neg (by omega), if_pos h2]
  rw [e, show (2 : Nat) = 0 + 2 from rfl, dgR_hun]
  show [nI (48 + d % 100 / 10), nI (48 + d % 100 % 10)] = _
  rw [show d % 100 = d by omega]
set_option maxHeartbeats 16000000 in
set_option maxRecDepth 100000 in
/-- Integer.getChars -/
theorem c_sx_getC (l : Launch) (dC : Nat → ClassId) (dI : Nat → Nat → Nat) (cI cB cZ cJ cR : ClassId) (tb : Nat → Nat) (sz : Nat) (x : Int32) (cp : Nat) (b : Nat) (a : Nat) (m : Nat) (f : Nat → Int32) (hm : m = 16 ∨ m = 34) (hf : sb_Fit f) (h1 : cp = b + dl x) (h2 : cp ≤ m) : Met l yJ6_getChars_ba4f3 (Cond.code yJ6_getChars_ba4f3 cJ6_getChars_ba4f3 7 (some .int) :: tw_W) ({ frames := 0, cells := 0, slots := 0, locals := 0 }) (pc_ (dC, dI) (tyS cI cB cZ cJ cR) tb [(a, .inl (cB, m, .inl f))] sz [.int x, .int (nI cp), .ref a]) (qi_ (dC, dI) [(a, .inl (cB, m, .inl f))] sz (fun (r : Int32) (u : (Nat → Int32)) => sb_Fit u ∧ TA f b u cp (decT x)) (fun (u : (Nat → Int32)) => [(a, .inl (cB, m, .inl u))])) 0 0 (va_A [(a, .inl (cB, m, .inl f))] sz) := by
  refine Met.ofW (cc := cJ6_getChars_ba4f3) (maxL := 7) (ret := (some .int)) (by decide) rfl ?_
  intro p e s m9 args below meth c s₁ B hml hv
  obtain ⟨rfl, hsz, hP, hKK, hD0, hFx⟩ := hv
  have hK := hKK.1
  have hx := B.exec
  have hb := B.bytes
  have hr := B.returns
  have ht : ∀ w ∈ tw_W, w.before _ s = true := fun w h => atoms_spec (ws := Cond.code yJ6_getChars_ba4f3 cJ6_getChars_ba4f3 7 (some .int) :: tw_W) B.pre w (List.mem_cons_of_mem _ h)
  have hown : s.vm.findClass RJ6 = some m9.cls := findClass_of_methodNamed B.named
  have hlocks := B.notSynchronized
  subst hsz
  unfold qi_
  have hD := hD0.self (sz := s.heap.size)
  generalize hAe : va_A [(a, .inl (cB, m, .inl f))] s.heap.size = A at hD hFx ⊢
  have hA : ∀ q : Nat, s.heap.size ≤ q → A q := fun q h => by rw [← hAe]; exact Or.inr h
  have hS : va_S A s.heap s.heap [] := va_S.rf
  have hP : va_P (dC, dI) vwCl [(a, .inl (cB, m, .inl f))] s.heap := hP
  have hl := lv_entry ([.int x, .int (nI cp), .ref a]) (n := 7) (Nat.le_of_ble_eq_true rfl)
  rw [lg_entry_eq]
  generalize (lg_sl ([.int x, .int (nI cp), .ref a]) ++ List.replicate (7 - (lg_sl ([.int x, .int (nI cp), .ref a])).length) Slot.unset).toArray = ls at hl ⊢
  have hl : lv_has ls 7 [(0, .int x), (1, .int (nI cp)), (2, .ref a)] := hl
  refine lv_iload_n hx hb xdJ6_getChars_ba4f3_0 rfl (lv_at hl 1 rfl) ?_
  refine lv_istore (lv' := [(5, .int (nI cp)), (0, .int x), (1, .int (nI cp)), (2, .ref a)]) hx hb xdJ6_getChars_ba4f3_1 hl (by decide) rfl (fun ls hl => ?_)
  refine lv_iload_n hx hb xdJ6_getChars_ba4f3_3 rfl (lv_at hl 1 rfl) ?_
  refine lv_if_ge (tgt := 11) hx hb xdJ6_getChars_ba4f3_4 (by decide) (fun h1 => ?_) (fun h1 => ?_)
  · refine lv_iconst (v := 0) hx hb xdJ6_getChars_ba4f3_11 (by decide) ?_
    refine lv_istore (lv' := [(6, .int 0), (5, .int (nI cp)), (0, .int x), (1, .int (nI cp)), (2, .ref a)]) hx hb xdJ6_getChars_ba4f3_12 hl (by decide) rfl (fun ls hl => ?_)
    refine lv_iload hx hb xdJ6_getChars_ba4f3_14 (lv_at hl 0 rfl) ?_
    refine lv_if_ne (tgt := 22) hx hb xdJ6_getChars_ba4f3_16 (by decide) (fun k2 => absurd k2 (by decide)) (fun _ => ?_)
    refine lv_iload_n hx hb xdJ6_getChars_ba4f3_19 rfl (lv_at hl 2 rfl) ?_
    refine lv_ineg hx hb xdJ6_getChars_ba4f3_20 ?_
    refine lv_istore_n (lv' := [(0, .int (-x)), (6, .int 0), (5, .int (nI cp)), (1, .int (nI cp)), (2, .ref a)]) hx hb xdJ6_getChars_ba4f3_21 rfl hl (by decide) rfl (fun ls hl => ?_)
    have hng : ¬ x < 0 := Int32.not_lt.mpr h1
    obtain ⟨e9, hM0⟩ := nN_neg hng
    have hdl : dl x = dgN x.toInt.toNat := by unfold dl; rw [if_neg hng]
    have hl9 : lv_has ls 7 [(0, .int (nN x.toInt.toNat)), (2, .ref a), (5, .int (nI cp)), (6, .int 0)] := by rw [← e9]; exact lv_sub hl [0, 4, 2, 1] rfl
    refine lpw_ (P := fun (d9 : Nat) (H : Heap) (locs : List Loc) (ls : Array Slot) => ∃ (M cpX : Nat) (fX : Nat → Int32), d9 = M ∧ M ≤ 2147483648 ∧ dgN M + 0 ≤ cpX ∧ cpX ≤ m ∧ sb_Fit fX ∧ (∃ suf : List Int32, dgT (x.toInt.toNat) = dgR M (dgN M) ++ suf ∧ TB f fX cpX cp suf) ∧ va_P (dC, dI) vwCl [(a, .inl (cB, m, .inl fX))] H ∧ va_D A [(a, .inl (cB, m, .inl fX))] ∧ va_S A s.heap H locs ∧ lv_has ls 7 [(0, .int (nN M)), (2, .ref a), (5, .int (nI cpX)), (6, .int 0)]) 22 (fun d9 H locs ls hq9 ih9 => ?_) _ _ _ _ ⟨x.toInt.toNat, cp, f, rfl, by omega, by omega, by omega, by assumption, ⟨[], (List.append_nil _).symm, TB.nil⟩, hP, hD, hS, hl9⟩
    obtain ⟨M, cpX, fX, rfl, hM, hcp1, hcp2, hfX, ⟨suf, hsuf, hTB⟩, hP, hD, hS, hl⟩ := hq9
    have hdg := dgN_le d9
    have hsl := congrArg List.length hsuf
    rw [List.length_append, dgT, dgR_len, dgR_len] at hsl
    have hcp9 := hTB.1
    have hdv9 := dgN_val d9
    refine lv_iload_n hx hb xdJ6_getChars_ba4f3_22 rfl (lv_at hl 0 rfl) ?_
    refine lv_bipush (v := -100) hx hb xdJ6_getChars_ba4f3_23 (by decide) ?_
    refine lv_icmp_gt (tgt := 72) hx hb xdJ6_getChars_ba4f3_25 (by decide) (fun h3 => ?_) (fun h3 => ?_)
    · have hM9 : d9 < 100 := (nN_lt (k := 100) (y := -100) (by decide) hM (by omega)).mp h3
      refine lv_aload_n hx hb xdJ6_getChars_ba4f3_72 rfl (lv_at hl 1 rfl) ?_
      refine lv_iinc (v := (nI (cpX - 1))) (lv' := [(5, .int (nI (cpX - 1))), (0, .int (nN d9)), (2, .ref a), (6, .int 0)]) hx hb xdJ6_getChars_ba4f3_73 hl (k := 2) rfl (sb_m1 (by omega)) (by decide) rfl (fun ls hl => ?_)
      refine lv_iload hx hb xdJ6_getChars_ba4f3_76 (lv_at hl 0 rfl) ?_
      refine va_gets hx hb (hFx.2.2.1 1 _ rfl).1 hS hown (ht _ xw_83) (fun _ h9 => h9) xdJ6_getChars_ba4f3_78 ?_
      refine lv_iload_n hx hb xdJ6_getChars_ba4f3_81 rfl (lv_at hl 1 rfl) ?_
      refine lv_ineg hx hb xdJ6_getChars_ba4f3_82 ?_
      refine tp_i (y := (nI d9)) (nN_negI (by omega)) ?_
      refine va_tb (v := .int ((tbD.getD 1 ("", [])).2.getD d9 0)) hx hb (hFx.2.2.1 1 _ rfl).2 hS (show vp_in (nI d9) 100 from vp_in_nI (by omega) (by omega)) (by show Value.int _ = _; rw [nI_clamp (n := d9) (by omega)]; rfl) xdJ6_getChars_ba4f3_83 ?_
      generalize hb_b4 : ((tbD.getD 1 ("", [])).2.getD d9 0) = b4
      refine va_bast (D := (dC, dI)) hx hb hK hP hD hS 0 1 rfl rfl (show vp_in (nI (cpX - 1)) m from vp_in_nI (by omega) (by omega)) xdJ6_getChars_ba4f3_84 (fun H locs hP hD hS => ?_)
      have hP : va_P (dC, dI) vwCl [(a, .inl (cB, m, .inl (upd fX (nI (cpX - 1)).toNatClampNeg (vp_nar .byte b4))))] H := hP
      have hD : va_D A [(a, .inl (cB, m, .inl (upd fX (nI (cpX - 1)).toNatClampNeg (vp_nar .byte b4))))] := hD
      have hg_f5 : sb_Fit (upd fX (nI (cpX - 1)).toNatClampNeg (vp_nar .byte b4)) := sb_fitU (by assumption) (fit_nar _)
      generalize he_f5 : upd fX (nI (cpX - 1)).toNatClampNeg (vp_nar .byte b4) = f5 at hP hD hg_f5
      refine lv_iload_n hx hb xdJ6_getChars_ba4f3_85 rfl (lv_at hl 1 rfl) ?_
      refine lv_bipush (v := -9) hx hb xdJ6_getChars_ba4f3_86 (by decide) ?_
      refine lv_icmp_ge (tgt := 104) hx hb xdJ6_getChars_ba4f3_88 (by decide) (fun h6 => ?_) (fun h6 => ?_)
      · have hM6 : d9 ≤ 9 := (nN_ge (k := 9) (y := -9) (by decide) hM (by omega)).mp h6
        refine lv_iload hx hb xdJ6_getChars_ba4f3_104 (lv_at hl 3 rfl) ?_
        refine lv_if_eq (tgt := 118) hx hb xdJ6_getChars_ba4f3_106 (by decide) (fun _ => ?_) (fun k7 => absurd k7 (by decide))
        refine lv_iload hx hb xdJ6_getChars_ba4f3_118 (lv_at hl 0 rfl) ?_
        have hP9 := hP.sub (ws' := [(a, .inl (cB, m, .inl f5))]) [0] rfl
        have hD9 := hD.sub (ws' := [(a, .inl (cB, m, .inl f5))]) [0] (by decide) rfl
        refine W.widen (k := 0) (n := 0) (by omega) (by omega) ?_
        exact W.iret (v := (nI (cpX - 1))) hx hb hr (fun t ht9 hW => ⟨⟨(nI (cpX - 1)), f5, rfl, ⟨(by assumption), (TB.ta (TB.mv (by omega) (TB.eq (TB.put (y := nI (48 + d9 % 10)) hTB (by omega) (by omega) he_f5 (by rw [← hb_b4]; exact (dgB (d9) (by omega)).2)) (by unfold decT; rw [if_neg hng, hsuf, dgR_1 (by omega)]; rfl))))⟩, by rw [ht9]; exact hP9, hD9⟩, hS.F ht9⟩) hS.2.2 xdJ6_getChars_ba4f3_120
      · have hM6 : ¬ d9 ≤ 9 := fun z => h6 ((nN_ge (k := 9) (y := -9) (by decide) hM (by omega)).mpr z)
        have hM5 := dgN_2 hM6
        refine lv_aload_n hx hb xdJ6_getChars_ba4f3_91 rfl (lv_at hl 2 rfl) ?_
        refine lv_iinc (v := (nI ((cpX - 1) - 1))) (lv' := [(5, .int (nI ((cpX - 1) - 1))), (0, .int (nN d9)), (2, .ref a), (6, .int 0)]) hx hb xdJ6_getChars_ba4f3_92 hl (k := 0) rfl (sb_m1 (by omega)) (by decide) rfl (fun ls hl => ?_)
        refine lv_iload hx hb xdJ6_getChars_ba4f3_95 (lv_at hl 0 rfl) ?_
        refine va_gets hx hb (hFx.2.2.1 0 _ rfl).1 hS hown (ht _ xw_84) (fun _ h9 => h9) xdJ6_getChars_ba4f3_97 ?_
        refine lv_iload_n hx hb xdJ6_getChars_ba4f3_100 rfl (lv_at hl 1 rfl) ?_
        refine lv_ineg hx hb xdJ6_getChars_ba4f3_101 ?_
        refine tp_i (y := (nI d9)) (nN_negI (by omega)) ?_
        refine va_tb (v := .int ((tbD.getD 0 ("", [])).2.getD d9 0)) hx hb (hFx.2.2.1 0 _ rfl).2 hS (show vp_in (nI d9) 100 from vp_in_nI (by omega) (by omega)) (by show Value.int _ = _; rw [nI_clamp (n := d9) (by omega)]; rfl) xdJ6_getChars_ba4f3_102 ?_
        generalize hb_b8 : ((tbD.getD 0 ("", [])).2.getD d9 0) = b8
        refine va_bast (D := (dC, dI)) hx hb hK hP hD hS 0 1 rfl rfl (show vp_in (nI ((cpX - 1) - 1)) m from vp_in_nI (by omega) (by omega)) xdJ6_getChars_ba4f3_103 (fun H locs hP hD hS => ?_)
        have hP : va_P (dC, dI) vwCl [(a, .inl (cB, m, .inl (upd f5 (nI ((cpX - 1) - 1)).toNatClampNeg (vp_nar .byte b8))))] H := hP
        have hD : va_D A [(a, .inl (cB, m, .inl (upd f5 (nI ((cpX - 1) - 1)).toNatClampNeg (vp_nar .byte b8))))] := hD
        have hg_f9 : sb_Fit (upd f5 (nI ((cpX - 1) - 1)).toNatClampNeg (vp_nar .byte b8)) := sb_fitU (by assumption) (fit_nar _)
        generalize he_f9 : upd f5 (nI ((cpX - 1) - 1)).toNatClampNeg (vp_nar .byte b8) = f9 at hP hD hg_f9
        refine lv_iload hx hb xdJ6_getChars_ba4f3_104 (lv_at hl 3 rfl) ?_
        refine lv_if_eq (tgt := 118) hx hb xdJ6_getChars_ba4f3_106 (by decide) (fun _ => ?_) (fun k10 => absurd k10 (by decide))
        refine lv_iload hx hb xdJ6_getChars_ba4f3_118 (lv_at hl 0 rfl) ?_
        have hP9 := hP.sub (ws' := [(a, .inl (cB, m, .inl f9))]) [0] rfl
        have hD9 := hD.sub (ws' := [(a, .inl (cB, m, .inl f9))]) [0] (by decide) rfl
        refine W.widen (k := 0) (n := 0) (by omega) (by omega) ?_
        exact W.iret (v := (nI ((cpX - 1) - 1))) hx hb hr (fun t ht9 hW => ⟨⟨(nI ((cpX - 1) - 1)), f9, rfl, ⟨(by assumption), (TB.ta (TB.mv (by omega) (TB.eq (TB.put (y := nI (48 + d9 / 10)) (TB.put (y := nI (48 + d9 % 10)) hTB (by omega) (by omega) he_f5 (by rw [← hb_b4]; exact (dgB (d9) (by omega)).2)) (by omega) (by omega) he_f9 (by rw [← hb_b8]; exact (dgB (d9) (by omega)).1)) (by unfold decT; rw [if_neg hng, hsuf, dgR_2 (by omega) hM9]; rfl))))⟩, by rw [ht9]; exact hP9, hD9⟩, hS.F ht9⟩) hS.2.2 xdJ6_getChars_ba4f3_120
    · have hM9 : ¬ d9 < 100 := fun z => h3 ((nN_lt (k := 100) (y := -100) (by decide) hM (by omega)).mpr z)
      have hM8 := dgN_100 (m := d9) (by omega) hM
      have hM7 := dgN_le (d9 / 100)
      refine lv_iload_n hx hb xdJ6_getChars_ba4f3_28 rfl (lv_at hl 0 rfl) ?_
      refine lv_bipush (v := 100) hx hb xdJ6_getChars_ba4f3_29 (by decide) ?_
      refine lv_idiv hx hb xdJ6_getChars_ba4f3_31 (by decide) ?_
      refine tp_i (y := (nN (d9 / 100))) (nN_div hM) ?_
      refine lv_istore_n (lv' := [(3, .int (nN (d9 / 100))), (0, .int (nN d9)), (2, .ref a), (5, .int (nI cpX)), (6, .int 0)]) hx hb xdJ6_getChars_ba4f3_32 rfl hl (by decide) rfl (fun ls hl => ?_)
      refine lv_iload_n hx hb xdJ6_getChars_ba4f3_33 rfl (lv_at hl 0 rfl) ?_
      refine lv_bipush (v := 100) hx hb xdJ6_getChars_ba4f3_34 (by decide) ?_
      refine lv_imul hx hb xdJ6_getChars_ba4f3_36 ?_
      refine lv_iload_n hx hb xdJ6_getChars_ba4f3_37 rfl (lv_at hl 1 rfl) ?_
      refine lv_isub hx hb xdJ6_getChars_ba4f3_38 ?_
      refine tp_i (y := (nI (d9 % 100))) (nN_rem hM) ?_
      refine lv_istore (lv' := [(4, .int (nI (d9 % 100))), (3, .int (nN (d9 / 100))), (0, .int (nN d9)), (2, .ref a), (5, .int (nI cpX)), (6, .int 0)]) hx hb xdJ6_getChars_ba4f3_39 hl (by decide) rfl (fun ls hl => ?_)
      refine lv_iload_n hx hb xdJ6_getChars_ba4f3_41 rfl (lv_at hl 1 rfl) ?_
      refine lv_istore_n (lv' := [(0, .int (nN (d9 / 100))), (4, .int (nI (d9 % 100))), (3, .int (nN (d9 / 100))), (2, .ref a), (5, .int (nI cpX)), (6, .int 0)]) hx hb xdJ6_getChars_ba4f3_42 rfl hl (by decide) rfl (fun ls hl => ?_)
      refine lv_aload_n hx hb xdJ6_getChars_ba4f3_43 rfl (lv_at hl 3 rfl) ?_
      refine lv_iinc (v := (nI (cpX - 1))) (lv' := [(5, .int (nI (cpX - 1))), (0, .int (nN (d9 / 100))), (4, .int (nI (d9 % 100))), (3, .int (nN (d9 / 100))), (2, .ref a), (6, .int 0)]) hx hb xdJ6_getChars_ba4f3_44 hl (k := 4) rfl (sb_m1 (by omega)) (by decide) rfl (fun ls hl => ?_)
      refine lv_iload hx hb xdJ6_getChars_ba4f3_47 (lv_at hl 0 rfl) ?_
      refine va_gets hx hb (hFx.2.2.1 1 _ rfl).1 hS hown (ht _ xw_83) (fun _ h9 => h9) xdJ6_getChars_ba4f3_49 ?_
      refine lv_iload hx hb xdJ6_getChars_ba4f3_52 (lv_at hl 2 rfl) ?_
      refine va_tb (v := .int ((tbD.getD 1 ("", [])).2.getD (d9 % 100) 0)) hx hb (hFx.2.2.1 1 _ rfl).2 hS (show vp_in (nI (d9 % 100)) 100 from vp_in_nI (by omega) (by omega)) (by show Value.int _ = _; rw [nI_clamp (n := (d9 % 100)) (by omega)]; rfl) xdJ6_getChars_ba4f3_54 ?_
      generalize hb_b11 : ((tbD.getD 1 ("", [])).2.getD (d9 % 100) 0) = b11
      refine va_bast (D := (dC, dI)) hx hb hK hP hD hS 0 1 rfl rfl (show vp_in (nI (cpX - 1)) m from vp_in_nI (by omega) (by omega)) xdJ6_getChars_ba4f3_55 (fun H locs hP hD hS => ?_)
      have hP : va_P (dC, dI) vwCl [(a, .inl (cB, m, .inl (upd fX (nI (cpX - 1)).toNatClampNeg (vp_nar .byte b11))))] H := hP
      have hD : va_D A [(a, .inl (cB, m, .inl (upd fX (nI (cpX - 1)).toNatClampNeg (vp_nar .byte b11))))] := hD
      have hg_f12 : sb_Fit (upd fX (nI (cpX - 1)).toNatClampNeg (vp_nar .byte b11)) := sb_fitU (by assumption) (fit_nar _)
      generalize he_f12 : upd fX (nI (cpX - 1)).toNatClampNeg (vp_nar .byte b11) = f12 at hP hD hg_f12
      refine lv_aload_n hx hb xdJ6_getChars_ba4f3_56 rfl (lv_at hl 4 rfl) ?_
      refine lv_iinc (v := (nI ((cpX - 1) - 1))) (lv' := [(5, .int (nI ((cpX - 1) - 1))), (0, .int (nN (d9 / 100))), (4, .int (nI (d9 % 100))), (3, .int (nN (d9 / 100))), (2, .ref a), (6, .int 0)]) hx hb xdJ6_getChars_ba4f3_57 hl (k := 0) rfl (sb_m1 (by omega)) (by decide) rfl (fun ls hl => ?_)
      refine lv_iload hx hb xdJ6_getChars_ba4f3_60 (lv_at hl 0 rfl) ?_
      refine va_gets hx hb (hFx.2.2.1 0 _ rfl).1 hS hown (ht _ xw_84) (fun _ h9 => h9) xdJ6_getChars_ba4f3_62 ?_
      refine lv_iload hx hb xdJ6_getChars_ba4f3_65 (lv_at hl 2 rfl) ?_
      refine va_tb (v := .int ((tbD.getD 0 ("", [])).2.getD (d9 % 100) 0)) hx hb (hFx.2.2.1 0 _ rfl).2 hS (show vp_in (nI (d9 % 100)) 100 from vp_in_nI (by omega) (by omega)) (by show Value.int _ = _; rw [nI_clamp (n := (d9 % 100)) (by omega)]; rfl) xdJ6_getChars_ba4f3_67 ?_
      generalize hb_b13 : ((tbD.getD 0 ("", [])).2.getD (d9 % 100) 0) = b13
      refine va_bast (D := (dC, dI)) hx hb hK hP hD hS 0 1 rfl rfl (show vp_in (nI ((cpX - 1) - 1)) m from vp_in_nI (by omega) (by omega)) xdJ6_getChars_ba4f3_68 (fun H locs hP hD hS => ?_)
      have hP : va_P (dC, dI) vwCl [(a, .inl (cB, m, .inl (upd f12 (nI ((cpX - 1) - 1)).toNatClampNeg (vp_nar .byte b13))))] H := hP
      have hD : va_D A [(a, .inl (cB, m, .inl (upd f12 (nI ((cpX - 1) - 1)).toNatClampNeg (vp_nar .byte b13))))] := hD
      have hg_f14 : sb_Fit (upd f12 (nI ((cpX - 1) - 1)).toNatClampNeg (vp_nar .byte b13)) := sb_fitU (by assumption) (fit_nar _)
      generalize he_f14 : upd f12 (nI ((cpX - 1) - 1)).toNatClampNeg (vp_nar .byte b13) = f14 at hP hD hg_f14
      refine lv_goto (tgt := 22) hx hb xdJ6_getChars_ba4f3_69 (by decide) ?_
      exact ih9 (d9 / 100) _ _ _ (by omega) ⟨_, ((cpX - 1) - 1), f14, rfl, by omega, by omega, by omega, by assumption, ⟨_, (by rw [hsuf, hM8, dgR_hun, List.append_assoc]; rfl), (TB.put (y := nI (48 + d9 % 100 / 10)) (TB.put (y := nI (48 + d9 % 100 % 10)) hTB (by omega) (by omega) he_f12 (by rw [← hb_b11]; exact (dgB (d9 % 100) (by omega)).2)) (by omega) (by omega) he_f14 (by rw [← hb_b13]; exact (dgB (d9 % 100) (by omega)).1))⟩, hP, hD, hS, lv_sub hl [1, 4, 0, 5] rfl⟩
  · refine lv_iconst (v := 1) hx hb xdJ6_getChars_ba4f3_7 (by decide) ?_
    refine lv_goto (tgt := 12) hx hb xdJ6_getChars_ba4f3_8 (by decide) ?_
    refine lv_istore (lv' := [(6, .int 1), (5, .int (nI cp)), (0, .int x), (1, .int (nI cp)), (2, .ref a)]) hx hb xdJ6_getChars_ba4f3_12 hl (by decide) rfl (fun ls hl => ?_)
    refine lv_iload hx hb xdJ6_getChars_ba4f3_14 (lv_at hl 0 rfl) ?_
    refine lv_if_ne (tgt := 22) hx hb xdJ6_getChars_ba4f3_16 (by decide) (fun _ => ?_) (fun k15 => absurd k15 (by decide))
    have hng : x < 0 := Int32.not_le.mp h1
    obtain ⟨e9, hM0, -⟩ := nN_of hng
    have hdl : dl x = dgN (-x.toInt).toNat + 1 := by unfold dl; rw [if_pos hng]
    have hl9 : lv_has ls 7 [(0, .int (nN (-x.toInt).toNat)), (2, .ref a), (5, .int (nI cp)), (6, .int 1)] := by rw [← e9]; exact lv_sub hl [2, 4, 1, 0] rfl
    refine lpw_ (P := fun (d9 : Nat) (H : Heap) (locs : List Loc) (ls : Array Slot) => ∃ (M cpX : Nat) (fX : Nat → Int32), d9 = M ∧ M ≤ 2147483648 ∧ dgN M + 1 ≤ cpX ∧ cpX ≤ m ∧ sb_Fit fX ∧ (∃ suf : List Int32, dgT ((-x.toInt).toNat) = dgR M (dgN M) ++ suf ∧ TB f fX cpX cp suf) ∧ va_P (dC, dI) vwCl [(a, .inl (cB, m, .inl fX))] H ∧ va_D A [(a, .inl (cB, m, .inl fX))] ∧ va_S A s.heap H locs ∧ lv_has ls 7 [(0, .int (nN M)), (2, .ref a), (5, .int (nI cpX)), (6, .int 1)]) 22 (fun d9 H locs ls hq9 ih9 => ?_) _ _ _ _ ⟨(-x.toInt).toNat, cp, f, rfl, by omega, by omega, by omega, by assumption, ⟨[], (List.append_nil _).symm, TB.nil⟩, hP, hD, hS, hl9⟩
    obtain ⟨M, cpX, fX, rfl, hM, hcp1, hcp2, hfX, ⟨suf, hsuf, hTB⟩, hP, hD, hS, hl⟩ := hq9
    have hdg := dgN_le d9
    have hsl := congrArg List.length hsuf
    rw [List.length_append, dgT, dgR_len, dgR_len] at hsl
    have hcp9 := hTB.1
    have hdv9 := dgN_val d9
    refine lv_iload_n hx hb xdJ6_getChars_ba4f3_22 rfl (lv_at hl 0 rfl) ?_
    refine lv_bipush (v := -100) hx hb xdJ6_getChars_ba4f3_23 (by decide) ?_
    refine lv_icmp_gt (tgt := 72) hx hb xdJ6_getChars_ba4f3_25 (by decide) (fun h16 => ?_) (fun h16 => ?_)
    · have hM9 : d9 < 100 := (nN_lt (k := 100) (y := -100) (by decide) hM (by omega)).mp h16
      refine lv_aload_n hx hb xdJ6_getChars_ba4f3_72 rfl (lv_at hl 1 rfl) ?_
      refine lv_iinc (v := (nI (cpX - 1))) (lv' := [(5, .int (nI (cpX - 1))), (0, .int (nN d9)), (2, .ref a), (6, .int 1)]) hx hb xdJ6_getChars_ba4f3_73 hl (k := 2) rfl (sb_m1 (by omega)) (by decide) rfl (fun ls hl => ?_)
      refine lv_iload hx hb xdJ6_getChars_ba4f3_76 (lv_at hl 0 rfl) ?_
      refine va_gets hx hb (hFx.2.2.1 1 _ rfl).1 hS hown (ht _ xw_83) (fun _ h9 => h9) xdJ6_getChars_ba4f3_78 ?_
      refine lv_iload_n hx hb xdJ6_getChars_ba4f3_81 rfl (lv_at hl 1 rfl) ?_
      refine lv_ineg hx hb xdJ6_getChars_ba4f3_82 ?_
      refine tp_i (y := (nI d9)) (nN_negI (by omega)) ?_
      refine va_tb (v := .int ((tbD.getD 1 ("", [])).2.getD d9 0)) hx hb (hFx.2.2.1 1 _ rfl).2 hS (show vp_in (nI d9) 100 from vp_in_nI (by omega) (by omega)) (by show Value.int _ = _; rw [nI_clamp (n := d9) (by omega)]; rfl) xdJ6_getChars_ba4f3_83 ?_
      generalize hb_b17 : ((tbD.getD 1 ("", [])).2.getD d9 0) = b17
      refine va_bast (D := (dC, dI)) hx hb hK hP hD hS 0 1 rfl rfl (show vp_in (nI (cpX - 1)) m from vp_in_nI (by omega) (by omega)) xdJ6_getChars_ba4f3_84 (fun H locs hP hD hS => ?_)
      have hP : va_P (dC, dI) vwCl [(a, .inl (cB, m, .inl (upd fX (nI (cpX - 1)).toNatClampNeg (vp_nar .byte b17))))] H := hP
      have hD : va_D A [(a, .inl (cB, m, .inl (upd fX (nI (cpX - 1)).toNatClampNeg (vp_nar .byte b17))))] := hD
      have hg_f18 : sb_Fit (upd fX (nI (cpX - 1)).toNatClampNeg (vp_nar .byte b17)) := sb_fitU (by assumption) (fit_nar _)
      generalize he_f18 : upd fX (nI (cpX - 1)).toNatClampNeg (vp_nar .byte b17) = f18 at hP hD hg_f18
      refine lv_iload_n hx hb xdJ6_getChars_ba4f3_85 rfl (lv_at hl 1 rfl) ?_
      refine lv_bipush (v := -9) hx hb xdJ6_getChars_ba4f3_86 (by decide) ?_
      refine lv_icmp_ge (tgt := 104) hx hb xdJ6_getChars_ba4f3_88 (by decide) (fun h19 => ?_) (fun h19 => ?_)
      · have hM6 : d9 ≤ 9 := (nN_ge (k := 9) (y := -9) (by decide) hM (by omega)).mp h19
        refine lv_iload hx hb xdJ6_getChars_ba4f3_104 (lv_at hl 3 rfl) ?_
        refine lv_if_eq (tgt := 118) hx hb xdJ6_getChars_ba4f3_106 (by decide) (fun k20 => absurd k20 (by decide)) (fun _ => ?_)
        refine lv_aload_n hx hb xdJ6_getChars_ba4f3_109 rfl (lv_at hl 2 rfl) ?_
        refine lv_iinc (v := (nI ((cpX - 1) - 1))) (lv' := [(5, .int (nI ((cpX - 1) - 1))), (0, .int (nN d9)), (2, .ref a), (6, .int 1)]) hx hb xdJ6_getChars_ba4f3_110 hl (k := 0) rfl (sb_m1 (by omega)) (by decide) rfl (fun ls hl => ?_)
        refine lv_iload hx hb xdJ6_getChars_ba4f3_113 (lv_at hl 0 rfl) ?_
        refine lv_bipush (v := 45) hx hb xdJ6_getChars_ba4f3_115 (by decide) ?_
        refine va_bast (D := (dC, dI)) hx hb hK hP hD hS 0 1 rfl rfl (show vp_in (nI ((cpX - 1) - 1)) m from vp_in_nI (by omega) (by omega)) xdJ6_getChars_ba4f3_117 (fun H locs hP hD hS => ?_)
        have hP : va_P (dC, dI) vwCl [(a, .inl (cB, m, .inl (upd f18 (nI ((cpX - 1) - 1)).toNatClampNeg (vp_nar .byte (45 : Int32)))))] H := hP
        have hD : va_D A [(a, .inl (cB, m, .inl (upd f18 (nI ((cpX - 1) - 1)).toNatClampNeg (vp_nar .byte (45 : Int32)))))] := hD
        have hg_f21 : sb_Fit (upd f18 (nI ((cpX - 1) - 1)).toNatClampNeg (vp_nar .byte (45 : Int32))) := sb_fitU (by assumption) (fit_nar _)
        generalize he_f21 : upd f18 (nI ((cpX - 1) - 1)).toNatClampNeg (vp_nar .byte (45 : Int32)) = f21 at hP hD hg_f21
        refine lv_iload hx hb xdJ6_getChars_ba4f3_118 (lv_at hl 0 rfl) ?_
        have hP9 := hP.sub (ws' := [(a, .inl (cB, m, .inl f21))]) [0] rfl
        have hD9 := hD.sub (ws' := [(a, .inl (cB, m, .inl f21))]) [0] (by decide) rfl
        refine W.widen (k := 0) (n := 0) (by omega) (by omega) ?_
        exact W.iret (v := (nI ((cpX - 1) - 1))) hx hb hr (fun t ht9 hW => ⟨⟨(nI ((cpX - 1) - 1)), f21, rfl, ⟨(by assumption), (TB.ta (TB.mv (by omega) (TB.eq (TB.put (TB.put (y := nI (48 + d9 % 10)) hTB (by omega) (by omega) he_f18 (by rw [← hb_b17]; exact (dgB (d9) (by omega)).2)) (by omega) (by omega) he_f21 (y := 45) (by decide)) (by unfold decT; rw [if_pos hng, hsuf, dgR_1 (by omega)]; rfl))))⟩, by rw [ht9]; exact hP9, hD9⟩, hS.F ht9⟩) hS.2.2 xdJ6_getChars_ba4f3_120
      · have hM6 : ¬ d9 ≤ 9 := fun z => h19 ((nN_ge (k := 9) (y := -9) (by decide) hM (by omega)).mpr z)
        have hM5 := dgN_2 hM6
        refine lv_aload_n hx hb xdJ6_getChars_ba4f3_91 rfl (lv_at hl 2 rfl) ?_
        refine lv_iinc (v := (nI ((cpX - 1) - 1))) (lv' := [(5, .int (nI ((cpX - 1) - 1))), (0, .int (nN d9)), (2, .ref a), (6, .int 1)]) hx hb xdJ6_getChars_ba4f3_92 hl (k := 0) rfl (sb_m1 (by omega)) (by decide) rfl (fun ls hl => ?_)
        refine lv_iload hx hb xdJ6_getChars_ba4f3_95 (lv_at hl 0 rfl) ?_
        refine va_gets hx hb (hFx.2.2.1 0 _ rfl).1 hS hown (ht _ xw_84) (fun _ h9 => h9) xdJ6_getChars_ba4f3_97 ?_
        refine lv_iload_n hx hb xdJ6_getChars_ba4f3_100 rfl (lv_at hl 1 rfl) ?_
        refine lv_ineg hx hb xdJ6_getChars_ba4f3_101 ?_
        refine tp_i (y := (nI d9)) (nN_negI (by omega)) ?_
        refine va_tb (v := .int ((tbD.getD 0 ("", [])).2.getD d9 0)) hx hb (hFx.2.2.1 0 _ rfl).2 hS (show vp_in (nI d9) 100 from vp_in_nI (by omega) (by omega)) (by show Value.int _ = _; rw [nI_clamp (n := d9) (by omega)]; rfl) xdJ6_getChars_ba4f3_102 ?_
        generalize hb_b22 : ((tbD.getD 0 ("", [])).2.getD d9 0) = b22
        refine va_bast (D := (dC, dI)) hx hb hK hP hD hS 0 1 rfl rfl (show vp_in (nI ((cpX - 1) - 1)) m from vp_in_nI (by omega) (by omega)) xdJ6_getChars_ba4f3_103 (fun H locs hP hD hS => ?_)
        have hP : va_P (dC, dI) vwCl [(a, .inl (cB, m, .inl (upd f18 (nI ((cpX - 1) - 1)).toNatClampNeg (vp_nar .byte b22))))] H := hP
        have hD : va_D A [(a, .inl (cB, m, .inl (upd f18 (nI ((cpX - 1) - 1)).toNatClampNeg (vp_nar .byte b22))))] := hD
        have hg_f23 : sb_Fit (upd f18 (nI ((cpX - 1) - 1)).toNatClampNeg (vp_nar .byte b22)) := sb_fitU (by assumption) (fit_nar _)
        generalize he_f23 : upd f18 (nI ((cpX - 1) - 1)).toNatClampNeg (vp_nar .byte b22) = f23 at hP hD hg_f23
        refine lv_iload hx hb xdJ6_getChars_ba4f3_104 (lv_at hl 3 rfl) ?_
        refine lv_if_eq (tgt := 118) hx hb xdJ6_getChars_ba4f3_106 (by decide) (fun k24 => absurd k24 (by decide)) (fun _ => ?_)
        refine lv_aload_n hx hb xdJ6_getChars_ba4f3_109 rfl (lv_at hl 2 rfl) ?_
        refine lv_iinc (v := (nI (((cpX - 1) - 1) - 1))) (lv' := [(5, .int (nI (((cpX - 1) - 1) - 1))), (0, .int (nN d9)), (2, .ref a), (6, .int 1)]) hx hb xdJ6_getChars_ba4f3_110 hl (k := 0) rfl (sb_m1 (by omega)) (by decide) rfl (fun ls hl => ?_)
        refine lv_iload hx hb xdJ6_getChars_ba4f3_113 (lv_at hl 0 rfl) ?_
        refine lv_bipush (v := 45) hx hb xdJ6_getChars_ba4f3_115 (by decide) ?_
        refine va_bast (D := (dC, dI)) hx hb hK hP hD hS 0 1 rfl rfl (show vp_in (nI (((cpX - 1) - 1) - 1)) m from vp_in_nI (by omega) (by omega)) xdJ6_getChars_ba4f3_117 (fun H locs hP hD hS => ?_)
        have hP : va_P (dC, dI) vwCl [(a, .inl (cB, m, .inl (upd f23 (nI (((cpX - 1) - 1) - 1)).toNatClampNeg (vp_nar .byte (45 : Int32)))))] H := hP
        have hD : va_D A [(a, .inl (cB, m, .inl (upd f23 (nI (((cpX - 1) - 1) - 1)).toNatClampNeg (vp_nar .byte (45 : Int32)))))] := hD
        have hg_f25 : sb_Fit (upd f23 (nI (((cpX - 1) - 1) - 1)).toNatClampNeg (vp_nar .byte (45 : Int32))) := sb_fitU (by assumption) (fit_nar _)
        generalize he_f25 : upd f23 (nI (((cpX - 1) - 1) - 1)).toNatClampNeg (vp_nar .byte (45 : Int32)) = f25 at hP hD hg_f25
        refine lv_iload hx hb xdJ6_getChars_ba4f3_118 (lv_at hl 0 rfl) ?_
        have hP9 := hP.sub (ws' := [(a, .inl (cB, m, .inl f25))]) [0] rfl
        have hD9 := hD.sub (ws' := [(a, .inl (cB, m, .inl f25))]) [0] (by decide) rfl
        refine W.widen (k := 0) (n := 0) (by omega) (by omega) ?_
        exact W.iret (v := (nI (((cpX - 1) - 1) - 1))) hx hb hr (fun t ht9 hW => ⟨⟨(nI (((cpX - 1) - 1) - 1)), f25, rfl, ⟨(by assumption), (TB.ta (TB.mv (by omega) (TB.eq (TB.put (TB.put (y := nI (48 + d9 / 10)) (TB.put (y := nI (48 + d9 % 10)) hTB (by omega) (by omega) he_f18 (by rw [← hb_b17]; exact (dgB (d9) (by omega)).2)) (by omega) (by omega) he_f23 (by rw [← hb_b22]; exact (dgB (d9) (by omega)).1)) (by omega) (by omega) he_f25 (y := 45) (by decide)) (by unfold decT; rw [if_pos hng, hsuf, dgR_2 (by omega) hM9]; rfl))))⟩, by rw [ht9]; exact hP9, hD9⟩, hS.F ht9⟩) hS.2.2 xdJ6_getChars_ba4f3_120
    · have hM9 : ¬ d9 < 100 := fun z => h16 ((nN_lt (k := 100) (y := -100) (by decide) hM (by omega)).mpr z)
      have hM8 := dgN_100 (m := d9) (by omega) hM
      have hM7 := dgN_le (d9 / 100)
      refine lv_iload_n hx hb xdJ6_getChars_ba4f3_28 rfl (lv_at hl 0 rfl) ?_
      refine lv_bipush (v := 100) hx hb xdJ6_getChars_ba4f3_29 (by decide) ?_
      refine lv_idiv hx hb xdJ6_getChars_ba4f3_31 (by decide) ?_
      refine tp_i (y := (nN (d9 / 100))) (nN_div hM) ?_
      refine lv_istore_n (lv' := [(3, .int (nN (d9 / 100))), (0, .int (nN d9)), (2, .ref a), (5, .int (nI cpX)), (6, .int 1)]) hx hb xdJ6_getChars_ba4f3_32 rfl hl (by decide) rfl (fun ls hl => ?_)
      refine lv_iload_n hx hb xdJ6_getChars_ba4f3_33 rfl (lv_at hl 0 rfl) ?_
      refine lv_bipush (v := 100) hx hb xdJ6_getChars_ba4f3_34 (by decide) ?_
      refine lv_imul hx hb xdJ6_getChars_ba4f3_36 ?_
      refine lv_iload_n hx hb xdJ6_getChars_ba4f3_37 rfl (lv_at hl 1 rfl) ?_
      refine lv_isub hx hb xdJ6_getChars_ba4f3_38 ?_
      refine tp_i (y := (nI (d9 % 100))) (nN_rem hM) ?_
      refine lv_istore (lv' := [(4, .int (nI (d9 % 100))), (3, .int (nN (d9 / 100))), (0, .int (nN d9)), (2, .ref a), (5, .int (nI cpX)), (6, .int 1)]) hx hb xdJ6_getChars_ba4f3_39 hl (by decide) rfl (fun ls hl => ?_)
      refine lv_iload_n hx hb xdJ6_getChars_ba4f3_41 rfl (lv_at hl 1 rfl) ?_
      refine lv_istore_n (lv' := [(0, .int (nN (d9 / 100))), (4, .int (nI (d9 % 100))), (3, .int (nN (d9 / 100))), (2, .ref a), (5, .int (nI cpX)), (6, .int 1)]) hx hb xdJ6_getChars_ba4f3_42 rfl hl (by decide) rfl (fun ls hl => ?_)
      refine lv_aload_n hx hb xdJ6_getChars_ba4f3_43 rfl (lv_at hl 3 rfl) ?_
      refine lv_iinc (v := (nI (cpX - 1))) (lv' := [(5, .int (nI (cpX - 1))), (0, .int (nN (d9 / 100))), (4, .int (nI (d9 % 100))), (3, .int (nN (d9 / 100))), (2, .ref a), (6, .int 1)]) hx hb xdJ6_getChars_ba4f3_44 hl (k := 4) rfl (sb_m1 (by omega)) (by decide) rfl (fun ls hl => ?_)
      refine lv_iload hx hb xdJ6_getChars_ba4f3_47 (lv_at hl 0 rfl) ?_
      refine va_gets hx hb (hFx.2.2.1 1 _ rfl).1 hS hown (ht _ xw_83) (fun _ h9 => h9) xdJ6_getChars_ba4f3_49 ?_
      refine lv_iload hx hb xdJ6_getChars_ba4f3_52 (lv_at hl 2 rfl) ?_
      refine va_tb (v := .int ((tbD.getD 1 ("", [])).2.getD (d9 % 100) 0)) hx hb (hFx.2.2.1 1 _ rfl).2 hS (show vp_in (nI (d9 % 100)) 100 from vp_in_nI (by omega) (by omega)) (by show Value.int _ = _; rw [nI_clamp (n := (d9 % 100)) (by omega)]; rfl) xdJ6_getChars_ba4f3_54 ?_
      generalize hb_b26 : ((tbD.getD 1 ("", [])).2.getD (d9 % 100) 0) = b26
      refine va_bast (D := (dC, dI)) hx hb hK hP hD hS 0 1 rfl rfl (show vp_in (nI (cpX - 1)) m from vp_in_nI (by omega) (by omega)) xdJ6_getChars_ba4f3_55 (fun H locs hP hD hS => ?_)
      have hP : va_P (dC, dI) vwCl [(a, .inl (cB, m, .inl (upd fX (nI (cpX - 1)).toNatClampNeg (vp_nar .byte b26))))] H := hP
      have hD : va_D A [(a, .inl (cB, m, .inl (upd fX (nI (cpX - 1)).toNatClampNeg (vp_nar .byte b26))))] := hD
      have hg_f27 : sb_Fit (upd fX (nI (cpX - 1)).toNatClampNeg (vp_nar .byte b26)) := sb_fitU (by assumption) (fit_nar _)
      generalize he_f27 : upd fX (nI (cpX - 1)).toNatClampNeg (vp_nar .byte b26) = f27 at hP hD hg_f27
      refine lv_aload_n hx hb xdJ6_getChars_ba4f3_56 rfl (lv_at hl 4 rfl) ?_
      refine lv_iinc (v := (nI ((cpX - 1) - 1))) (lv' := [(5, .int (nI ((cpX - 1) - 1))), (0, .int (nN (d9 / 100))), (4, .int (nI (d9 % 100))), (3, .int (nN (d9 / 100))), (2, .ref a), (6, .int 1)]) hx hb xdJ6_getChars_ba4f3_57 hl (k := 0) rfl (sb_m1 (by omega)) (by decide) rfl (fun ls hl => ?_)
      refine lv_iload hx hb xdJ6_getChars_ba4f3_60 (lv_at hl 0 rfl) ?_
      refine va_gets hx hb (hFx.2.2.1 0 _ rfl).1 hS hown (ht _ xw_84) (fun _ h9 => h9) xdJ6_getChars_ba4f3_62 ?_
      refine lv_iload hx hb xdJ6_getChars_ba4f3_65 (lv_at hl 2 rfl) ?_
      refine va_tb (v := .int ((tbD.getD 0 ("", [])).2.getD (d9 % 100) 0)) hx hb (hFx.2.2.1 0 _ rfl).2 hS (show vp_in (nI (d9 % 100)) 100 from vp_in_nI (by omega) (by omega)) (by show Value.int _ = _; rw [nI_clamp (n := (d9 % 100)) (by omega)]; rfl) xdJ6_getChars_ba4f3_67 ?_
      generalize hb_b28 : ((tbD.getD 0 ("", [])).2.getD (d9 % 100) 0) = b28
      refine va_bast (D := (dC, dI)) hx hb hK hP hD hS 0 1 rfl rfl (show vp_in (nI ((cpX - 1) - 1)) m from vp_in_nI (by omega) (by omega)) xdJ6_getChars_ba4f3_68 (fun H locs hP hD hS => ?_)
      have hP : va_P (dC, dI) vwCl [(a, .inl (cB, m, .inl (upd f27 (nI ((cpX - 1) - 1)).toNatClampNeg (vp_nar .byte b28))))] H := hP
      have hD : va_D A [(a, .inl (cB, m, .inl (upd f27 (nI ((cpX - 1) - 1)).toNatClampNeg (vp_nar .byte b28))))] := hD
      have hg_f29 : sb_Fit (upd f27 (nI ((cpX - 1) - 1)).toNatClampNeg (vp_nar .byte b28)) := sb_fitU (by assumption) (fit_nar _)
      generalize he_f29 : upd f27 (nI ((cpX - 1) - 1)).toNatClampNeg (vp_nar .byte b28) = f29 at hP hD hg_f29
      refine lv_goto (tgt := 22) hx hb xdJ6_getChars_ba4f3_69 (by decide) ?_
      exact ih9 (d9 / 100) _ _ _ (by omega) ⟨_, ((cpX - 1) - 1), f29, rfl, by omega, by omega, by omega, by assumption, ⟨_, (by rw [hsuf, hM8, dgR_hun, List.append_assoc]; rfl), (TB.put (y := nI (48 + d9 % 100 / 10)) (TB.put (y := nI (48 + d9 % 100 % 10)) hTB (by omega) (by omega) he_f27 (by rw [← hb_b26]; exact (dgB (d9 % 100) (by omega)).2)) (by omega) (by omega) he_f29 (by rw [← hb_b28]; exact (dgB (d9 % 100) (by omega)).1))⟩, hP, hD, hS, lv_sub hl [1, 4, 0, 5] rfl⟩
set_option maxHeartbeats 16000000 in
set_option maxRecDepth 100000 in
/-- AbstractStringBuilder.append(int) -/
theorem c_sx_ai5 (l : Launch) (dC : Nat → ClassId) (dI : Nat → Nat → Nat) (cI cB cZ cJ cR : ClassId) (tb : Nat → Nat) (sz : Nat) (sb : Nat) (a : Nat) (m : Nat) (n : Nat) (f : Nat → Int32) (mb : Int32) (x : Int32) (hm : m = 16 ∨ m = 34) (hf : sb_Fit f) (h1 : n + dl x ≤ 33) (hnm : n ≤ m) : Met l yJ5_append_c97b9 (Cond.code yJ5_append_c97b9 cJ5_append_c97b9 4 (some (.object "java/lang/AbstractStringBuilder")) :: tw_W) ({ frames := 4, cells := 1, slots := 34, locals := 85 }) (pc_ (dC, dI) (tyS cI cB cZ cJ cR) tb [(sb, .inr (1, [.ref a, .int 0, .int mb, .int (nI n)])), (a, .inl (cB, m, .inl f))] sz [.ref sb, .int x]) (qr_ (dC, dI) [(sb, .inr (1, [.ref a, .int 0, .int mb, .int (nI n)])), (a, .inl (cB, m, .inl f))] sz (fun (u : Nat × Nat × Nat × (Nat → Int32)) => u.1 = n + dl x ∧ (u.2.2.1 = 16 ∨ u.2.2.1 = 34) ∧ u.1 ≤ u.2.2.1 ∧ sb_Fit u.2.2.2 ∧ TA f n u.2.2.2 u.1 (decT x)) (fun (u : Nat × Nat × Nat × (Nat → Int32)) => sb) (fun (u : Nat × Nat × Nat × (Nat → Int32)) => [(sb, .inr (1, [.ref u.2.1, .int 0, .int mb, .int (nI u.1)])), (u.2.1, .inl (cB, u.2.2.1, .inl u.2.2.2))])) 1 34 (va_A [(sb, .inr (1, [.ref a, .int 0, .int mb, .int (nI n)])), (a, .inl (cB, m, .inl f))] sz) := by
  refine Met.ofW (cc := cJ5_append_c97b9) (maxL := 4) (ret := (some (.object "java/lang/AbstractStringBuilder"))) (by decide) rfl ?_
  intro p e s m9 args below meth c s₁ B hml hv
  obtain ⟨rfl, hsz, hP, hKK, hD0, hFx⟩ := hv
  have hK := hKK.1
  have hx := B.exec
  have hb := B.bytes
  have hr := B.returns
  have ht : ∀ w ∈ tw_W, w.before _ s = true := fun w h => atoms_spec (ws := Cond.code yJ5_append_c97b9 cJ5_append_c97b9 4 (some (.object "java/lang/AbstractStringBuilder")) :: tw_W) B.pre w (List.mem_cons_of_mem _ h)
  have hown : s.vm.findClass RJ5 = some m9.cls := findClass_of_methodNamed B.named
  have hlocks := B.notSynchronized
  subst hsz
  unfold qr_
  have hD := hD0.self (sz := s.heap.size)
  generalize hAe : va_A [(sb, .inr (1, [.ref a, .int 0, .int mb, .int (nI n)])), (a, .inl (cB, m, .inl f))] s.heap.size = A at hD hFx ⊢
  have hA : ∀ q : Nat, s.heap.size ≤ q → A q := fun q h => by rw [← hAe]; exact Or.inr h
  have hS : va_S A s.heap s.heap [] := va_S.rf
  have hP : va_P (dC, dI) vwCl [(sb, .inr (1, [.ref a, .int 0, .int mb, .int (nI n)])), (a, .inl (cB, m, .inl f))] s.heap := hP
  have hl := lv_entry ([.ref sb, .int x]) (n := 4) (Nat.le_of_ble_eq_true rfl)
  rw [lg_entry_eq]
  generalize (lg_sl ([.ref sb, .int x]) ++ List.replicate (4 - (lg_sl ([.ref sb, .int x])).length) Slot.unset).toArray = ls at hl ⊢
  have hl : lv_has ls 4 [(0, .ref sb), (1, .int x)] := hl
  refine lv_aload_n hx hb xdJ5_append_c97b9_0 rfl (lv_at hl 0 rfl) ?_
  refine va_get (D := (dC, dI)) (ci := 1) (v := .int (nI n)) (C := RJ4) (T := TJ4) (N := 4) hx hb ht xiJ4 hown hK hP 0 rfl rfl 3 (by decide) (ht _ xw_40) (fun _ h9 => h9) rfl xdJ5_append_c97b9_1 ?_
  refine lv_istore_n (lv' := [(2, .int (nI n)), (0, .ref sb), (1, .int x)]) hx hb xdJ5_append_c97b9_4 rfl hl (by decide) rfl (fun ls hl => ?_)
  refine lv_iload_n hx hb xdJ5_append_c97b9_5 rfl (lv_at hl 0 rfl) ?_
  refine lv_iload_n hx hb xdJ5_append_c97b9_6 rfl (lv_at hl 2 rfl) ?_
  refine ca_i (wr := [(sb, .inr (1, [.ref a, .int 0, .int mb, .int (nI n)])), (a, .inl (cB, m, .inl f))]) (rn_S (n := 1) (As := [.int x]) (rest := [.int (nI n)]) hx hb hml hown ht hKK hFx hP hD hS hA (c_sx_size l dC dI cI cB cZ cJ cR tb s.heap.size x) xw_85 xw_86 (by decide +kernel) rfl rfl ⟨Nat.le_of_ble_eq_true rfl, Nat.le_of_ble_eq_true rfl⟩ [] rfl (by decide) rfl hl.1 rfl (Nat.le_of_ble_eq_true rfl) xdJ5_append_c97b9_7 ⟨Nat.le_of_ble_eq_true rfl, Nat.le_of_ble_eq_true rfl⟩) hP hD hS hA (isC := []) (isR := [0, 1]) rfl rfl (by decide) (by decide) (fun r2 u H locs hw1 hP hD hS => ?_)
  subst hw1
  have hP : va_P (dC, dI) vwCl [(sb, .inr (1, [.ref a, .int 0, .int mb, .int (nI n)])), (a, .inl (cB, m, .inl f))] H := hP
  have hD : va_D A [(sb, .inr (1, [.ref a, .int 0, .int mb, .int (nI n)])), (a, .inl (cB, m, .inl f))] := hD
  refine W.widen (k := 0) (n := 0) (by omega) (by omega) ?_
  refine tp_i (y := (nI (dl x))) (szX_eq x) ?_
  refine lv_iadd hx hb xdJ5_append_c97b9_10 ?_
  refine tp_i (y := (nI (n + (dl x)))) (nI_add _ _) ?_
  refine lv_istore_n (lv' := [(3, .int (nI (n + (dl x)))), (2, .int (nI n)), (0, .ref sb), (1, .int x)]) hx hb xdJ5_append_c97b9_11 rfl hl (by decide) rfl (fun ls hl => ?_)
  refine lv_aload_n hx hb xdJ5_append_c97b9_12 rfl (lv_at hl 2 rfl) ?_
  refine lv_iload_n hx hb xdJ5_append_c97b9_13 rfl (lv_at hl 0 rfl) ?_
  refine ca_v (wr := []) (rn_V5 (n := 1) (As := [.int (nI (n + (dl x)))]) (rest := []) hx hb hml hown ht hKK hFx hP hD hS hA (c_sx_ensB l dC dI cI cB cZ cJ cR tb H.size sb a m n f mb (n + (dl x)) (by first | assumption | omega | rfl | exact sb_fit0) (by first | assumption | omega | rfl | exact sb_fit0) (by first | assumption | omega | rfl | exact sb_fit0) (by first | assumption | omega | rfl | exact sb_fit0)) xw_41 xw_42 xw_43 (tw_p (by decide)) xw_44 xw_45 (by decide +kernel) rfl rfl ⟨Nat.le_of_ble_eq_true rfl, Nat.le_of_ble_eq_true rfl⟩ [0, 1] rfl (by decide) rfl rfl rfl rfl hl.1 rfl (Nat.le_of_ble_eq_true rfl) xdJ5_append_c97b9_14 ⟨Nat.le_of_ble_eq_true rfl, Nat.le_of_ble_eq_true rfl⟩) hP hD hS hA (isC := [0, 1]) (isR := []) rfl rfl (by decide) (by decide) (fun u H locs hw3 hP hD hS => ?_)
  obtain ⟨z5, z6, f7⟩ := u
  obtain ⟨g8, g9, g10, g11⟩ := hw3
  have g8 : z6 = 16 ∨ z6 = 34 := g8
  have g9 : (n + (dl x)) ≤ z6 := g9
  have g10 : sb_Fit f7 := g10
  have g11 : TA f n f7 n [] := g11
  have hP : va_P (dC, dI) vwCl [(sb, .inr (1, [.ref z5, .int 0, .int mb, .int (nI n)])), (z5, .inl (cB, z6, .inl f7))] H := hP
  have hD : va_D A [(sb, .inr (1, [.ref z5, .int 0, .int mb, .int (nI n)])), (z5, .inl (cB, z6, .inl f7))] := hD
  refine W.widen (k := 1) (n := 34) (by omega) (by omega) ?_
  refine lv_aload_n hx hb xdJ5_append_c97b9_17 rfl (lv_at hl 2 rfl) ?_
  refine ca_i (wr := [(z5, .inl (cB, z6, .inl f7))]) (rn_V5 (n := 0) (As := []) (rest := []) hx hb hml hown ht hKK hFx hP hD hS hA (c_sx_isLat l dC dI cI cB cZ cJ cR tb H.size sb z5 n mb) xw_46 xw_47 xw_48 xw_49 xw_50 xw_51 (by decide +kernel) rfl rfl ⟨Nat.le_of_ble_eq_true rfl, Nat.le_of_ble_eq_true rfl⟩ [0] rfl (by decide) rfl rfl rfl rfl hl.1 rfl (Nat.le_of_ble_eq_true rfl) xdJ5_append_c97b9_18 ⟨Nat.le_of_ble_eq_true rfl, Nat.le_of_ble_eq_true rfl⟩) hP hD hS hA (isC := [0]) (isR := [1]) rfl rfl (by decide) (by decide) (fun r13 u H locs hw12 hP hD hS => ?_)
  subst hw12
  have hP : va_P (dC, dI) vwCl [(z5, .inl (cB, z6, .inl f7)), (sb, .inr (1, [.ref z5, .int 0, .int mb, .int (nI n)]))] H := hP
  have hD : va_D A [(z5, .inl (cB, z6, .inl f7)), (sb, .inr (1, [.ref z5, .int 0, .int mb, .int (nI n)]))] := hD
  refine W.widen (k := 1) (n := 34) (by omega) (by omega) ?_
  refine lv_if_eq (tgt := 37) hx hb xdJ5_append_c97b9_21 (by decide) (fun k14 => absurd k14 (by decide)) (fun _ => ?_)
  refine lv_iload_n hx hb xdJ5_append_c97b9_24 rfl (lv_at hl 3 rfl) ?_
  refine lv_iload_n hx hb xdJ5_append_c97b9_25 rfl (lv_at hl 0 rfl) ?_
  refine lv_aload_n hx hb xdJ5_append_c97b9_26 rfl (lv_at hl 2 rfl) ?_
  refine va_get (D := (dC, dI)) (ci := 1) (v := .ref z5) (C := RJ4) (T := TJ4) (N := 4) hx hb ht xiJ4 hown hK hP 1 rfl rfl 0 (by decide) (ht _ xw_21) (fun _ h9 => h9) rfl xdJ5_append_c97b9_27 ?_
  refine ca_i (wr := [(sb, .inr (1, [.ref z5, .int 0, .int mb, .int (nI n)]))]) (rn_S (n := 3) (As := [.int x, .int (nI (n + (dl x))), .ref z5]) (rest := []) hx hb hml hown ht hKK hFx hP hD hS hA (c_sx_getC l dC dI cI cB cZ cJ cR tb H.size x (n + (dl x)) n z5 z6 f7 (by first | assumption | omega | rfl | exact sb_fit0) (by first | assumption | omega | rfl | exact sb_fit0) (by first | assumption | omega | rfl | exact sb_fit0) (by first | assumption | omega | rfl | exact sb_fit0)) xw_87 xw_88 (by decide +kernel) rfl rfl ⟨Nat.le_of_ble_eq_true rfl, Nat.le_of_ble_eq_true rfl⟩ [0] rfl (by decide) rfl hl.1 rfl (Nat.le_of_ble_eq_true rfl) xdJ5_append_c97b9_30 ⟨Nat.le_of_ble_eq_true rfl, Nat.le_of_ble_eq_true rfl⟩) hP hD hS hA (isC := [0]) (isR := [1]) rfl rfl (by decide) (by decide) (fun r16 u H locs hw15 hP hD hS => ?_)
  obtain ⟨f17, hq9⟩ : ∃ z, z = u := ⟨_, rfl⟩
  subst hq9
  obtain ⟨g18, g19⟩ := hw15
  have g18 : sb_Fit f17 := g18
  have g19 : TA f7 n f17 (n + (dl x)) (decT x) := g19
  have hP : va_P (dC, dI) vwCl [(sb, .inr (1, [.ref z5, .int 0, .int mb, .int (nI n)])), (z5, .inl (cB, z6, .inl f17))] H := hP
  have hD : va_D A [(sb, .inr (1, [.ref z5, .int 0, .int mb, .int (nI n)])), (z5, .inl (cB, z6, .inl f17))] := hD
  refine W.widen (k := 1) (n := 34) (by omega) (by omega) ?_
  refine lv_pop hx hb xdJ5_append_c97b9_33 rfl ?_
  refine lv_goto (tgt := 48) hx hb xdJ5_append_c97b9_34 (by decide) ?_
  refine lv_aload_n hx hb xdJ5_append_c97b9_48 rfl (lv_at hl 2 rfl) ?_
  refine lv_iload_n hx hb xdJ5_append_c97b9_49 rfl (lv_at hl 0 rfl) ?_
  refine va_put (D := (dC, dI)) (ci := 1) (v := .int (nI (n + (dl x)))) (ty := .int) (C := RJ4) (T := TJ4) (N := 4) hx hb ht xiJ4 tyJ4 tyJ4_ok nmJ4 hown hK hP hD hS 0 rfl rfl 3 (by decide) (ht _ xw_40) (fun _ h9 => h9) rfl (by decide +kernel) rfl rfl (Nat.le_of_ble_eq_true rfl) xdJ5_append_c97b9_50 (fun H locs hP hD hS => ?_)
  have hP : va_P (dC, dI) vwCl [(sb, .inr (1, [.ref z5, .int 0, .int mb, .int (nI (n + (dl x)))])), (z5, .inl (cB, z6, .inl f17))] H := hP
  have hD : va_D A [(sb, .inr (1, [.ref z5, .int 0, .int mb, .int (nI (n + (dl x)))])), (z5, .inl (cB, z6, .inl f17))] := hD
  refine lv_aload_n hx hb xdJ5_append_c97b9_53 rfl (lv_at hl 2 rfl) ?_
  have hP9 := hP.sub (ws' := [(sb, .inr (1, [.ref z5, .int 0, .int mb, .int (nI (n + (dl x)))])), (z5, .inl (cB, z6, .inl f17))]) [0, 1] rfl
  have hD9 := hD.sub (ws' := [(sb, .inr (1, [.ref z5, .int 0, .int mb, .int (nI (n + (dl x)))])), (z5, .inl (cB, z6, .inl f17))]) [0, 1] (by decide) rfl
  refine W.widen (k := 1) (n := 34) (by omega) (by omega) ?_
  exact W.aret (v := .ref sb) hx hb hr (Or.inl ⟨_, rfl⟩) (Or.inr ⟨_, rfl⟩) (fun t ht9 hW => ⟨⟨((n + (dl x)), z5, z6, f17), sb, rfl, ⟨(by first | assumption | omega | (dsimp only; omega) | (dsimp only; assumption) | rfl), (by first | assumption | omega | (dsimp only; omega) | (dsimp only; assumption) | rfl), (by first | assumption | omega | (dsimp only; omega) | (dsimp only; assumption) | rfl), (by first | assumption | omega | (dsimp only; omega) | (dsimp only; assumption) | rfl), (TA.eq (TA.tr g11 g19) (by rfl))⟩, rfl, by rw [ht9]; exact hP9, hD9⟩, hS.F ht9⟩) hS.2.2 xdJ5_append_c97b9_54
set_option maxHeartbeats 16000000 in
set_option maxRecDepth 100000 in
/-- StringBuilder.append(int) -/
theorem c_sx_ai (l : Launch) (dC : Nat → ClassId) (dI : Nat → Nat → Nat) (cI cB cZ cJ cR : ClassId) (tb : Nat → Nat) (sz : Nat) (sb : Nat) (a : Nat) (m : Nat) (n : Nat) (f : Nat → Int32) (mb : Int32) (x : Int32) (hm : m = 16 ∨ m = 34) (hf : sb_Fit f) (h1 : n + dl x ≤ 33) (hnm : n ≤ m) : Met l yJ4_append_bf812 (Cond.code yJ4_append_bf812 cJ4_append_bf812 2 (some (.object "java/lang/StringBuilder")) :: tw_W) ({ frames := 5, cells := 1, slots := 34, locals := 108 }) (pc_ (dC, dI) (tyS cI cB cZ cJ cR) tb [(sb, .inr (1, [.ref a, .int 0, .int mb, .int (nI n)])), (a, .inl (cB, m, .inl f))] sz [.ref sb, .int x]) (qr_ (dC, dI) [(sb, .inr (1, [.ref a, .int 0, .int mb, .int (nI n)])), (a, .inl (cB, m, .inl f))] sz (fun (u : Nat × Nat × Nat × (Nat → Int32)) => u.1 = n + dl x ∧ (u.2.2.1 = 16 ∨ u.2.2.1 = 34) ∧ u.1 ≤ u.2.2.1 ∧ sb_Fit u.2.2.2 ∧ TA f n u.2.2.2 u.1 (decT x)) (fun (u : Nat × Nat × Nat × (Nat → Int32)) => sb) (fun (u : Nat × Nat × Nat × (Nat → Int32)) => [(sb, .inr (1, [.ref u.2.1, .int 0, .int mb, .int (nI u.1)])), (u.2.1, .inl (cB, u.2.2.1, .inl u.2.2.2))])) 1 34 (va_A [(sb, .inr (1, [.ref a, .int 0, .int mb, .int (nI n)])), (a, .inl (cB, m, .inl f))] sz) := by
  refine Met.ofW (cc := cJ4_append_bf812) (maxL := 2) (ret := (some (.object "java/lang/StringBuilder"))) (by decide) rfl ?_
  intro p e s m9 args below meth c s₁ B hml hv
  obtain ⟨rfl, hsz, hP, hKK, hD0, hFx⟩ := hv
  have hK := hKK.1
  have hx := B.exec
  have hb := B.bytes
  have hr := B.returns
  have ht : ∀ w ∈ tw_W, w.before _ s = true := fun w h => atoms_spec (ws := Cond.code yJ4_append_bf812 cJ4_append_bf812 2 (some (.object "java/lang/StringBuilder")) :: tw_W) B.pre w (List.mem_cons_of_mem _ h)
  have hown : s.vm.findClass RJ4 = some m9.cls := findClass_of_methodNamed B.named
  have hlocks := B.notSynchronized
  subst hsz
  unfold qr_
  have hD := hD0.self (sz := s.heap.size)
  generalize hAe : va_A [(sb, .inr (1, [.ref a, .int 0, .int mb, .int (nI n)])), (a, .inl (cB, m, .inl f))] s.heap.size = A at hD hFx ⊢
  have hA : ∀ q : Nat, s.heap.size ≤ q → A q := fun q h => by rw [← hAe]; exact Or.inr h
  have hS : va_S A s.heap s.heap [] := va_S.rf
  have hP : va_P (dC, dI) vwCl [(sb, .inr (1, [.ref a, .int 0, .int mb, .int (nI n)])), (a, .inl (cB, m, .inl f))] s.heap := hP
  have hl := lv_entry ([.ref sb, .int x]) (n := 2) (Nat.le_of_ble_eq_true rfl)
  rw [lg_entry_eq]
  generalize (lg_sl ([.ref sb, .int x]) ++ List.replicate (2 - (lg_sl ([.ref sb, .int x])).length) Slot.unset).toArray = ls at hl ⊢
  have hl : lv_has ls 2 [(0, .ref sb), (1, .int x)] := hl
  refine lv_aload_n hx hb xdJ4_append_bf812_0 rfl (lv_at hl 0 rfl) ?_
  refine lv_iload_n hx hb xdJ4_append_bf812_1 rfl (lv_at hl 1 rfl) ?_
  refine ca_r (wr := []) (rn_SU (n := 1) (As := [.int x]) (rest := []) hx hb hml hown ht hKK hFx hP hD hS hA (c_sx_ai5 l dC dI cI cB cZ cJ cR tb s.heap.size sb a m n f mb x (by first | assumption | omega | rfl | exact sb_fit0) (by first | assumption | omega | rfl | exact sb_fit0) (by first | assumption | omega | rfl | exact sb_fit0) (by first | assumption | omega | rfl | exact sb_fit0)) xw_89 xw_90 (by decide +kernel) rfl rfl ⟨Nat.le_of_ble_eq_true rfl, Nat.le_of_ble_eq_true rfl⟩ [0, 1] rfl (by decide) rfl rfl rfl hl.1 rfl (Nat.le_of_ble_eq_true rfl) xdJ4_append_bf812_2 ⟨Nat.le_of_ble_eq_true rfl, Nat.le_of_ble_eq_true rfl⟩) hP hD hS hA (isC := [0, 1]) (isR := []) rfl rfl (by decide) (by decide) (fun u H locs hw1 hP hD hS => ?_)
  obtain ⟨z3, z4, z5, f6⟩ := u
  obtain ⟨g7, g8, g9, g10, g11⟩ := hw1
  have g7 : z3 = n + dl x := g7
  have g8 : z5 = 16 ∨ z5 = 34 := g8
  have g9 : z3 ≤ z5 := g9
  have g10 : sb_Fit f6 := g10
  have g11 : TA f n f6 z3 (decT x) := g11
  have hP : va_P (dC, dI) vwCl [(sb, .inr (1, [.ref z4, .int 0, .int mb, .int (nI z3)])), (z4, .inl (cB, z5, .inl f6))] H := hP
  have hD : va_D A [(sb, .inr (1, [.ref z4, .int 0, .int mb, .int (nI z3)])), (z4, .inl (cB, z5, .inl f6))] := hD
  refine W.widen (k := 1) (n := 34) (by omega) (by omega) ?_
  refine lv_pop hx hb xdJ4_append_bf812_5 rfl ?_
  refine lv_aload_n hx hb xdJ4_append_bf812_6 rfl (lv_at hl 0 rfl) ?_
  have hP9 := hP.sub (ws' := [(sb, .inr (1, [.ref z4, .int 0, .int mb, .int (nI z3)])), (z4, .inl (cB, z5, .inl f6))]) [0, 1] rfl
  have hD9 := hD.sub (ws' := [(sb, .inr (1, [.ref z4, .int 0, .int mb, .int (nI z3)])), (z4, .inl (cB, z5, .inl f6))]) [0, 1] (by decide) rfl
  refine W.widen (k := 1) (n := 34) (by omega) (by omega) ?_
  exact W.aret (v := .ref sb) hx hb hr (Or.inl ⟨_, rfl⟩) (Or.inr ⟨_, rfl⟩) (fun t ht9 hW => ⟨⟨(z3, z4, z5, f6), sb, rfl, ⟨(by first | assumption | omega | (dsimp only; omega) | (dsimp only; assumption) | rfl), (by first | assumption | omega | (dsimp only; omega) | (dsimp only; assumption) | rfl), (by first | assumption | omega | (dsimp only; omega) | (dsimp only; assumption) | rfl), (by first | assumption | omega | (dsimp only; omega) | (dsimp only; assumption) | rfl), (TA.eq g11 (by rfl))⟩, rfl, by rw [ht9]; exact hP9, hD9⟩, hS.F ht9⟩) hS.2.2 xdJ4_append_bf812_7
