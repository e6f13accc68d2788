theorem dJ6_compare_7cf53_0 : decode cJ6_compare_7cf53 0 = .ok (.iload_n 0, 1) := by decide +kernel
theorem dJ6_compare_7cf53_1 : decode cJ6_compare_7cf53 1 = .ok (.iload_n 1, 1) := by decide +kernel
theorem dJ6_compare_7cf53_2 : decode cJ6_compare_7cf53 2 = .ok (.if_icmp .ge 7, 3) := by decide +kernel
theorem dJ6_compare_7cf53_9 : decode cJ6_compare_7cf53 9 = .ok (.iload_n 0, 1) := by decide +kernel
theorem dJ6_compare_7cf53_10 : decode cJ6_compare_7cf53 10 = .ok (.iload_n 1, 1) := by decide +kernel
theorem dJ6_compare_7cf53_11 : decode cJ6_compare_7cf53 11 = .ok (.if_icmp .ne 7, 3) := by decide +kernel
theorem dJ6_compare_7cf53_18 : decode cJ6_compare_7cf53 18 = .ok (.iconst 1, 1) := by decide +kernel
theorem dJ6_compare_7cf53_19 : decode cJ6_compare_7cf53 19 = .ok (.ireturn, 1) := by decide +kernel
theorem dJ6_compare_7cf53_14 : decode cJ6_compare_7cf53 14 = .ok (.iconst 0, 1) := by decide +kernel
theorem dJ6_compare_7cf53_15 : decode cJ6_compare_7cf53 15 = .ok (.goto 4, 3) := by decide +kernel
theorem dJ6_compare_7cf53_5 : decode cJ6_compare_7cf53 5 = .ok (.iconst (-1), 1) := by decide +kernel
theorem dJ6_compare_7cf53_6 : decode cJ6_compare_7cf53 6 = .ok (.goto 13, 3) := by decide +kernel
theorem dJ6_compareUnsigned_7cf53_0 : decode cJ6_compareUnsigned_7cf53 0 = .ok (.iload_n 0, 1) := by decide +kernel
theorem dJ6_compareUnsigned_7cf53_1 : decode cJ6_compareUnsigned_7cf53 1 = .ok (.ldc 127, 2) := by decide +kernel
theorem tw_771 : (.constant RJ6 127 (-2147483648) : Cond) ∈ tw_W := tw_in (t8_6 (List.mem_of_getElem? (i := 105) rfl)) rfl
theorem dJ6_compareUnsigned_7cf53_3 : decode cJ6_compareUnsigned_7cf53 3 = .ok (.iadd, 1) := by decide +kernel
theorem dJ6_compareUnsigned_7cf53_4 : decode cJ6_compareUnsigned_7cf53 4 = .ok (.iload_n 1, 1) := by decide +kernel
theorem dJ6_compareUnsigned_7cf53_5 : decode cJ6_compareUnsigned_7cf53 5 = .ok (.ldc 127, 2) := by decide +kernel
theorem dJ6_compareUnsigned_7cf53_7 : decode cJ6_compareUnsigned_7cf53 7 = .ok (.iadd, 1) := by decide +kernel
theorem dJ6_compareUnsigned_7cf53_8 : decode cJ6_compareUnsigned_7cf53 8 = .ok (.invokestatic 259, 3) := by decide +kernel
theorem tw_772 : (.code yJ6_compare_7cf53 cJ6_compare_7cf53 2 (some .int) : Cond) ∈ tw_W := tw_in (t8_6 (List.mem_of_getElem? (i := 108) rfl)) rfl
theorem tw_773 : ∀ w ∈ ([.methodLink RJ6 259 yJ6_compare_7cf53, .static yJ6_compare_7cf53, .initialized yJ6_compare_7cf53.cls] : List Cond), w ∈ tw_W := al_c (tw_in (t8_6 (List.mem_of_getElem? (i := 106) rfl)) rfl) (al_c (tw_in (t8_6 (List.mem_of_getElem? (i := 107) rfl)) rfl) (al_c (tw_in (t8_1 (List.mem_of_getElem? (i := 30) rfl)) rfl) al_n))
theorem dJ6_compareUnsigned_7cf53_11 : decode cJ6_compareUnsigned_7cf53 11 = .ok (.ireturn, 1) := by decide +kernel
theorem dJ7_fill_53178_0 : decode cJ7_fill_53178 0 = .ok (.iconst 0, 1) := by decide +kernel
theorem dJ7_fill_53178_1 : decode cJ7_fill_53178 1 = .ok (.istore_n 2, 1) := by decide +kernel
theorem dJ7_fill_53178_2 : decode cJ7_fill_53178 2 = .ok (.aload_n 0, 1) := by decide +kernel
theorem dJ7_fill_53178_3 : decode cJ7_fill_53178 3 = .ok (.arraylength, 1) := by decide +kernel
theorem dJ7_fill_53178_4 : decode cJ7_fill_53178 4 = .ok (.istore_n 3, 1) := by decide +kernel
theorem dJ7_fill_53178_5 : decode cJ7_fill_53178 5 = .ok (.iload_n 2, 1) := by decide +kernel
theorem dJ7_fill_53178_6 : decode cJ7_fill_53178 6 = .ok (.iload_n 3, 1) := by decide +kernel
theorem dJ7_fill_53178_7 : decode cJ7_fill_53178 7 = .ok (.if_icmp .ge 13, 3) := by decide +kernel
theorem dJ7_fill_53178_20 : decode cJ7_fill_53178 20 = .ok (.return_, 1) := by decide +kernel
theorem dJ7_fill_53178_10 : decode cJ7_fill_53178 10 = .ok (.aload_n 0, 1) := by decide +kernel
theorem dJ7_fill_53178_11 : decode cJ7_fill_53178 11 = .ok (.iload_n 2, 1) := by decide +kernel
theorem dJ7_fill_53178_12 : decode cJ7_fill_53178 12 = .ok (.iload_n 1, 1) := by decide +kernel
theorem dJ7_fill_53178_13 : decode cJ7_fill_53178 13 = .ok (.iastore, 1) := by decide +kernel
theorem dJ7_fill_53178_14 : decode cJ7_fill_53178 14 = .ok (.iinc 2 1, 3) := by decide +kernel
theorem dJ7_fill_53178_17 : decode cJ7_fill_53178 17 = .ok (.goto (-12), 3) := by decide +kernel
theorem dX6_size_0 : decode cX6_size 0 = .ok (.aload_n 0, 1) := by decide +kernel
theorem dX6_size_1 : decode cX6_size 1 = .ok (.getfield 18, 3) := by decide +kernel
theorem tw_774 : (.fieldLink RX6 18 "PocketCompiler$Processor" "memory" "[I" : Cond) ∈ tw_W := tw_in (t8_2 (List.mem_of_getElem? (i := 117) rfl)) rfl
theorem itX6 : ∀ w ∈ wsX60, w ∈ tw_W := tw_all (by decide +kernel)
theorem dX6_size_4 : decode cX6_size 4 = .ok (.arraylength, 1) := by decide +kernel
theorem dX6_size_5 : decode cX6_size 5 = .ok (.ireturn, 1) := by decide +kernel
theorem dX6_valueOf_0 : decode cX6_valueOf 0 = .ok (.aload_n 0, 1) := by decide +kernel
theorem dX6_valueOf_1 : decode cX6_valueOf 1 = .ok (.getfield 9, 3) := by decide +kernel
theorem tw_775 : (.fieldLink RX6 9 "PocketCompiler$Processor" "registers" "[I" : Cond) ∈ tw_W := tw_in (t8_2 (List.mem_of_getElem? (i := 118) rfl)) rfl
theorem dX6_valueOf_4 : decode cX6_valueOf 4 = .ok (.iload_n 1, 1) := by decide +kernel
theorem dX6_valueOf_5 : decode cX6_valueOf 5 = .ok (.bipush 31, 2) := by decide +kernel
theorem dX6_valueOf_7 : decode cX6_valueOf 7 = .ok (.iand, 1) := by decide +kernel
theorem dX6_valueOf_8 : decode cX6_valueOf 8 = .ok (.iaload, 1) := by decide +kernel
theorem dX6_valueOf_9 : decode cX6_valueOf 9 = .ok (.ireturn, 1) := by decide +kernel
theorem dX6_write_0 : decode cX6_write 0 = .ok (.iload_n 1, 1) := by decide +kernel
theorem dX6_write_1 : decode cX6_write 1 = .ok (.ifCond .le 19, 3) := by decide +kernel
theorem dX6_write_20 : decode cX6_write 20 = .ok (.return_, 1) := by decide +kernel
theorem dX6_write_4 : decode cX6_write 4 = .ok (.iload_n 1, 1) := by decide +kernel
theorem dX6_write_5 : decode cX6_write 5 = .ok (.aload_n 0, 1) := by decide +kernel
theorem dX6_write_6 : decode cX6_write 6 = .ok (.getfield 9, 3) := by decide +kernel
theorem dX6_write_9 : decode cX6_write 9 = .ok (.arraylength, 1) := by decide +kernel
theorem dX6_write_10 : decode cX6_write 10 = .ok (.if_icmp .ge 10, 3) := by decide +kernel
theorem dX6_write_13 : decode cX6_write 13 = .ok (.aload_n 0, 1) := by decide +kernel
theorem dX6_write_14 : decode cX6_write 14 = .ok (.getfield 9, 3) := by decide +kernel
theorem dX6_write_17 : decode cX6_write 17 = .ok (.iload_n 1, 1) := by decide +kernel
theorem dX6_write_18 : decode cX6_write 18 = .ok (.iload_n 2, 1) := by decide +kernel
theorem dX6_write_19 : decode cX6_write 19 = .ok (.iastore, 1) := by decide +kernel
theorem dX6_change_0 : decode cX6_change 0 = .ok (.iload_n 1, 1) := by decide +kernel
theorem dX6_change_1 : decode cX6_change 1 = .ok (.bipush 32, 2) := by decide +kernel
theorem dX6_change_3 : decode cX6_change 3 = .ok (.if_icmp .ne 11, 3) := by decide +kernel
theorem dX6_change_14 : decode cX6_change 14 = .ok (.aload_n 0, 1) := by decide +kernel
theorem dX6_change_15 : decode cX6_change 15 = .ok (.iload_n 1, 1) := by decide +kernel
theorem dX6_change_16 : decode cX6_change 16 = .ok (.iload_n 2, 1) := by decide +kernel
theorem dX6_change_17 : decode cX6_change 17 = .ok (.invokevirtual 29, 3) := by decide +kernel
theorem tw_776 : (.code yX6_write cX6_write 3 none : Cond) ∈ tw_W := tw_in (t8_6 (List.mem_of_getElem? (i := 26) rfl)) rfl
theorem tw_777 : ∀ w ∈ ([.methodLink RX6 29 yX6_write, .instanceMethod yX6_write, .selects RX6 yX6_write yX6_write, .initialized RX6] : List Cond), w ∈ tw_W := al_c (tw_in (t8_6 (List.mem_of_getElem? (i := 23) rfl)) rfl) (al_c (tw_in (t8_6 (List.mem_of_getElem? (i := 25) rfl)) rfl) (al_c (tw_in (t7_5 (q := (yX6_write, 9)) (List.mem_of_getElem? (i := 12) rfl)) rfl) (al_c (tw_in (t8_1 (List.mem_of_getElem? (i := 14) rfl)) rfl) al_n)))
theorem dX6_change_20 : decode cX6_change 20 = .ok (.aload_n 0, 1) := by decide +kernel
theorem dX6_change_21 : decode cX6_change 21 = .ok (.iconst 0, 1) := by decide +kernel
theorem dX6_change_22 : decode cX6_change 22 = .ok (.putfield 33, 3) := by decide +kernel
theorem tw_778 : (.fieldLink RX6 33 "PocketCompiler$Processor" "status" "I" : Cond) ∈ tw_W := tw_in (t8_2 (List.mem_of_getElem? (i := 122) rfl)) rfl
theorem dX6_change_25 : decode cX6_change 25 = .ok (.return_, 1) := by decide +kernel
theorem dX6_change_6 : decode cX6_change 6 = .ok (.aload_n 0, 1) := by decide +kernel
theorem dX6_change_7 : decode cX6_change 7 = .ok (.iload_n 2, 1) := by decide +kernel
theorem dX6_change_8 : decode cX6_change 8 = .ok (.putfield 25, 3) := by decide +kernel
theorem tw_779 : (.fieldLink RX6 25 "PocketCompiler$Processor" "pc" "I" : Cond) ∈ tw_W := tw_in (t8_2 (List.mem_of_getElem? (i := 119) rfl)) rfl
theorem dX6_change_11 : decode cX6_change 11 = .ok (.goto 9, 3) := by decide +kernel
theorem dX6_hasWord_0 : decode cX6_hasWord 0 = .ok (.iload_n 1, 1) := by decide +kernel
theorem dX6_hasWord_1 : decode cX6_hasWord 1 = .ok (.iconst 3, 1) := by decide +kernel
theorem dX6_hasWord_2 : decode cX6_hasWord 2 = .ok (.iand, 1) := by decide +kernel
theorem dX6_hasWord_3 : decode cX6_hasWord 3 = .ok (.ifCond .ne 18, 3) := by decide +kernel
theorem dX6_hasWord_21 : decode cX6_hasWord 21 = .ok (.iconst 0, 1) := by decide +kernel
theorem dX6_hasWord_22 : decode cX6_hasWord 22 = .ok (.ireturn, 1) := by decide +kernel
theorem dX6_hasWord_6 : decode cX6_hasWord 6 = .ok (.iload_n 1, 1) := by decide +kernel
theorem dX6_hasWord_7 : decode cX6_hasWord 7 = .ok (.iconst 2, 1) := by decide +kernel
theorem dX6_hasWord_8 : decode cX6_hasWord 8 = .ok (.iushr, 1) := by decide +kernel
theorem dX6_hasWord_9 : decode cX6_hasWord 9 = .ok (.aload_n 0, 1) := by decide +kernel
theorem dX6_hasWord_10 : decode cX6_hasWord 10 = .ok (.getfield 18, 3) := by decide +kernel
theorem dX6_hasWord_13 : decode cX6_hasWord 13 = .ok (.arraylength, 1) := by decide +kernel
theorem dX6_hasWord_14 : decode cX6_hasWord 14 = .ok (.if_icmp .ge 7, 3) := by decide +kernel
theorem dX6_hasWord_17 : decode cX6_hasWord 17 = .ok (.iconst 1, 1) := by decide +kernel
theorem dX6_hasWord_18 : decode cX6_hasWord 18 = .ok (.goto 4, 3) := by decide +kernel
theorem dX6_wordAt_0 : decode cX6_wordAt 0 = .ok (.iload_n 1, 1) := by decide +kernel
theorem dX6_wordAt_1 : decode cX6_wordAt 1 = .ok (.iconst 2, 1) := by decide +kernel
theorem dX6_wordAt_2 : decode cX6_wordAt 2 = .ok (.iushr, 1) := by decide +kernel
theorem dX6_wordAt_3 : decode cX6_wordAt 3 = .ok (.istore_n 2, 1) := by decide +kernel
theorem dX6_wordAt_4 : decode cX6_wordAt 4 = .ok (.iload_n 2, 1) := by decide +kernel
theorem dX6_wordAt_5 : decode cX6_wordAt 5 = .ok (.aload_n 0, 1) := by decide +kernel
theorem dX6_wordAt_6 : decode cX6_wordAt 6 = .ok (.getfield 18, 3) := by decide +kernel
theorem dX6_wordAt_9 : decode cX6_wordAt 9 = .ok (.arraylength, 1) := by decide +kernel
theorem dX6_wordAt_10 : decode cX6_wordAt 10 = .ok (.if_icmp .ge 12, 3) := by decide +kernel
theorem dX6_wordAt_22 : decode cX6_wordAt 22 = .ok (.iconst 0, 1) := by decide +kernel
theorem dX6_wordAt_23 : decode cX6_wordAt 23 = .ok (.ireturn, 1) := by decide +kernel
theorem dX6_wordAt_13 : decode cX6_wordAt 13 = .ok (.aload_n 0, 1) := by decide +kernel
theorem dX6_wordAt_14 : decode cX6_wordAt 14 = .ok (.getfield 18, 3) := by decide +kernel
theorem dX6_wordAt_17 : decode cX6_wordAt 17 = .ok (.iload_n 2, 1) := by decide +kernel
theorem dX6_wordAt_18 : decode cX6_wordAt 18 = .ok (.iaload, 1) := by decide +kernel
theorem dX6_wordAt_19 : decode cX6_wordAt 19 = .ok (.goto 4, 3) := by decide +kernel
theorem dX6_layWord_0 : decode cX6_layWord 0 = .ok (.iload_n 1, 1) := by decide +kernel
theorem dX6_layWord_1 : decode cX6_layWord 1 = .ok (.iconst 2, 1) := by decide +kernel
theorem dX6_layWord_2 : decode cX6_layWord 2 = .ok (.iushr, 1) := by decide +kernel
theorem dX6_layWord_3 : decode cX6_layWord 3 = .ok (.istore_n 3, 1) := by decide +kernel
theorem dX6_layWord_4 : decode cX6_layWord 4 = .ok (.iload_n 3, 1) := by decide +kernel
theorem dX6_layWord_5 : decode cX6_layWord 5 = .ok (.aload_n 0, 1) := by decide +kernel
theorem dX6_layWord_6 : decode cX6_layWord 6 = .ok (.getfield 18, 3) := by decide +kernel
theorem dX6_layWord_9 : decode cX6_layWord 9 = .ok (.arraylength, 1) := by decide +kernel
theorem dX6_layWord_10 : decode cX6_layWord 10 = .ok (.if_icmp .ge 10, 3) := by decide +kernel
theorem dX6_layWord_20 : decode cX6_layWord 20 = .ok (.return_, 1) := by decide +kernel
theorem dX6_layWord_13 : decode cX6_layWord 13 = .ok (.aload_n 0, 1) := by decide +kernel
theorem dX6_layWord_14 : decode cX6_layWord 14 = .ok (.getfield 18, 3) := by decide +kernel
theorem dX6_layWord_17 : decode cX6_layWord 17 = .ok (.iload_n 3, 1) := by decide +kernel
theorem dX6_layWord_18 : decode cX6_layWord 18 = .ok (.iload_n 2, 1) := by decide +kernel
theorem dX6_layWord_19 : decode cX6_layWord 19 = .ok (.iastore, 1) := by decide +kernel
theorem dX6_isBelow_0 : decode cX6_isBelow 0 = .ok (.iload_n 0, 1) := by decide +kernel
theorem dX6_isBelow_1 : decode cX6_isBelow 1 = .ok (.iload_n 1, 1) := by decide +kernel
theorem dX6_isBelow_2 : decode cX6_isBelow 2 = .ok (.invokestatic 132, 3) := by decide +kernel
theorem tw_780 : (.code yJ6_compareUnsigned_7cf53 cJ6_compareUnsigned_7cf53 2 (some .int) : Cond) ∈ tw_W := tw_in (t8_6 (List.mem_of_getElem? (i := 104) rfl)) rfl
theorem tw_781 : ∀ w ∈ ([.methodLink RX6 132 yJ6_compareUnsigned_7cf53, .static yJ6_compareUnsigned_7cf53, .initialized yJ6_compareUnsigned_7cf53.cls] : List Cond), w ∈ tw_W := al_c (tw_in (t8_6 (List.mem_of_getElem? (i := 102) rfl)) rfl) (al_c (tw_in (t8_6 (List.mem_of_getElem? (i := 103) rfl)) rfl) (al_c (tw_in (t8_1 (List.mem_of_getElem? (i := 30) rfl)) rfl) al_n))
theorem dX6_isBelow_5 : decode cX6_isBelow 5 = .ok (.ifCond .ge 7, 3) := by decide +kernel
theorem dX6_isBelow_12 : decode cX6_isBelow 12 = .ok (.iconst 0, 1) := by decide +kernel
theorem dX6_isBelow_13 : decode cX6_isBelow 13 = .ok (.ireturn, 1) := by decide +kernel
theorem dX6_isBelow_8 : decode cX6_isBelow 8 = .ok (.iconst 1, 1) := by decide +kernel
theorem dX6_isBelow_9 : decode cX6_isBelow 9 = .ok (.goto 4, 3) := by decide +kernel
theorem dX6_isTaken_0 : decode cX6_isTaken 0 = .ok (.iload_n 0, 1) := by decide +kernel
theorem dX6_isTaken_1 : decode cX6_isTaken 1 = .ok (.tableswitch 85 4 8 #[35, 46, 57, 68, 79], 35) := by decide +kernel
theorem dX6_isTaken_36 : decode cX6_isTaken 36 = .ok (.iload_n 1, 1) := by decide +kernel
theorem dX6_isTaken_37 : decode cX6_isTaken 37 = .ok (.iload_n 2, 1) := by decide +kernel
theorem dX6_isTaken_38 : decode cX6_isTaken 38 = .ok (.if_icmp .ne 7, 3) := by decide +kernel
theorem dX6_isTaken_45 : decode cX6_isTaken 45 = .ok (.iconst 0, 1) := by decide +kernel
theorem dX6_isTaken_46 : decode cX6_isTaken 46 = .ok (.ireturn, 1) := by decide +kernel
theorem dX6_isTaken_41 : decode cX6_isTaken 41 = .ok (.iconst 1, 1) := by decide +kernel
theorem dX6_isTaken_42 : decode cX6_isTaken 42 = .ok (.goto 4, 3) := by decide +kernel
theorem dX6_isTaken_47 : decode cX6_isTaken 47 = .ok (.iload_n 1, 1) := by decide +kernel
theorem dX6_isTaken_48 : decode cX6_isTaken 48 = .ok (.iload_n 2, 1) := by decide +kernel
theorem dX6_isTaken_49 : decode cX6_isTaken 49 = .ok (.if_icmp .eq 7, 3) := by decide +kernel
theorem dX6_isTaken_56 : decode cX6_isTaken 56 = .ok (.iconst 0, 1) := by decide +kernel
theorem dX6_isTaken_57 : decode cX6_isTaken 57 = .ok (.ireturn, 1) := by decide +kernel
theorem dX6_isTaken_52 : decode cX6_isTaken 52 = .ok (.iconst 1, 1) := by decide +kernel
theorem dX6_isTaken_53 : decode cX6_isTaken 53 = .ok (.goto 4, 3) := by decide +kernel
theorem dX6_isTaken_58 : decode cX6_isTaken 58 = .ok (.iload_n 1, 1) := by decide +kernel
theorem dX6_isTaken_59 : decode cX6_isTaken 59 = .ok (.iload_n 2, 1) := by decide +kernel
theorem dX6_isTaken_60 : decode cX6_isTaken 60 = .ok (.if_icmp .ge 7, 3) := by decide +kernel
theorem dX6_isTaken_67 : decode cX6_isTaken 67 = .ok (.iconst 0, 1) := by decide +kernel
theorem dX6_isTaken_68 : decode cX6_isTaken 68 = .ok (.ireturn, 1) := by decide +kernel
theorem dX6_isTaken_63 : decode cX6_isTaken 63 = .ok (.iconst 1, 1) := by decide +kernel
theorem dX6_isTaken_64 : decode cX6_isTaken 64 = .ok (.goto 4, 3) := by decide +kernel
theorem dX6_isTaken_69 : decode cX6_isTaken 69 = .ok (.iload_n 1, 1) := by decide +kernel
theorem dX6_isTaken_70 : decode cX6_isTaken 70 = .ok (.iload_n 2, 1) := by decide +kernel
theorem dX6_isTaken_71 : decode cX6_isTaken 71 = .ok (.if_icmp .lt 7, 3) := by decide +kernel
theorem dX6_isTaken_78 : decode cX6_isTaken 78 = .ok (.iconst 0, 1) := by decide +kernel
theorem dX6_isTaken_79 : decode cX6_isTaken 79 = .ok (.ireturn, 1) := by decide +kernel
theorem dX6_isTaken_74 : decode cX6_isTaken 74 = .ok (.iconst 1, 1) := by decide +kernel
theorem dX6_isTaken_75 : decode cX6_isTaken 75 = .ok (.goto 4, 3) := by decide +kernel
theorem dX6_isTaken_80 : decode cX6_isTaken 80 = .ok (.iload_n 1, 1) := by decide +kernel
theorem dX6_isTaken_81 : decode cX6_isTaken 81 = .ok (.iload_n 2, 1) := by decide +kernel
theorem dX6_isTaken_82 : decode cX6_isTaken 82 = .ok (.invokestatic 128, 3) := by decide +kernel
theorem tw_782 : (.code yX6_isBelow cX6_isBelow 2 (some .boolean) : Cond) ∈ tw_W := tw_in (t8_6 (List.mem_of_getElem? (i := 101) rfl)) rfl
theorem tw_783 : ∀ w ∈ ([.methodLink RX6 128 yX6_isBelow, .static yX6_isBelow, .initialized yX6_isBelow.cls] : List Cond), w ∈ tw_W := al_c (tw_in (t8_6 (List.mem_of_getElem? (i := 99) rfl)) rfl) (al_c (tw_in (t8_6 (List.mem_of_getElem? (i := 100) rfl)) rfl) (al_c (tw_in (t8_1 (List.mem_of_getElem? (i := 14) rfl)) rfl) al_n))
theorem dX6_isTaken_85 : decode cX6_isTaken 85 = .ok (.ireturn, 1) := by decide +kernel
theorem dX6_isTaken_86 : decode cX6_isTaken 86 = .ok (.iload_n 1, 1) := by decide +kernel
theorem dX6_isTaken_87 : decode cX6_isTaken 87 = .ok (.iload_n 2, 1) := by decide +kernel
theorem dX6_isTaken_88 : decode cX6_isTaken 88 = .ok (.invokestatic 128, 3) := by decide +kernel
theorem dX6_isTaken_91 : decode cX6_isTaken 91 = .ok (.ifCond .ne 7, 3) := by decide +kernel
theorem dX6_isTaken_98 : decode cX6_isTaken 98 = .ok (.iconst 0, 1) := by decide +kernel
theorem dX6_isTaken_99 : decode cX6_isTaken 99 = .ok (.ireturn, 1) := by decide +kernel
theorem dX6_isTaken_94 : decode cX6_isTaken 94 = .ok (.iconst 1, 1) := by decide +kernel
theorem dX6_isTaken_95 : decode cX6_isTaken 95 = .ok (.goto 4, 3) := by decide +kernel
theorem dX6_bytesOf_0 : decode cX6_bytesOf 0 = .ok (.iload_n 0, 1) := by decide +kernel
theorem dX6_bytesOf_1 : decode cX6_bytesOf 1 = .ok (.tableswitch 47 10 16 #[43, 45, 47, 43, 45, 43, 45], 43) := by decide +kernel
theorem dX6_bytesOf_44 : decode cX6_bytesOf 44 = .ok (.iconst 1, 1) := by decide +kernel
theorem dX6_bytesOf_45 : decode cX6_bytesOf 45 = .ok (.ireturn, 1) := by decide +kernel
theorem dX6_bytesOf_46 : decode cX6_bytesOf 46 = .ok (.iconst 2, 1) := by decide +kernel
theorem dX6_bytesOf_47 : decode cX6_bytesOf 47 = .ok (.ireturn, 1) := by decide +kernel
theorem dX6_bytesOf_48 : decode cX6_bytesOf 48 = .ok (.iconst 4, 1) := by decide +kernel
theorem dX6_bytesOf_49 : decode cX6_bytesOf 49 = .ok (.ireturn, 1) := by decide +kernel
theorem dX6_isReached_0 : decode cX6_isReached 0 = .ok (.iload_n 1, 1) := by decide +kernel
theorem dX6_isReached_1 : decode cX6_isReached 1 = .ok (.iload_n 2, 1) := by decide +kernel
theorem dX6_isReached_2 : decode cX6_isReached 2 = .ok (.iconst 1, 1) := by decide +kernel
theorem dX6_isReached_3 : decode cX6_isReached 3 = .ok (.isub, 1) := by decide +kernel
theorem dX6_isReached_4 : decode cX6_isReached 4 = .ok (.iand, 1) := by decide +kernel
theorem dX6_isReached_5 : decode cX6_isReached 5 = .ok (.ifCond .ne 18, 3) := by decide +kernel
theorem dX6_isReached_23 : decode cX6_isReached 23 = .ok (.iconst 0, 1) := by decide +kernel
theorem dX6_isReached_24 : decode cX6_isReached 24 = .ok (.ireturn, 1) := by decide +kernel
theorem dX6_isReached_8 : decode cX6_isReached 8 = .ok (.aload_n 0, 1) := by decide +kernel
theorem dX6_isReached_9 : decode cX6_isReached 9 = .ok (.iload_n 1, 1) := by decide +kernel
theorem dX6_isReached_10 : decode cX6_isReached 10 = .ok (.bipush (-4), 2) := by decide +kernel
theorem dX6_isReached_12 : decode cX6_isReached 12 = .ok (.iand, 1) := by decide +kernel
theorem dX6_isReached_13 : decode cX6_isReached 13 = .ok (.invokevirtual 68, 3) := by decide +kernel
theorem tw_784 : (.code yX6_hasWord cX6_hasWord 2 (some .boolean) : Cond) ∈ tw_W := tw_in (t8_6 (List.mem_of_getElem? (i := 42) rfl)) rfl
theorem tw_785 : ∀ w ∈ ([.methodLink RX6 68 yX6_hasWord, .instanceMethod yX6_hasWord, .selects RX6 yX6_hasWord yX6_hasWord, .initialized RX6] : List Cond), w ∈ tw_W := al_c (tw_in (t8_6 (List.mem_of_getElem? (i := 39) rfl)) rfl) (al_c (tw_in (t8_6 (List.mem_of_getElem? (i := 40) rfl)) rfl) (al_c (tw_in (t8_6 (List.mem_of_getElem? (i := 41) rfl)) rfl) (al_c (tw_in (t8_1 (List.mem_of_getElem? (i := 14) rfl)) rfl) al_n)))
theorem dX6_isReached_16 : decode cX6_isReached 16 = .ok (.ifCond .eq 7, 3) := by decide +kernel
theorem dX6_isReached_19 : decode cX6_isReached 19 = .ok (.iconst 1, 1) := by decide +kernel
theorem dX6_isReached_20 : decode cX6_isReached 20 = .ok (.goto 4, 3) := by decide +kernel
theorem dX6_numbered_0 : decode cX6_numbered 0 = .ok (.iload_n 0, 1) := by decide +kernel
theorem dX6_numbered_1 : decode cX6_numbered 1 = .ok (.tableswitch 96 18 25 #[47, 51, 62, 76, 80, 84, 88, 92], 47) := by decide +kernel
theorem dX6_numbered_48 : decode cX6_numbered 48 = .ok (.iload_n 1, 1) := by decide +kernel
theorem dX6_numbered_49 : decode cX6_numbered 49 = .ok (.iload_n 2, 1) := by decide +kernel
theorem dX6_numbered_50 : decode cX6_numbered 50 = .ok (.iadd, 1) := by decide +kernel
theorem dX6_numbered_51 : decode cX6_numbered 51 = .ok (.ireturn, 1) := by decide +kernel
theorem dX6_numbered_52 : decode cX6_numbered 52 = .ok (.iload_n 1, 1) := by decide +kernel
theorem dX6_numbered_53 : decode cX6_numbered 53 = .ok (.iload_n 2, 1) := by decide +kernel
theorem dX6_numbered_54 : decode cX6_numbered 54 = .ok (.if_icmp .ge 7, 3) := by decide +kernel
theorem dX6_numbered_61 : decode cX6_numbered 61 = .ok (.iconst 0, 1) := by decide +kernel
theorem dX6_numbered_62 : decode cX6_numbered 62 = .ok (.ireturn, 1) := by decide +kernel
theorem dX6_numbered_57 : decode cX6_numbered 57 = .ok (.iconst 1, 1) := by decide +kernel
theorem dX6_numbered_58 : decode cX6_numbered 58 = .ok (.goto 4, 3) := by decide +kernel
theorem dX6_numbered_63 : decode cX6_numbered 63 = .ok (.iload_n 1, 1) := by decide +kernel
theorem dX6_numbered_64 : decode cX6_numbered 64 = .ok (.iload_n 2, 1) := by decide +kernel
theorem dX6_numbered_65 : decode cX6_numbered 65 = .ok (.invokestatic 128, 3) := by decide +kernel
theorem dX6_numbered_68 : decode cX6_numbered 68 = .ok (.ifCond .eq 7, 3) := by decide +kernel
theorem dX6_numbered_75 : decode cX6_numbered 75 = .ok (.iconst 0, 1) := by decide +kernel
theorem dX6_numbered_76 : decode cX6_numbered 76 = .ok (.ireturn, 1) := by decide +kernel
theorem dX6_numbered_71 : decode cX6_numbered 71 = .ok (.iconst 1, 1) := by decide +kernel
theorem dX6_numbered_72 : decode cX6_numbered 72 = .ok (.goto 4, 3) := by decide +kernel
theorem dX6_numbered_77 : decode cX6_numbered 77 = .ok (.iload_n 1, 1) := by decide +kernel
theorem dX6_numbered_78 : decode cX6_numbered 78 = .ok (.iload_n 2, 1) := by decide +kernel
theorem dX6_numbered_79 : decode cX6_numbered 79 = .ok (.ixor, 1) := by decide +kernel
theorem dX6_numbered_80 : decode cX6_numbered 80 = .ok (.ireturn, 1) := by decide +kernel
theorem dX6_numbered_81 : decode cX6_numbered 81 = .ok (.iload_n 1, 1) := by decide +kernel
theorem dX6_numbered_82 : decode cX6_numbered 82 = .ok (.iload_n 2, 1) := by decide +kernel
theorem dX6_numbered_83 : decode cX6_numbered 83 = .ok (.ior, 1) := by decide +kernel
theorem dX6_numbered_84 : decode cX6_numbered 84 = .ok (.ireturn, 1) := by decide +kernel
theorem dX6_numbered_85 : decode cX6_numbered 85 = .ok (.iload_n 1, 1) := by decide +kernel
theorem dX6_numbered_86 : decode cX6_numbered 86 = .ok (.iload_n 2, 1) := by decide +kernel
theorem dX6_numbered_87 : decode cX6_numbered 87 = .ok (.iand, 1) := by decide +kernel
theorem dX6_numbered_88 : decode cX6_numbered 88 = .ok (.ireturn, 1) := by decide +kernel
theorem dX6_numbered_89 : decode cX6_numbered 89 = .ok (.iload_n 1, 1) := by decide +kernel
theorem dX6_numbered_90 : decode cX6_numbered 90 = .ok (.iload_n 2, 1) := by decide +kernel
theorem dX6_numbered_91 : decode cX6_numbered 91 = .ok (.ishl, 1) := by decide +kernel
theorem dX6_numbered_92 : decode cX6_numbered 92 = .ok (.ireturn, 1) := by decide +kernel
theorem dX6_numbered_93 : decode cX6_numbered 93 = .ok (.iload_n 1, 1) := by decide +kernel
theorem dX6_numbered_94 : decode cX6_numbered 94 = .ok (.iload_n 2, 1) := by decide +kernel
theorem dX6_numbered_95 : decode cX6_numbered 95 = .ok (.iushr, 1) := by decide +kernel
theorem dX6_numbered_96 : decode cX6_numbered 96 = .ok (.ireturn, 1) := by decide +kernel
theorem dX6_numbered_97 : decode cX6_numbered 97 = .ok (.iload_n 1, 1) := by decide +kernel
theorem dX6_numbered_98 : decode cX6_numbered 98 = .ok (.iload_n 2, 1) := by decide +kernel
theorem dX6_numbered_99 : decode cX6_numbered 99 = .ok (.ishr, 1) := by decide +kernel
theorem dX6_numbered_100 : decode cX6_numbered 100 = .ok (.ireturn, 1) := by decide +kernel
theorem dX6_joined_0 : decode cX6_joined 0 = .ok (.iload_n 0, 1) := by decide +kernel
theorem dX6_joined_1 : decode cX6_joined 1 = .ok (.tableswitch 104 27 35 #[51, 55, 59, 63, 74, 88, 92, 96, 100], 51) := by decide +kernel
theorem dX6_joined_52 : decode cX6_joined 52 = .ok (.iload_n 1, 1) := by decide +kernel
theorem dX6_joined_53 : decode cX6_joined 53 = .ok (.iload_n 2, 1) := by decide +kernel
theorem dX6_joined_54 : decode cX6_joined 54 = .ok (.iadd, 1) := by decide +kernel
theorem dX6_joined_55 : decode cX6_joined 55 = .ok (.ireturn, 1) := by decide +kernel
theorem dX6_joined_56 : decode cX6_joined 56 = .ok (.iload_n 1, 1) := by decide +kernel
theorem dX6_joined_57 : decode cX6_joined 57 = .ok (.iload_n 2, 1) := by decide +kernel
theorem dX6_joined_58 : decode cX6_joined 58 = .ok (.isub, 1) := by decide +kernel
theorem dX6_joined_59 : decode cX6_joined 59 = .ok (.ireturn, 1) := by decide +kernel
theorem dX6_joined_60 : decode cX6_joined 60 = .ok (.iload_n 1, 1) := by decide +kernel
theorem dX6_joined_61 : decode cX6_joined 61 = .ok (.iload_n 2, 1) := by decide +kernel
theorem dX6_joined_62 : decode cX6_joined 62 = .ok (.ishl, 1) := by decide +kernel
theorem dX6_joined_63 : decode cX6_joined 63 = .ok (.ireturn, 1) := by decide +kernel
theorem dX6_joined_64 : decode cX6_joined 64 = .ok (.iload_n 1, 1) := by decide +kernel
theorem dX6_joined_65 : decode cX6_joined 65 = .ok (.iload_n 2, 1) := by decide +kernel
theorem dX6_joined_66 : decode cX6_joined 66 = .ok (.if_icmp .ge 7, 3) := by decide +kernel
theorem dX6_joined_73 : decode cX6_joined 73 = .ok (.iconst 0, 1) := by decide +kernel
theorem dX6_joined_74 : decode cX6_joined 74 = .ok (.ireturn, 1) := by decide +kernel
theorem dX6_joined_69 : decode cX6_joined 69 = .ok (.iconst 1, 1) := by decide +kernel
theorem dX6_joined_70 : decode cX6_joined 70 = .ok (.goto 4, 3) := by decide +kernel
theorem dX6_joined_75 : decode cX6_joined 75 = .ok (.iload_n 1, 1) := by decide +kernel
theorem dX6_joined_76 : decode cX6_joined 76 = .ok (.iload_n 2, 1) := by decide +kernel
theorem dX6_joined_77 : decode cX6_joined 77 = .ok (.invokestatic 128, 3) := by decide +kernel
theorem dX6_joined_80 : decode cX6_joined 80 = .ok (.ifCond .eq 7, 3) := by decide +kernel
theorem dX6_joined_87 : decode cX6_joined 87 = .ok (.iconst 0, 1) := by decide +kernel
theorem dX6_joined_88 : decode cX6_joined 88 = .ok (.ireturn, 1) := by decide +kernel
theorem dX6_joined_83 : decode cX6_joined 83 = .ok (.iconst 1, 1) := by decide +kernel
theorem dX6_joined_84 : decode cX6_joined 84 = .ok (.goto 4, 3) := by decide +kernel
theorem dX6_joined_89 : decode cX6_joined 89 = .ok (.iload_n 1, 1) := by decide +kernel
theorem dX6_joined_90 : decode cX6_joined 90 = .ok (.iload_n 2, 1) := by decide +kernel
theorem dX6_joined_91 : decode cX6_joined 91 = .ok (.ixor, 1) := by decide +kernel
theorem dX6_joined_92 : decode cX6_joined 92 = .ok (.ireturn, 1) := by decide +kernel
theorem dX6_joined_93 : decode cX6_joined 93 = .ok (.iload_n 1, 1) := by decide +kernel
theorem dX6_joined_94 : decode cX6_joined 94 = .ok (.iload_n 2, 1) := by decide +kernel
theorem dX6_joined_95 : decode cX6_joined 95 = .ok (.iushr, 1) := by decide +kernel
theorem dX6_joined_96 : decode cX6_joined 96 = .ok (.ireturn, 1) := by decide +kernel
theorem dX6_joined_97 : decode cX6_joined 97 = .ok (.iload_n 1, 1) := by decide +kernel
theorem dX6_joined_98 : decode cX6_joined 98 = .ok (.iload_n 2, 1) := by decide +kernel
theorem dX6_joined_99 : decode cX6_joined 99 = .ok (.ishr, 1) := by decide +kernel
theorem dX6_joined_100 : decode cX6_joined 100 = .ok (.ireturn, 1) := by decide +kernel
theorem dX6_joined_101 : decode cX6_joined 101 = .ok (.iload_n 1, 1) := by decide +kernel
theorem dX6_joined_102 : decode cX6_joined 102 = .ok (.iload_n 2, 1) := by decide +kernel
theorem dX6_joined_103 : decode cX6_joined 103 = .ok (.ior, 1) := by decide +kernel
theorem dX6_joined_104 : decode cX6_joined 104 = .ok (.ireturn, 1) := by decide +kernel
theorem dX6_joined_105 : decode cX6_joined 105 = .ok (.iload_n 1, 1) := by decide +kernel
theorem dX6_joined_106 : decode cX6_joined 106 = .ok (.iload_n 2, 1) := by decide +kernel
theorem dX6_joined_107 : decode cX6_joined 107 = .ok (.iand, 1) := by decide +kernel
theorem dX6_joined_108 : decode cX6_joined 108 = .ok (.ireturn, 1) := by decide +kernel
theorem dX6_branch_0 : decode cX6_branch 0 = .ok (.iload_n 1, 1) := by decide +kernel
theorem dX6_branch_1 : decode cX6_branch 1 = .ok (.ifCond .ne 4, 3) := by decide +kernel
theorem dX6_branch_5 : decode cX6_branch 5 = .ok (.iload_n 2, 1) := by decide +kernel
theorem dX6_branch_6 : decode cX6_branch 6 = .ok (.iconst 3, 1) := by decide +kernel
theorem dX6_branch_7 : decode cX6_branch 7 = .ok (.iand, 1) := by decide +kernel
theorem dX6_branch_8 : decode cX6_branch 8 = .ok (.ifCond .eq 11, 3) := by decide +kernel
theorem dX6_branch_19 : decode cX6_branch 19 = .ok (.aload_n 0, 1) := by decide +kernel
theorem dX6_branch_20 : decode cX6_branch 20 = .ok (.iload_n 2, 1) := by decide +kernel
theorem dX6_branch_21 : decode cX6_branch 21 = .ok (.putfield 78, 3) := by decide +kernel
theorem tw_786 : (.fieldLink RX6 78 "PocketCompiler$Processor" "next" "I" : Cond) ∈ tw_W := tw_in (t8_2 (List.mem_of_getElem? (i := 121) rfl)) rfl
theorem dX6_branch_24 : decode cX6_branch 24 = .ok (.return_, 1) := by decide +kernel
theorem dX6_branch_11 : decode cX6_branch 11 = .ok (.aload_n 0, 1) := by decide +kernel
theorem dX6_branch_12 : decode cX6_branch 12 = .ok (.iconst 3, 1) := by decide +kernel
theorem dX6_branch_13 : decode cX6_branch 13 = .ok (.putfield 33, 3) := by decide +kernel
theorem dX6_branch_16 : decode cX6_branch 16 = .ok (.goto 8, 3) := by decide +kernel
theorem dX6_branch_4 : decode cX6_branch 4 = .ok (.return_, 1) := by decide +kernel
theorem dX6_jump_0 : decode cX6_jump 0 = .ok (.aload_n 0, 1) := by decide +kernel
theorem dX6_jump_1 : decode cX6_jump 1 = .ok (.iconst 1, 1) := by decide +kernel
theorem dX6_jump_2 : decode cX6_jump 2 = .ok (.iload_n 2, 1) := by decide +kernel
theorem dX6_jump_3 : decode cX6_jump 3 = .ok (.invokevirtual 107, 3) := by decide +kernel
theorem tw_787 : (.code yX6_branch cX6_branch 3 none : Cond) ∈ tw_W := tw_in (t8_6 (List.mem_of_getElem? (i := 95) rfl)) rfl
theorem tw_788 : ∀ w ∈ ([.methodLink RX6 107 yX6_branch, .instanceMethod yX6_branch, .selects RX6 yX6_branch yX6_branch, .initialized RX6] : List Cond), w ∈ tw_W := al_c (tw_in (t8_6 (List.mem_of_getElem? (i := 92) rfl)) rfl) (al_c (tw_in (t8_6 (List.mem_of_getElem? (i := 94) rfl)) rfl) (al_c (tw_in (t7_5 (q := (yX6_branch, 9)) (List.mem_of_getElem? (i := 15) rfl)) rfl) (al_c (tw_in (t8_1 (List.mem_of_getElem? (i := 14) rfl)) rfl) al_n)))
theorem dX6_jump_6 : decode cX6_jump 6 = .ok (.aload_n 0, 1) := by decide +kernel
theorem dX6_jump_7 : decode cX6_jump 7 = .ok (.getfield 33, 3) := by decide +kernel
theorem dX6_jump_10 : decode cX6_jump 10 = .ok (.ifCond .ne 14, 3) := by decide +kernel
theorem dX6_jump_24 : decode cX6_jump 24 = .ok (.return_, 1) := by decide +kernel
theorem dX6_jump_13 : decode cX6_jump 13 = .ok (.aload_n 0, 1) := by decide +kernel
theorem dX6_jump_14 : decode cX6_jump 14 = .ok (.iload_n 1, 1) := by decide +kernel
theorem dX6_jump_15 : decode cX6_jump 15 = .ok (.aload_n 0, 1) := by decide +kernel
theorem dX6_jump_16 : decode cX6_jump 16 = .ok (.getfield 25, 3) := by decide +kernel
theorem dX6_jump_19 : decode cX6_jump 19 = .ok (.iconst 4, 1) := by decide +kernel
theorem dX6_jump_20 : decode cX6_jump 20 = .ok (.iadd, 1) := by decide +kernel
theorem dX6_jump_21 : decode cX6_jump 21 = .ok (.invokevirtual 29, 3) := by decide +kernel
theorem dX6_fetch_0 : decode cX6_fetch 0 = .ok (.aload_n 0, 1) := by decide +kernel
theorem dX6_fetch_1 : decode cX6_fetch 1 = .ok (.iload_n 3, 1) := by decide +kernel
theorem dX6_fetch_2 : decode cX6_fetch 2 = .ok (.iload_n 1, 1) := by decide +kernel
theorem dX6_fetch_3 : decode cX6_fetch 3 = .ok (.invokestatic 137, 3) := by decide +kernel
theorem tw_789 : (.code yX6_bytesOf cX6_bytesOf 1 (some .int) : Cond) ∈ tw_W := tw_in (t8_6 (List.mem_of_getElem? (i := 115) rfl)) rfl
theorem tw_790 : ∀ w ∈ ([.methodLink RX6 137 yX6_bytesOf, .static yX6_bytesOf, .initialized yX6_bytesOf.cls] : List Cond), w ∈ tw_W := al_c (tw_in (t8_6 (List.mem_of_getElem? (i := 113) rfl)) rfl) (al_c (tw_in (t8_6 (List.mem_of_getElem? (i := 114) rfl)) rfl) (al_c (tw_in (t8_1 (List.mem_of_getElem? (i := 14) rfl)) rfl) al_n))
theorem dX6_fetch_6 : decode cX6_fetch 6 = .ok (.invokevirtual 140, 3) := by decide +kernel
theorem tw_791 : (.code yX6_isReached cX6_isReached 3 (some .boolean) : Cond) ∈ tw_W := tw_in (t8_6 (List.mem_of_getElem? (i := 119) rfl)) rfl
theorem tw_792 : ∀ w ∈ ([.methodLink RX6 140 yX6_isReached, .instanceMethod yX6_isReached, .selects RX6 yX6_isReached yX6_isReached, .initialized RX6] : List Cond), w ∈ tw_W := al_c (tw_in (t8_6 (List.mem_of_getElem? (i := 116) rfl)) rfl) (al_c (tw_in (t8_6 (List.mem_of_getElem? (i := 118) rfl)) rfl) (al_c (tw_in (t7_6 (q := (yX6_isReached, 9)) (List.mem_of_getElem? (i := 1) rfl)) rfl) (al_c (tw_in (t8_1 (List.mem_of_getElem? (i := 14) rfl)) rfl) al_n)))
theorem dX6_fetch_9 : decode cX6_fetch 9 = .ok (.ifCond .ne 9, 3) := by decide +kernel
theorem dX6_fetch_18 : decode cX6_fetch 18 = .ok (.aload_n 0, 1) := by decide +kernel
theorem dX6_fetch_19 : decode cX6_fetch 19 = .ok (.iload_n 3, 1) := by decide +kernel
theorem dX6_fetch_20 : decode cX6_fetch 20 = .ok (.invokevirtual 72, 3) := by decide +kernel
theorem tw_793 : (.code yX6_wordAt cX6_wordAt 3 (some .int) : Cond) ∈ tw_W := tw_in (t8_6 (List.mem_of_getElem? (i := 46) rfl)) rfl
theorem tw_794 : ∀ w ∈ ([.methodLink RX6 72 yX6_wordAt, .instanceMethod yX6_wordAt, .selects RX6 yX6_wordAt yX6_wordAt, .initialized RX6] : List Cond), w ∈ tw_W := al_c (tw_in (t8_6 (List.mem_of_getElem? (i := 43) rfl)) rfl) (al_c (tw_in (t8_6 (List.mem_of_getElem? (i := 44) rfl)) rfl) (al_c (tw_in (t8_6 (List.mem_of_getElem? (i := 45) rfl)) rfl) (al_c (tw_in (t8_1 (List.mem_of_getElem? (i := 14) rfl)) rfl) al_n)))
theorem dX6_fetch_23 : decode cX6_fetch 23 = .ok (.bipush 8, 2) := by decide +kernel
theorem dX6_fetch_25 : decode cX6_fetch 25 = .ok (.iload_n 3, 1) := by decide +kernel
theorem dX6_fetch_26 : decode cX6_fetch 26 = .ok (.iconst 3, 1) := by decide +kernel
theorem dX6_fetch_27 : decode cX6_fetch 27 = .ok (.iand, 1) := by decide +kernel
theorem dX6_fetch_28 : decode cX6_fetch 28 = .ok (.imul, 1) := by decide +kernel
theorem dX6_fetch_29 : decode cX6_fetch 29 = .ok (.iushr, 1) := by decide +kernel
theorem dX6_fetch_30 : decode cX6_fetch 30 = .ok (.istore 4, 2) := by decide +kernel
theorem dX6_fetch_32 : decode cX6_fetch 32 = .ok (.iload_n 1, 1) := by decide +kernel
theorem dX6_fetch_33 : decode cX6_fetch 33 = .ok (.tableswitch 84 10 14 #[35, 60, 84, 46, 71], 35) := by decide +kernel
theorem dX6_fetch_68 : decode cX6_fetch 68 = .ok (.aload_n 0, 1) := by decide +kernel
theorem dX6_fetch_69 : decode cX6_fetch 69 = .ok (.iload_n 2, 1) := by decide +kernel
theorem dX6_fetch_70 : decode cX6_fetch 70 = .ok (.iload 4, 2) := by decide +kernel
theorem dX6_fetch_72 : decode cX6_fetch 72 = .ok (.i2b, 1) := by decide +kernel
theorem dX6_fetch_73 : decode cX6_fetch 73 = .ok (.invokevirtual 29, 3) := by decide +kernel
theorem dX6_fetch_76 : decode cX6_fetch 76 = .ok (.goto 48, 3) := by decide +kernel
theorem dX6_fetch_124 : decode cX6_fetch 124 = .ok (.return_, 1) := by decide +kernel
theorem dX6_fetch_93 : decode cX6_fetch 93 = .ok (.aload_n 0, 1) := by decide +kernel
theorem dX6_fetch_94 : decode cX6_fetch 94 = .ok (.iload_n 2, 1) := by decide +kernel
theorem dX6_fetch_95 : decode cX6_fetch 95 = .ok (.iload 4, 2) := by decide +kernel
theorem dX6_fetch_97 : decode cX6_fetch 97 = .ok (.i2s, 1) := by decide +kernel
theorem dX6_fetch_98 : decode cX6_fetch 98 = .ok (.invokevirtual 29, 3) := by decide +kernel
theorem dX6_fetch_101 : decode cX6_fetch 101 = .ok (.goto 23, 3) := by decide +kernel
theorem dX6_fetch_117 : decode cX6_fetch 117 = .ok (.aload_n 0, 1) := by decide +kernel
theorem dX6_fetch_118 : decode cX6_fetch 118 = .ok (.iload_n 2, 1) := by decide +kernel
theorem dX6_fetch_119 : decode cX6_fetch 119 = .ok (.iload 4, 2) := by decide +kernel
theorem dX6_fetch_121 : decode cX6_fetch 121 = .ok (.invokevirtual 29, 3) := by decide +kernel
theorem dX6_fetch_79 : decode cX6_fetch 79 = .ok (.aload_n 0, 1) := by decide +kernel
theorem dX6_fetch_80 : decode cX6_fetch 80 = .ok (.iload_n 2, 1) := by decide +kernel
theorem dX6_fetch_81 : decode cX6_fetch 81 = .ok (.iload 4, 2) := by decide +kernel
theorem dX6_fetch_83 : decode cX6_fetch 83 = .ok (.sipush 255, 3) := by decide +kernel
theorem dX6_fetch_86 : decode cX6_fetch 86 = .ok (.iand, 1) := by decide +kernel
theorem dX6_fetch_87 : decode cX6_fetch 87 = .ok (.invokevirtual 29, 3) := by decide +kernel
theorem dX6_fetch_90 : decode cX6_fetch 90 = .ok (.goto 34, 3) := by decide +kernel
theorem dX6_fetch_104 : decode cX6_fetch 104 = .ok (.aload_n 0, 1) := by decide +kernel
theorem dX6_fetch_105 : decode cX6_fetch 105 = .ok (.iload_n 2, 1) := by decide +kernel
theorem dX6_fetch_106 : decode cX6_fetch 106 = .ok (.iload 4, 2) := by decide +kernel
theorem dX6_fetch_108 : decode cX6_fetch 108 = .ok (.ldc 143, 2) := by decide +kernel
theorem tw_795 : (.constant RX6 143 (65535) : Cond) ∈ tw_W := tw_in (t8_6 (List.mem_of_getElem? (i := 120) rfl)) rfl
theorem dX6_fetch_110 : decode cX6_fetch 110 = .ok (.iand, 1) := by decide +kernel
theorem dX6_fetch_111 : decode cX6_fetch 111 = .ok (.invokevirtual 29, 3) := by decide +kernel
theorem dX6_fetch_114 : decode cX6_fetch 114 = .ok (.goto 10, 3) := by decide +kernel
theorem dX6_fetch_12 : decode cX6_fetch 12 = .ok (.aload_n 0, 1) := by decide +kernel
theorem dX6_fetch_13 : decode cX6_fetch 13 = .ok (.iconst 3, 1) := by decide +kernel
theorem dX6_fetch_14 : decode cX6_fetch 14 = .ok (.putfield 33, 3) := by decide +kernel
theorem dX6_fetch_17 : decode cX6_fetch 17 = .ok (.return_, 1) := by decide +kernel
theorem dX6_store_0 : decode cX6_store 0 = .ok (.iload_n 1, 1) := by decide +kernel
theorem dX6_store_1 : decode cX6_store 1 = .ok (.invokestatic 137, 3) := by decide +kernel
theorem dX6_store_4 : decode cX6_store 4 = .ok (.istore 4, 2) := by decide +kernel
theorem dX6_store_6 : decode cX6_store 6 = .ok (.aload_n 0, 1) := by decide +kernel
theorem dX6_store_7 : decode cX6_store 7 = .ok (.iload_n 3, 1) := by decide +kernel
theorem dX6_store_8 : decode cX6_store 8 = .ok (.iload 4, 2) := by decide +kernel
theorem dX6_store_10 : decode cX6_store 10 = .ok (.invokevirtual 140, 3) := by decide +kernel
theorem dX6_store_13 : decode cX6_store 13 = .ok (.ifCond .ne 9, 3) := by decide +kernel
theorem dX6_store_22 : decode cX6_store 22 = .ok (.bipush 8, 2) := by decide +kernel
theorem dX6_store_24 : decode cX6_store 24 = .ok (.iload_n 3, 1) := by decide +kernel
theorem dX6_store_25 : decode cX6_store 25 = .ok (.iconst 3, 1) := by decide +kernel
theorem dX6_store_26 : decode cX6_store 26 = .ok (.iand, 1) := by decide +kernel
theorem dX6_store_27 : decode cX6_store 27 = .ok (.imul, 1) := by decide +kernel
theorem dX6_store_28 : decode cX6_store 28 = .ok (.istore 5, 2) := by decide +kernel
theorem dX6_store_30 : decode cX6_store 30 = .ok (.iload 4, 2) := by decide +kernel
theorem dX6_store_32 : decode cX6_store 32 = .ok (.iconst 4, 1) := by decide +kernel
theorem dX6_store_33 : decode cX6_store 33 = .ok (.if_icmp .ne 7, 3) := by decide +kernel
theorem dX6_store_40 : decode cX6_store 40 = .ok (.iconst 1, 1) := by decide +kernel
theorem dX6_store_41 : decode cX6_store 41 = .ok (.bipush 8, 2) := by decide +kernel
theorem dX6_store_43 : decode cX6_store 43 = .ok (.iload 4, 2) := by decide +kernel
theorem dX6_store_45 : decode cX6_store 45 = .ok (.imul, 1) := by decide +kernel
theorem dX6_store_46 : decode cX6_store 46 = .ok (.ishl, 1) := by decide +kernel
theorem dX6_store_47 : decode cX6_store 47 = .ok (.iconst 1, 1) := by decide +kernel
theorem dX6_store_48 : decode cX6_store 48 = .ok (.isub, 1) := by decide +kernel
theorem dX6_store_49 : decode cX6_store 49 = .ok (.iload 5, 2) := by decide +kernel
theorem dX6_store_51 : decode cX6_store 51 = .ok (.ishl, 1) := by decide +kernel
theorem dX6_store_52 : decode cX6_store 52 = .ok (.istore 6, 2) := by decide +kernel
theorem dX6_store_54 : decode cX6_store 54 = .ok (.aload_n 0, 1) := by decide +kernel
theorem dX6_store_55 : decode cX6_store 55 = .ok (.iload_n 3, 1) := by decide +kernel
theorem dX6_store_56 : decode cX6_store 56 = .ok (.aload_n 0, 1) := by decide +kernel
theorem dX6_store_57 : decode cX6_store 57 = .ok (.iload_n 3, 1) := by decide +kernel
theorem dX6_store_58 : decode cX6_store 58 = .ok (.invokevirtual 72, 3) := by decide +kernel
theorem dX6_store_61 : decode cX6_store 61 = .ok (.iload 6, 2) := by decide +kernel
theorem dX6_store_63 : decode cX6_store 63 = .ok (.iconst (-1), 1) := by decide +kernel
theorem dX6_store_64 : decode cX6_store 64 = .ok (.ixor, 1) := by decide +kernel
theorem dX6_store_65 : decode cX6_store 65 = .ok (.iand, 1) := by decide +kernel
theorem dX6_store_66 : decode cX6_store 66 = .ok (.iload_n 2, 1) := by decide +kernel
theorem dX6_store_67 : decode cX6_store 67 = .ok (.iload 5, 2) := by decide +kernel
theorem dX6_store_69 : decode cX6_store 69 = .ok (.ishl, 1) := by decide +kernel
theorem dX6_store_70 : decode cX6_store 70 = .ok (.iload 6, 2) := by decide +kernel
theorem dX6_store_72 : decode cX6_store 72 = .ok (.iand, 1) := by decide +kernel
theorem dX6_store_73 : decode cX6_store 73 = .ok (.ior, 1) := by decide +kernel
theorem dX6_store_74 : decode cX6_store 74 = .ok (.invokevirtual 51, 3) := by decide +kernel
theorem tw_796 : (.code yX6_layWord cX6_layWord 4 none : Cond) ∈ tw_W := tw_in (t8_6 (List.mem_of_getElem? (i := 22) rfl)) rfl
theorem tw_797 : ∀ w ∈ ([.methodLink RX6 51 yX6_layWord, .instanceMethod yX6_layWord, .selects RX6 yX6_layWord yX6_layWord, .initialized RX6] : List Cond), w ∈ tw_W := al_c (tw_in (t8_6 (List.mem_of_getElem? (i := 19) rfl)) rfl) (al_c (tw_in (t8_6 (List.mem_of_getElem? (i := 20) rfl)) rfl) (al_c (tw_in (t8_6 (List.mem_of_getElem? (i := 21) rfl)) rfl) (al_c (tw_in (t8_1 (List.mem_of_getElem? (i := 14) rfl)) rfl) al_n)))
theorem dX6_store_77 : decode cX6_store 77 = .ok (.return_, 1) := by decide +kernel
theorem dX6_store_36 : decode cX6_store 36 = .ok (.iconst (-1), 1) := by decide +kernel
theorem dX6_store_37 : decode cX6_store 37 = .ok (.goto 12, 3) := by decide +kernel
theorem dX6_store_16 : decode cX6_store 16 = .ok (.aload_n 0, 1) := by decide +kernel
theorem dX6_store_17 : decode cX6_store 17 = .ok (.iconst 3, 1) := by decide +kernel
theorem dX6_store_18 : decode cX6_store 18 = .ok (.putfield 33, 3) := by decide +kernel
theorem dX6_store_21 : decode cX6_store 21 = .ok (.return_, 1) := by decide +kernel
set_option maxHeartbeats 4000000 in
set_option maxRecDepth 100000 in
theorem c_x_J6_compare_7cf53 (l : Launch) (dC : Nat → ClassId) (dI : Nat → Nat → Nat) (cI cB cZ cJ cR : ClassId) (tb : Nat → Nat) (sz : Nat) (pa : Int32) (pb : Int32)  : Met l yJ6_compare_7cf53 (Cond.code yJ6_compare_7cf53 cJ6_compare_7cf53 2 (some .int) :: tw_W) ({ frames := 0, cells := 0, slots := 0, locals := 0 }) (pc_ (dC, dI) (tyS cI cB cZ cJ cR) tb [] sz [.int pa, .int pb]) (qi_ (dC, dI) [] sz (fun (r : Int32) (u : Unit) => True) (fun (u : Unit) => [])) 0 0 (va_A [] sz) := by
  refine Met.ofW (cc := cJ6_compare_7cf53) (maxL := 2) (ret := (some .int)) (by decide) rfl ?_
  intro p e s m args below meth c s₁ B hml hv
  obtain ⟨rfl, hsz, hP, hKK, hD0, hFx⟩ := hv
  have hK := hKK.1
  have hx := B.exec
  have hb := B.bytes
  have hr := B.returns
  have ht : ∀ w ∈ tw_W, w.before _ s = true := fun w h => atoms_spec (ws := Cond.code yJ6_compare_7cf53 cJ6_compare_7cf53 2 (some .int) :: tw_W) B.pre w (List.mem_cons_of_mem _ h)
  have hown : s.vm.findClass RJ6 = some m.cls := findClass_of_methodNamed B.named
  have hlocks := B.notSynchronized
  subst hsz
  unfold qi_
  have hD := hD0.self (sz := s.heap.size)
  generalize hAe : va_A [] s.heap.size = A at hD hFx ⊢
  have hA : ∀ q : Nat, s.heap.size ≤ q → A q := fun q h => by rw [← hAe]; exact Or.inr h
  have hS : va_S A s.heap s.heap [] := va_S.rf
  have hl := lv_entry ([.int pa, .int pb]) (n := 2) (Nat.le_of_ble_eq_true rfl)
  rw [lg_entry_eq]
  generalize (lg_sl ([.int pa, .int pb]) ++ List.replicate (2 - (lg_sl ([.int pa, .int pb])).length) Slot.unset).toArray = ls at hl ⊢
  have hl : lv_has ls 2 [(0, .int pa), (1, .int pb)] := hl
  refine lv_iload_n hx hb dJ6_compare_7cf53_0 rfl (lv_at hl 0 rfl) ?_
  refine lv_iload_n hx hb dJ6_compare_7cf53_1 rfl (lv_at hl 1 rfl) ?_
  refine lv_icmp_ge (tgt := 9) hx hb dJ6_compare_7cf53_2 (by decide) (fun h1 => ?_) (fun h1 => ?_)
  · have z2 : pb.toInt ≤ pa.toInt := le_z rfl rfl h1
    refine lv_iload_n hx hb dJ6_compare_7cf53_9 rfl (lv_at hl 0 rfl) ?_
    refine lv_iload_n hx hb dJ6_compare_7cf53_10 rfl (lv_at hl 1 rfl) ?_
    refine lv_icmp_ne (tgt := 18) hx hb dJ6_compare_7cf53_11 (by decide) (fun h3 => ?_) (fun h3 => ?_)
    · have z4 : pa.toInt ≠ pb.toInt := ne_z rfl rfl h3
      refine lv_iconst (v := 1) hx hb dJ6_compare_7cf53_18 (by decide) ?_
      exact W.iret (v := 1) hx hb hr (fun t ht9 hW => ⟨⟨1, (), rfl, trivial, by rw [ht9]; exact hP, hD⟩, hS.F ht9⟩) hS.2.2 dJ6_compare_7cf53_19
    · have z5 : pa.toInt = pb.toInt := eq_z rfl rfl h3
      refine lv_iconst (v := 0) hx hb dJ6_compare_7cf53_14 (by decide) ?_
      refine lv_goto (tgt := 19) hx hb dJ6_compare_7cf53_15 (by decide) ?_
      exact W.iret (v := 0) hx hb hr (fun t ht9 hW => ⟨⟨0, (), rfl, trivial, by rw [ht9]; exact hP, hD⟩, hS.F ht9⟩) hS.2.2 dJ6_compare_7cf53_19
  · have z6 : pa.toInt < pb.toInt := nle_z rfl rfl h1
    refine lv_iconst (v := -1) hx hb dJ6_compare_7cf53_5 (by decide) ?_
    refine lv_goto (tgt := 19) hx hb dJ6_compare_7cf53_6 (by decide) ?_
    exact W.iret (v := (-1)) hx hb hr (fun t ht9 hW => ⟨⟨(-1), (), rfl, trivial, by rw [ht9]; exact hP, hD⟩, hS.F ht9⟩) hS.2.2 dJ6_compare_7cf53_19
set_option maxHeartbeats 4000000 in
set_option maxRecDepth 100000 in
theorem c_x_J6_compareUnsigned_7cf53 (l : Launch) (dC : Nat → ClassId) (dI : Nat → Nat → Nat) (cI cB cZ cJ cR : ClassId) (tb : Nat → Nat) (sz : Nat) (pa : Int32) (pb : Int32)  : Met l yJ6_compareUnsigned_7cf53 (Cond.code yJ6_compareUnsigned_7cf53 cJ6_compareUnsigned_7cf53 2 (some .int) :: tw_W) ({ frames := 1, cells := 0, slots := 0, locals := 21 }) (pc_ (dC, dI) (tyS cI cB cZ cJ cR) tb [] sz [.int pa, .int pb]) (qi_ (dC, dI) [] sz (fun (r : Int32) (u : Unit) => True) (fun (u : Unit) => [])) 0 0 (va_A [] sz) := by
  refine Met.ofW (cc := cJ6_compareUnsigned_7cf53) (maxL := 2) (ret := (some .int)) (by decide) rfl ?_
  intro p e s m args below meth c s₁ B hml hv
  obtain ⟨rfl, hsz, hP, hKK, hD0, hFx⟩ := hv
  have hK := hKK.1
  have hx := B.exec
  have hb := B.bytes
  have hr := B.returns
  have ht : ∀ w ∈ tw_W, w.before _ s = true := fun w h => atoms_spec (ws := Cond.code yJ6_compareUnsigned_7cf53 cJ6_compareUnsigned_7cf53 2 (some .int) :: tw_W) B.pre w (List.mem_cons_of_mem _ h)
  have hown : s.vm.findClass RJ6 = some m.cls := findClass_of_methodNamed B.named
  have hlocks := B.notSynchronized
  subst hsz
  unfold qi_
  have hD := hD0.self (sz := s.heap.size)
  generalize hAe : va_A [] s.heap.size = A at hD hFx ⊢
  have hA : ∀ q : Nat, s.heap.size ≤ q → A q := fun q h => by rw [← hAe]; exact Or.inr h
  have hS : va_S A s.heap s.heap [] := va_S.rf
  have hl := lv_entry ([.int pa, .int pb]) (n := 2) (Nat.le_of_ble_eq_true rfl)
  rw [lg_entry_eq]
  generalize (lg_sl ([.int pa, .int pb]) ++ List.replicate (2 - (lg_sl ([.int pa, .int pb])).length) Slot.unset).toArray = ls at hl ⊢
  have hl : lv_has ls 2 [(0, .int pa), (1, .int pb)] := hl
  refine lv_iload_n hx hb dJ6_compareUnsigned_7cf53_0 rfl (lv_at hl 0 rfl) ?_
  refine lv_ldc (v := -2147483648) hx hb hown (ht _ tw_771) dJ6_compareUnsigned_7cf53_1 ?_
  refine lv_iadd hx hb dJ6_compareUnsigned_7cf53_3 ?_
  refine lv_iload_n hx hb dJ6_compareUnsigned_7cf53_4 rfl (lv_at hl 1 rfl) ?_
  refine lv_ldc (v := -2147483648) hx hb hown (ht _ tw_771) dJ6_compareUnsigned_7cf53_5 ?_
  refine lv_iadd hx hb dJ6_compareUnsigned_7cf53_7 ?_
  refine cu_i (rn_S (n := 2) (As := [.int (pa + ((-2147483648) : Int32)), .int (pb + ((-2147483648) : Int32))]) (rest := []) hx hb hml hown ht hKK hFx hP hD hS hA (c_x_J6_compare_7cf53 l dC dI cI cB cZ cJ cR tb s.heap.size (pa + ((-2147483648) : Int32)) (pb + ((-2147483648) : Int32)) ) tw_772 tw_773 (by decide +kernel) rfl rfl ⟨Nat.le_of_ble_eq_true rfl, Nat.le_of_ble_eq_true rfl⟩ [] rfl rfl rfl hl.1 rfl (Nat.le_of_ble_eq_true rfl) dJ6_compareUnsigned_7cf53_8 ⟨Nat.le_of_ble_eq_true rfl, Nat.le_of_ble_eq_true rfl⟩) hP hD hS hA (fun r3 _ H locs hw1 hP hD hS => ?_)
  refine W.widen (k := 0) (n := 0) (Nat.le_refl _) (Nat.le_refl _) ?_
  exact W.iret (v := r3) hx hb hr (fun t ht9 hW => ⟨⟨r3, (), rfl, trivial, by rw [ht9]; exact hP, hD⟩, hS.F ht9⟩) hS.2.2 dJ6_compareUnsigned_7cf53_11
theorem om_487f70b648 {x0 x1 : Int} {n2 : Nat} (h0 : x0 = x1 + 1) : (n2 : Int) - x0 < (n2 : Int) - x1 := by omega
set_option maxHeartbeats 4000000 in
set_option maxRecDepth 100000 in
theorem c_x_fill346 (l : Launch) (dC : Nat → ClassId) (dI : Nat → Nat → Nat) (cI cB cZ cJ cR : ClassId) (tb : Nat → Nat) (sz : Nat) (ad : Nat → Nat) (pr : Int32 → Nat) (N : Nat) (L1 L2 : List Nat) (v : MS) (pa : Int32) (zNN : (N : Int) ≤ 4096) : Met l yJ7_fill_53178 (Cond.code yJ7_fill_53178 cJ7_fill_53178 4 none :: tw_W) ({ frames := 0, cells := 0, slots := 0, locals := 0 }) (pc_ (dC, dI) (tyS cI cB cZ cJ cR) tb (cW ad pr N cI cR L1 L2 v) sz [.ref (ad 346), .int pa]) (qv_ (dC, dI) (cW ad pr N cI cR L1 L2 v) sz (fun (u : MS) => FC [] [346] v u ∧ (RS0 v u)) (fun (u : MS) => (cW ad pr N cI cR L1 L2 u))) 0 0 (va_A (cW ad pr N cI cR L1 L2 v) sz) := by
  refine Met.ofW (cc := cJ7_fill_53178) (maxL := 4) (ret := none) (by decide) rfl ?_
  intro p e s m args below meth c s₁ B hml hv
  obtain ⟨rfl, hsz, hP, hKK, hD0, hFx⟩ := hv
  have hK := hKK.1
  have hx := B.exec
  have hb := B.bytes
  have hr := B.returns
  have ht : ∀ w ∈ tw_W, w.before _ s = true := fun w h => atoms_spec (ws := Cond.code yJ7_fill_53178 cJ7_fill_53178 4 none :: tw_W) B.pre w (List.mem_cons_of_mem _ h)
  have hown : s.vm.findClass RJ7 = some m.cls := findClass_of_methodNamed B.named
  have hlocks := B.notSynchronized
  subst hsz
  unfold qv_
  have hD := hD0.self (sz := s.heap.size)
  generalize hAe : va_A (cW ad pr N cI cR L1 L2 v) s.heap.size = A at hD hFx ⊢
  have hA : ∀ q : Nat, s.heap.size ≤ q → A q := fun q h => by rw [← hAe]; exact Or.inr h
  have hS : va_S A s.heap s.heap [] := va_S.rf
  have hl := lv_entry ([.ref (ad 346), .int pa]) (n := 4) (Nat.le_of_ble_eq_true rfl)
  rw [lg_entry_eq]
  generalize (lg_sl ([.ref (ad 346), .int pa]) ++ List.replicate (4 - (lg_sl ([.ref (ad 346), .int pa])).length) Slot.unset).toArray = ls at hl ⊢
  have hl : lv_has ls 4 [(0, .ref (ad 346)), (1, .int pa)] := hl
  refine lv_iconst (v := 0) hx hb dJ7_fill_53178_0 (by decide) ?_
  refine lv_istore_n (lv' := [(2, .int 0), (0, .ref (ad 346)), (1, .int pa)]) hx hb dJ7_fill_53178_1 rfl hl (by decide) rfl (fun ls hl => ?_)
  refine lv_aload_n hx hb dJ7_fill_53178_2 rfl (lv_at hl 1 rfl) ?_
  refine va_alen (D := (dC, dI)) (v := (nI N)) hx hb hK hP 22 0 rfl rfl rfl dJ7_fill_53178_3 ?_
  have zN1 : (nI N).toInt = (N : Int) := nI_N (by have := (om_1c2c49c46c zNN); omega)
  refine lv_istore_n (lv' := [(3, .int (nI N)), (2, .int 0), (0, .ref (ad 346)), (1, .int pa)]) hx hb dJ7_fill_53178_4 rfl hl (by decide) rfl (fun ls hl => ?_)
  refine lpm_ (X := Int32 × MS) (P := (fun (x9 : Int32 × MS) (H : Heap) (locs : List Loc) (ls : Array Slot) => (FC [] [346] v x9.2) ∧ (0 ≤ x9.1.toInt) ∧ (RS0 v x9.2) ∧ va_P (dC, dI) vwCl (cW ad pr N cI cR L1 L2 x9.2) H ∧ va_D A (cW ad pr N cI cR L1 L2 x9.2) ∧ va_S A s.heap H locs ∧ lv_has ls 4 [(3, .int (nI N)), (2, .int x9.1), (0, .ref (ad 346)), (1, .int pa)])) (fun x9 => ((N : Int) - x9.1.toInt).toNat) 5 (fun x9 H locs ls hh ih5 => ?_) (0, v) _ _ _ ⟨(show FC [] [346] v v from (FC.rf _)), (show 0 ≤ (0 : Int) from om_342087eeda), (show RS0 v v from RS0.rf), hP, hD, hS, lv_sub hl [0, 1, 2, 3] rfl⟩
  obtain ⟨ka, w5⟩ := x9
  obtain ⟨fwL5, f1L5, rsL5, hP, hD, hS, hl⟩ := hh
  have fwL5 : FC [] [346] v w5 := fwL5
  have f1L5 : 0 ≤ ka.toInt := f1L5
  have rsL5 : RS0 v w5 := rsL5
  have hP : va_P (dC, dI) vwCl (cW ad pr N cI cR L1 L2 w5) H := hP
  have hD : va_D A (cW ad pr N cI cR L1 L2 w5) := hD
  have hl : lv_has ls 4 [(3, .int (nI N)), (2, .int ka), (0, .ref (ad 346)), (1, .int pa)] := hl
  refine lv_iload_n hx hb dJ7_fill_53178_5 rfl (lv_at hl 1 rfl) ?_
  refine lv_iload_n hx hb dJ7_fill_53178_6 rfl (lv_at hl 0 rfl) ?_
  refine lv_icmp_ge (tgt := 20) hx hb dJ7_fill_53178_7 (by decide) (fun h2 => ?_) (fun h2 => ?_)
  · have z3 : (nI N).toInt ≤ ka.toInt := le_z rfl rfl h2
    exact W.vret hx hb hr (fun t ht9 hW => ⟨⟨w5, rfl, ⟨(FC.tr (FC.rf _) (FC.up fwL5 (by decide) (by decide))), (RS0.tr RS0.rf rsL5)⟩, by rw [ht9]; exact hP, hD⟩, hS.F ht9⟩) hS.2.2 dJ7_fill_53178_20
  · have z4 : ka.toInt < (nI N).toInt := nle_z rfl rfl h2
    refine lv_aload_n hx hb dJ7_fill_53178_10 rfl (lv_at hl 2 rfl) ?_
    refine lv_iload_n hx hb dJ7_fill_53178_11 rfl (lv_at hl 1 rfl) ?_
    refine lv_iload_n hx hb dJ7_fill_53178_12 rfl (lv_at hl 3 rfl) ?_
    refine va_iast (D := (dC, dI)) (f := (w5.1 346)) hx hb hK hP hD hS 22 0 rfl rfl (in_y (a := ka.toInt) (b := (N : Int)) rfl (om_e4afbc3aeb f1L5) (om_267f7d2370 zN1 z4) rfl) dJ7_fill_53178_13 (fun H locs hP hD hS => ?_)
    have hP := cP_ (cq_346 ad pr N cI cR L1 L2 w5 ka.toNatClampNeg pa) hP
    have hD := cD_ (cq_346 ad pr N cI cR L1 L2 w5 ka.toNatClampNeg pa) hD
    refine lv_iinc (v := (ka + (1 : Int32))) (lv' := [(2, .int (ka + (1 : Int32))), (3, .int (nI N)), (0, .ref (ad 346)), (1, .int pa)]) hx hb dJ7_fill_53178_14 hl (k := 1) rfl (rfl) (by decide) rfl (fun ls hl => ?_)
    have z5 : (ka + (1 : Int32)).toInt = ka.toInt + 1 := inc_lt z4
    refine lv_goto (tgt := 5) hx hb dJ7_fill_53178_17 (by decide) ?_
    exact ih5 ((ka + (1 : Int32)), (wA w5 346 ka.toNatClampNeg pa)) _ _ _ (show ((N : Int) - (ka + (1 : Int32)).toInt).toNat < ((N : Int) - ka.toInt).toNat from tn_z (om_487f70b648 z5) (om_b6d126698a zN1 z4)) ⟨(show FC [] [346] v (wA w5 346 ka.toNatClampNeg pa) from (FC.a (FC.tr (FC.rf _) (FC.up fwL5 (by decide) (by decide))) ka.toNatClampNeg pa (by decide) (by decide))), (show 0 ≤ (ka + (1 : Int32)).toInt from (om_db977a0953 f1L5 z5)), (show RS0 v (wA w5 346 ka.toNatClampNeg pa) from (RS0.w (RS0.tr RS0.rf rsL5) (by decide))), hP, hD, hS, lv_sub hl [1, 0, 2, 3] rfl⟩
set_option maxHeartbeats 4000000 in
set_option maxRecDepth 100000 in
theorem c_x_fill347 (l : Launch) (dC : Nat → ClassId) (dI : Nat → Nat → Nat) (cI cB cZ cJ cR : ClassId) (tb : Nat → Nat) (sz : Nat) (ad : Nat → Nat) (pr : Int32 → Nat) (N : Nat) (L1 L2 : List Nat) (v : MS) (pa : Int32)  : Met l yJ7_fill_53178 (Cond.code yJ7_fill_53178 cJ7_fill_53178 4 none :: tw_W) ({ frames := 0, cells := 0, slots := 0, locals := 0 }) (pc_ (dC, dI) (tyS cI cB cZ cJ cR) tb (cW ad pr N cI cR L1 L2 v) sz [.ref (ad 347), .int pa]) (qv_ (dC, dI) (cW ad pr N cI cR L1 L2 v) sz (fun (u : MS) => FC [] [347] v u ∧ (RS0 v u)) (fun (u : MS) => (cW ad pr N cI cR L1 L2 u))) 0 0 (va_A (cW ad pr N cI cR L1 L2 v) sz) := by
  refine Met.ofW (cc := cJ7_fill_53178) (maxL := 4) (ret := none) (by decide) rfl ?_
  intro p e s m args below meth c s₁ B hml hv
  obtain ⟨rfl, hsz, hP, hKK, hD0, hFx⟩ := hv
  have hK := hKK.1
  have hx := B.exec
  have hb := B.bytes
  have hr := B.returns
  have ht : ∀ w ∈ tw_W, w.before _ s = true := fun w h => atoms_spec (ws := Cond.code yJ7_fill_53178 cJ7_fill_53178 4 none :: tw_W) B.pre w (List.mem_cons_of_mem _ h)
  have hown : s.vm.findClass RJ7 = some m.cls := findClass_of_methodNamed B.named
  have hlocks := B.notSynchronized
  subst hsz
  unfold qv_
  have hD := hD0.self (sz := s.heap.size)
  generalize hAe : va_A (cW ad pr N cI cR L1 L2 v) s.heap.size = A at hD hFx ⊢
  have hA : ∀ q : Nat, s.heap.size ≤ q → A q := fun q h => by rw [← hAe]; exact Or.inr h
  have hS : va_S A s.heap s.heap [] := va_S.rf
  have hl := lv_entry ([.ref (ad 347), .int pa]) (n := 4) (Nat.le_of_ble_eq_true rfl)
  rw [lg_entry_eq]
  generalize (lg_sl ([.ref (ad 347), .int pa]) ++ List.replicate (4 - (lg_sl ([.ref (ad 347), .int pa])).length) Slot.unset).toArray = ls at hl ⊢
  have hl : lv_has ls 4 [(0, .ref (ad 347)), (1, .int pa)] := hl
  refine lv_iconst (v := 0) hx hb dJ7_fill_53178_0 (by decide) ?_
  refine lv_istore_n (lv' := [(2, .int 0), (0, .ref (ad 347)), (1, .int pa)]) hx hb dJ7_fill_53178_1 rfl hl (by decide) rfl (fun ls hl => ?_)
  refine lv_aload_n hx hb dJ7_fill_53178_2 rfl (lv_at hl 1 rfl) ?_
  refine va_alen (D := (dC, dI)) (v := 32) hx hb hK hP 23 0 rfl rfl rfl dJ7_fill_53178_3 ?_
  refine lv_istore_n (lv' := [(3, .int 32), (2, .int 0), (0, .ref (ad 347)), (1, .int pa)]) hx hb dJ7_fill_53178_4 rfl hl (by decide) rfl (fun ls hl => ?_)
  refine lpm_ (X := Int32 × MS) (P := (fun (x9 : Int32 × MS) (H : Heap) (locs : List Loc) (ls : Array Slot) => (FC [] [347] v x9.2) ∧ (0 ≤ x9.1.toInt) ∧ (RS0 v x9.2) ∧ va_P (dC, dI) vwCl (cW ad pr N cI cR L1 L2 x9.2) H ∧ va_D A (cW ad pr N cI cR L1 L2 x9.2) ∧ va_S A s.heap H locs ∧ lv_has ls 4 [(3, .int 32), (2, .int x9.1), (0, .ref (ad 347)), (1, .int pa)])) (fun x9 => (32 - x9.1.toInt).toNat) 5 (fun x9 H locs ls hh ih5 => ?_) (0, v) _ _ _ ⟨(show FC [] [347] v v from (FC.rf _)), (show 0 ≤ (0 : Int) from om_342087eeda), (show RS0 v v from RS0.rf), hP, hD, hS, lv_sub hl [0, 1, 2, 3] rfl⟩
  obtain ⟨ka, w5⟩ := x9
  obtain ⟨fwL5, f1L5, rsL5, hP, hD, hS, hl⟩ := hh
  have fwL5 : FC [] [347] v w5 := fwL5
  have f1L5 : 0 ≤ ka.toInt := f1L5
  have rsL5 : RS0 v w5 := rsL5
  have hP : va_P (dC, dI) vwCl (cW ad pr N cI cR L1 L2 w5) H := hP
  have hD : va_D A (cW ad pr N cI cR L1 L2 w5) := hD
  have hl : lv_has ls 4 [(3, .int 32), (2, .int ka), (0, .ref (ad 347)), (1, .int pa)] := hl
  refine lv_iload_n hx hb dJ7_fill_53178_5 rfl (lv_at hl 1 rfl) ?_
  refine lv_iload_n hx hb dJ7_fill_53178_6 rfl (lv_at hl 0 rfl) ?_
  refine lv_icmp_ge (tgt := 20) hx hb dJ7_fill_53178_7 (by decide) (fun h1 => ?_) (fun h1 => ?_)
  · have z2 : (32 : Int) ≤ ka.toInt := le_z (show (32 : Int32).toInt = (32 : Int) by decide) rfl h1
    exact W.vret hx hb hr (fun t ht9 hW => ⟨⟨w5, rfl, ⟨(FC.tr (FC.rf _) (FC.up fwL5 (by decide) (by decide))), (RS0.tr RS0.rf rsL5)⟩, by rw [ht9]; exact hP, hD⟩, hS.F ht9⟩) hS.2.2 dJ7_fill_53178_20
  · have z3 : ka.toInt < (32 : Int) := nle_z (show (32 : Int32).toInt = (32 : Int) by decide) rfl h1
    refine lv_aload_n hx hb dJ7_fill_53178_10 rfl (lv_at hl 2 rfl) ?_
    refine lv_iload_n hx hb dJ7_fill_53178_11 rfl (lv_at hl 1 rfl) ?_
    refine lv_iload_n hx hb dJ7_fill_53178_12 rfl (lv_at hl 3 rfl) ?_
    refine va_iast (D := (dC, dI)) (f := (w5.1 347)) hx hb hK hP hD hS 23 0 rfl rfl (in_y (a := ka.toInt) (b := 32) rfl (om_e4afbc3aeb f1L5) (om_93bf70215e z3) rfl) dJ7_fill_53178_13 (fun H locs hP hD hS => ?_)
    have hP := cP_ (cq_347 ad pr N cI cR L1 L2 w5 ka.toNatClampNeg pa) hP
    have hD := cD_ (cq_347 ad pr N cI cR L1 L2 w5 ka.toNatClampNeg pa) hD
    refine lv_iinc (v := (ka + (1 : Int32))) (lv' := [(2, .int (ka + (1 : Int32))), (3, .int 32), (0, .ref (ad 347)), (1, .int pa)]) hx hb dJ7_fill_53178_14 hl (k := 1) rfl (rfl) (by decide) rfl (fun ls hl => ?_)
    have z4 : (ka + (1 : Int32)).toInt = ka.toInt + (1 : Int) := add_z rfl (show (1 : Int32).toInt = (1 : Int) by decide) (om_d64a792b2e f1L5) (om_e3462c9acc z3)
    refine lv_goto (tgt := 5) hx hb dJ7_fill_53178_17 (by decide) ?_
    exact ih5 ((ka + (1 : Int32)), (wA w5 347 ka.toNatClampNeg pa)) _ _ _ (show (32 - (ka + (1 : Int32)).toInt).toNat < (32 - ka.toInt).toNat from tn_z (om_136be6f9b9 z4) (om_e988eed439 z3)) ⟨(show FC [] [347] v (wA w5 347 ka.toNatClampNeg pa) from (FC.a (FC.tr (FC.rf _) (FC.up fwL5 (by decide) (by decide))) ka.toNatClampNeg pa (by decide) (by decide))), (show 0 ≤ (ka + (1 : Int32)).toInt from (om_d99f09c756 f1L5 z4)), (show RS0 v (wA w5 347 ka.toNatClampNeg pa) from (RS0.w (RS0.tr RS0.rf rsL5) (by decide))), hP, hD, hS, lv_sub hl [1, 0, 2, 3] rfl⟩
set_option maxHeartbeats 4000000 in
set_option maxRecDepth 100000 in
theorem c_x_fill359 (l : Launch) (dC : Nat → ClassId) (dI : Nat → Nat → Nat) (cI cB cZ cJ cR : ClassId) (tb : Nat → Nat) (sz : Nat) (ad : Nat → Nat) (pr : Int32 → Nat) (N : Nat) (L1 L2 : List Nat) (v : MS) (pa : Int32) (zNN : (N : Int) ≤ 4096) : Met l yJ7_fill_53178 (Cond.code yJ7_fill_53178 cJ7_fill_53178 4 none :: tw_W) ({ frames := 0, cells := 0, slots := 0, locals := 0 }) (pc_ (dC, dI) (tyS cI cB cZ cJ cR) tb (cW ad pr N cI cR L1 L2 v) sz [.ref (ad 359), .int pa]) (qv_ (dC, dI) (cW ad pr N cI cR L1 L2 v) sz (fun (u : MS) => FC [] [359] v u ∧ (Q_x_fill359 L1 L2 N v pa u) ∧ (RS0 v u)) (fun (u : MS) => (cW ad pr N cI cR L1 L2 u))) 0 0 (va_A (cW ad pr N cI cR L1 L2 v) sz) := by
  refine Met.ofW (cc := cJ7_fill_53178) (maxL := 4) (ret := none) (by decide) rfl ?_
  intro p e s m args below meth c s₁ B hml hv
  obtain ⟨rfl, hsz, hP, hKK, hD0, hFx⟩ := hv
  have hK := hKK.1
  have hx := B.exec
  have hb := B.bytes
  have hr := B.returns
  have ht : ∀ w ∈ tw_W, w.before _ s = true := fun w h => atoms_spec (ws := Cond.code yJ7_fill_53178 cJ7_fill_53178 4 none :: tw_W) B.pre w (List.mem_cons_of_mem _ h)
  have hown : s.vm.findClass RJ7 = some m.cls := findClass_of_methodNamed B.named
  have hlocks := B.notSynchronized
  subst hsz
  unfold qv_
  have hD := hD0.self (sz := s.heap.size)
  generalize hAe : va_A (cW ad pr N cI cR L1 L2 v) s.heap.size = A at hD hFx ⊢
  have hA : ∀ q : Nat, s.heap.size ≤ q → A q := fun q h => by rw [← hAe]; exact Or.inr h
  have hS : va_S A s.heap s.heap [] := va_S.rf
  have hl := lv_entry ([.ref (ad 359), .int pa]) (n := 4) (Nat.le_of_ble_eq_true rfl)
  rw [lg_entry_eq]
  generalize (lg_sl ([.ref (ad 359), .int pa]) ++ List.replicate (4 - (lg_sl ([.ref (ad 359), .int pa])).length) Slot.unset).toArray = ls at hl ⊢
  have hl : lv_has ls 4 [(0, .ref (ad 359)), (1, .int pa)] := hl
  refine lv_iconst (v := 0) hx hb dJ7_fill_53178_0 (by decide) ?_
  refine lv_istore_n (lv' := [(2, .int 0), (0, .ref (ad 359)), (1, .int pa)]) hx hb dJ7_fill_53178_1 rfl hl (by decide) rfl (fun ls hl => ?_)
  refine lv_aload_n hx hb dJ7_fill_53178_2 rfl (lv_at hl 1 rfl) ?_
  refine va_alen (D := (dC, dI)) (v := (nI N)) hx hb hK hP 26 0 rfl rfl rfl dJ7_fill_53178_3 ?_
  have zN1 : (nI N).toInt = (N : Int) := nI_N (by have := (om_1c2c49c46c zNN); omega)
  refine lv_istore_n (lv' := [(3, .int (nI N)), (2, .int 0), (0, .ref (ad 359)), (1, .int pa)]) hx hb dJ7_fill_53178_4 rfl hl (by decide) rfl (fun ls hl => ?_)
  refine lpm_ (X := Int32 × MS) (P := (fun (x9 : Int32 × MS) (H : Heap) (locs : List Loc) (ls : Array Slot) => (FC [] [359] v x9.2) ∧ (0 ≤ x9.1.toInt) ∧ (RS0 v x9.2) ∧ (RT (Q_x_fill359_L0 N v pa) (0, v) (x9.1, x9.2)) ∧ va_P (dC, dI) vwCl (cW ad pr N cI cR L1 L2 x9.2) H ∧ va_D A (cW ad pr N cI cR L1 L2 x9.2) ∧ va_S A s.heap H locs ∧ lv_has ls 4 [(3, .int (nI N)), (2, .int x9.1), (0, .ref (ad 359)), (1, .int pa)])) (fun x9 => ((N : Int) - x9.1.toInt).toNat) 5 (fun x9 H locs ls hh ih5 => ?_) (0, v) _ _ _ ⟨(show FC [] [359] v v from (FC.rf _)), (show 0 ≤ (0 : Int) from om_342087eeda), (show RS0 v v from RS0.rf), RT.rf, hP, hD, hS, lv_sub hl [0, 1, 2, 3] rfl⟩
  obtain ⟨ka, w5⟩ := x9
  obtain ⟨fwL5, f1L5, rsL5, exL5, hP, hD, hS, hl⟩ := hh
  have fwL5 : FC [] [359] v w5 := fwL5
  have f1L5 : 0 ≤ ka.toInt := f1L5
  have rsL5 : RS0 v w5 := rsL5
  have hP : va_P (dC, dI) vwCl (cW ad pr N cI cR L1 L2 w5) H := hP
  have hD : va_D A (cW ad pr N cI cR L1 L2 w5) := hD
  have hl : lv_has ls 4 [(3, .int (nI N)), (2, .int ka), (0, .ref (ad 359)), (1, .int pa)] := hl
  refine lv_iload_n hx hb dJ7_fill_53178_5 rfl (lv_at hl 1 rfl) ?_
  refine lv_iload_n hx hb dJ7_fill_53178_6 rfl (lv_at hl 0 rfl) ?_
  refine lv_icmp_ge (tgt := 20) hx hb dJ7_fill_53178_7 (by decide) (fun h2 => ?_) (fun h2 => ?_)
  · have z3 : (nI N).toInt ≤ ka.toInt := le_z rfl rfl h2
    exact W.vret hx hb hr (fun t ht9 hW => ⟨⟨w5, rfl, ⟨(FC.tr (FC.rf _) (FC.up fwL5 (by decide) (by decide))), ⟨ka, w5, exL5, fwL5, f1L5, rsL5, z3, rfl⟩, (RS0.tr RS0.rf rsL5)⟩, by rw [ht9]; exact hP, hD⟩, hS.F ht9⟩) hS.2.2 dJ7_fill_53178_20
  · have z4 : ka.toInt < (nI N).toInt := nle_z rfl rfl h2
    refine lv_aload_n hx hb dJ7_fill_53178_10 rfl (lv_at hl 2 rfl) ?_
    refine lv_iload_n hx hb dJ7_fill_53178_11 rfl (lv_at hl 1 rfl) ?_
    refine lv_iload_n hx hb dJ7_fill_53178_12 rfl (lv_at hl 3 rfl) ?_
    refine va_iast (D := (dC, dI)) (f := (w5.1 359)) hx hb hK hP hD hS 26 0 rfl rfl (in_y (a := ka.toInt) (b := (N : Int)) rfl (om_e4afbc3aeb f1L5) (om_267f7d2370 zN1 z4) rfl) dJ7_fill_53178_13 (fun H locs hP hD hS => ?_)
    have hP := cP_ (cq_359 ad pr N cI cR L1 L2 w5 ka.toNatClampNeg pa) hP
    have hD := cD_ (cq_359 ad pr N cI cR L1 L2 w5 ka.toNatClampNeg pa) hD
    refine lv_iinc (v := (ka + (1 : Int32))) (lv' := [(2, .int (ka + (1 : Int32))), (3, .int (nI N)), (0, .ref (ad 359)), (1, .int pa)]) hx hb dJ7_fill_53178_14 hl (k := 1) rfl (rfl) (by decide) rfl (fun ls hl => ?_)
    have z5 : (ka + (1 : Int32)).toInt = ka.toInt + 1 := inc_lt z4
    refine lv_goto (tgt := 5) hx hb dJ7_fill_53178_17 (by decide) ?_
    exact ih5 ((ka + (1 : Int32)), (wA w5 359 ka.toNatClampNeg pa)) _ _ _ (show ((N : Int) - (ka + (1 : Int32)).toInt).toNat < ((N : Int) - ka.toInt).toNat from tn_z (om_487f70b648 z5) (om_b6d126698a zN1 z4)) ⟨(show FC [] [359] v (wA w5 359 ka.toNatClampNeg pa) from (FC.a (FC.tr (FC.rf _) (FC.up fwL5 (by decide) (by decide))) ka.toNatClampNeg pa (by decide) (by decide))), (show 0 ≤ (ka + (1 : Int32)).toInt from (om_db977a0953 f1L5 z5)), (show RS0 v (wA w5 359 ka.toNatClampNeg pa) from (RS0.w (RS0.tr RS0.rf rsL5) (by decide))), (RT.st exL5 ⟨fwL5, f1L5, rsL5, z4, rfl⟩), hP, hD, hS, lv_sub hl [1, 0, 2, 3] rfl⟩
set_option maxHeartbeats 4000000 in
set_option maxRecDepth 100000 in
theorem c_x_X6_size (l : Launch) (dC : Nat → ClassId) (dI : Nat → Nat → Nat) (cI cB cZ cJ cR : ClassId) (tb : Nat → Nat) (sz : Nat) (ad : Nat → Nat) (pr : Int32 → Nat) (N : Nat) (L1 L2 : List Nat) (v : MS)  (zNN : (N : Int) ≤ 4096) : Met l yX6_size (Cond.code yX6_size cX6_size 1 (some .int) :: tw_W) ({ frames := 0, cells := 0, slots := 0, locals := 0 }) (pc_ (dC, dI) (tyS cI cB cZ cJ cR) tb (cW ad pr N cI cR L1 L2 v) sz [.ref (ad 906)]) (qi_ (dC, dI) (cW ad pr N cI cR L1 L2 v) sz (fun (r : Int32) (u : MS) => v = u) (fun (u : MS) => (cW ad pr N cI cR L1 L2 u))) 0 0 (va_A (cW ad pr N cI cR L1 L2 v) sz) := by
  refine Met.ofW (cc := cX6_size) (maxL := 1) (ret := (some .int)) (by decide) rfl ?_
  intro p e s m args below meth c s₁ B hml hv
  obtain ⟨rfl, hsz, hP, hKK, hD0, hFx⟩ := hv
  have hK := hKK.1
  have hx := B.exec
  have hb := B.bytes
  have hr := B.returns
  have ht : ∀ w ∈ tw_W, w.before _ s = true := fun w h => atoms_spec (ws := Cond.code yX6_size cX6_size 1 (some .int) :: tw_W) B.pre w (List.mem_cons_of_mem _ h)
  have hown : s.vm.findClass RX6 = some m.cls := findClass_of_methodNamed B.named
  have hlocks := B.notSynchronized
  subst hsz
  unfold qi_
  have hD := hD0.self (sz := s.heap.size)
  generalize hAe : va_A (cW ad pr N cI cR L1 L2 v) s.heap.size = A at hD hFx ⊢
  have hA : ∀ q : Nat, s.heap.size ≤ q → A q := fun q h => by rw [← hAe]; exact Or.inr h
  have hS : va_S A s.heap s.heap [] := va_S.rf
  have hl := lv_entry ([.ref (ad 906)]) (n := 1) (Nat.le_of_ble_eq_true rfl)
  rw [lg_entry_eq]
  generalize (lg_sl ([.ref (ad 906)]) ++ List.replicate (1 - (lg_sl ([.ref (ad 906)])).length) Slot.unset).toArray = ls at hl ⊢
  have hl : lv_has ls 1 [(0, .ref (ad 906))] := hl
  refine lv_aload_n hx hb dX6_size_0 rfl (lv_at hl 0 rfl) ?_
  refine va_get (D := (dC, dI)) (ci := 9) (fs := oF_X6 ad pr v) (v := .ref (ad 346)) (C := RX6) (T := TX6) (N := 9) hx hb ht itX6 hown hK hP 6 rfl rfl 0 (by decide) (ht _ tw_774) (fun _ h9 => h9) rfl dX6_size_1 ?_
  refine va_alen (D := (dC, dI)) (v := (nI N)) hx hb hK hP 22 0 rfl rfl rfl dX6_size_4 ?_
  have zN1 : (nI N).toInt = (N : Int) := nI_N (by have := (om_1c2c49c46c zNN); omega)
  exact W.iret (v := (nI N)) hx hb hr (fun t ht9 hW => ⟨⟨(nI N), v, rfl, rfl, by rw [ht9]; exact hP, hD⟩, hS.F ht9⟩) hS.2.2 dX6_size_5
set_option maxHeartbeats 4000000 in
set_option maxRecDepth 100000 in
theorem c_x_X6_valueOf (l : Launch) (dC : Nat → ClassId) (dI : Nat → Nat → Nat) (cI cB cZ cJ cR : ClassId) (tb : Nat → Nat) (sz : Nat) (ad : Nat → Nat) (pr : Int32 → Nat) (N : Nat) (L1 L2 : List Nat) (v : MS) (pa : Int32)  : Met l yX6_valueOf (Cond.code yX6_valueOf cX6_valueOf 2 (some .int) :: tw_W) ({ frames := 0, cells := 0, slots := 0, locals := 0 }) (pc_ (dC, dI) (tyS cI cB cZ cJ cR) tb (cW ad pr N cI cR L1 L2 v) sz [.ref (ad 906), .int pa]) (qi_ (dC, dI) (cW ad pr N cI cR L1 L2 v) sz (fun (r : Int32) (u : MS) => v = u) (fun (u : MS) => (cW ad pr N cI cR L1 L2 u))) 0 0 (va_A (cW ad pr N cI cR L1 L2 v) sz) := by
  refine Met.ofW (cc := cX6_valueOf) (maxL := 2) (ret := (some .int)) (by decide) rfl ?_
  intro p e s m args below meth c s₁ B hml hv
  obtain ⟨rfl, hsz, hP, hKK, hD0, hFx⟩ := hv
  have hK := hKK.1
  have hx := B.exec
  have hb := B.bytes
  have hr := B.returns
  have ht : ∀ w ∈ tw_W, w.before _ s = true := fun w h => atoms_spec (ws := Cond.code yX6_valueOf cX6_valueOf 2 (some .int) :: tw_W) B.pre w (List.mem_cons_of_mem _ h)
  have hown : s.vm.findClass RX6 = some m.cls := findClass_of_methodNamed B.named
  have hlocks := B.notSynchronized
  subst hsz
  unfold qi_
  have hD := hD0.self (sz := s.heap.size)
  generalize hAe : va_A (cW ad pr N cI cR L1 L2 v) s.heap.size = A at hD hFx ⊢
  have hA : ∀ q : Nat, s.heap.size ≤ q → A q := fun q h => by rw [← hAe]; exact Or.inr h
  have hS : va_S A s.heap s.heap [] := va_S.rf
  have hl := lv_entry ([.ref (ad 906), .int pa]) (n := 2) (Nat.le_of_ble_eq_true rfl)
  rw [lg_entry_eq]
  generalize (lg_sl ([.ref (ad 906), .int pa]) ++ List.replicate (2 - (lg_sl ([.ref (ad 906), .int pa])).length) Slot.unset).toArray = ls at hl ⊢
  have hl : lv_has ls 2 [(0, .ref (ad 906)), (1, .int pa)] := hl
  refine lv_aload_n hx hb dX6_valueOf_0 rfl (lv_at hl 0 rfl) ?_
  refine va_get (D := (dC, dI)) (ci := 9) (fs := oF_X6 ad pr v) (v := .ref (ad 347)) (C := RX6) (T := TX6) (N := 9) hx hb ht itX6 hown hK hP 6 rfl rfl 1 (by decide) (ht _ tw_775) (fun _ h9 => h9) rfl dX6_valueOf_1 ?_
  refine lv_iload_n hx hb dX6_valueOf_4 rfl (lv_at hl 1 rfl) ?_
  refine lv_bipush (v := 31) hx hb dX6_valueOf_5 (by decide) ?_
  refine lv_iand hx hb dX6_valueOf_7 ?_
  refine va_iald (D := (dC, dI)) (f := (v.1 347)) hx hb hK hP 23 0 rfl rfl (pk_andIn pa 5 (by decide) (by decide)) dX6_valueOf_8 ?_
  exact W.iret (v := ((v.1 347) (pa &&& (31 : Int32)).toNatClampNeg)) hx hb hr (fun t ht9 hW => ⟨⟨((v.1 347) (pa &&& (31 : Int32)).toNatClampNeg), v, rfl, rfl, by rw [ht9]; exact hP, hD⟩, hS.F ht9⟩) hS.2.2 dX6_valueOf_9
set_option maxHeartbeats 4000000 in
set_option maxRecDepth 100000 in
theorem c_x_X6_write (l : Launch) (dC : Nat → ClassId) (dI : Nat → Nat → Nat) (cI cB cZ cJ cR : ClassId) (tb : Nat → Nat) (sz : Nat) (ad : Nat → Nat) (pr : Int32 → Nat) (N : Nat) (L1 L2 : List Nat) (v : MS) (pa : Int32) (pb : Int32)  : Met l yX6_write (Cond.code yX6_write cX6_write 3 none :: tw_W) ({ frames := 0, cells := 0, slots := 0, locals := 0 }) (pc_ (dC, dI) (tyS cI cB cZ cJ cR) tb (cW ad pr N cI cR L1 L2 v) sz [.ref (ad 906), .int pa, .int pb]) (qv_ (dC, dI) (cW ad pr N cI cR L1 L2 v) sz (fun (u : MS) => FC [] [347] v u ∧ (RS0 v u)) (fun (u : MS) => (cW ad pr N cI cR L1 L2 u))) 0 0 (va_A (cW ad pr N cI cR L1 L2 v) sz) := by
  refine Met.ofW (cc := cX6_write) (maxL := 3) (ret := none) (by decide) rfl ?_
  intro p e s m args below meth c s₁ B hml hv
  obtain ⟨rfl, hsz, hP, hKK, hD0, hFx⟩ := hv
  have hK := hKK.1
  have hx := B.exec
  have hb := B.bytes
  have hr := B.returns
  have ht : ∀ w ∈ tw_W, w.before _ s = true := fun w h => atoms_spec (ws := Cond.code yX6_write cX6_write 3 none :: tw_W) B.pre w (List.mem_cons_of_mem _ h)
  have hown : s.vm.findClass RX6 = some m.cls := findClass_of_methodNamed B.named
  have hlocks := B.notSynchronized
  subst hsz
  unfold qv_
  have hD := hD0.self (sz := s.heap.size)
  generalize hAe : va_A (cW ad pr N cI cR L1 L2 v) s.heap.size = A at hD hFx ⊢
  have hA : ∀ q : Nat, s.heap.size ≤ q → A q := fun q h => by rw [← hAe]; exact Or.inr h
  have hS : va_S A s.heap s.heap [] := va_S.rf
  have hl := lv_entry ([.ref (ad 906), .int pa, .int pb]) (n := 3) (Nat.le_of_ble_eq_true rfl)
  rw [lg_entry_eq]
  generalize (lg_sl ([.ref (ad 906), .int pa, .int pb]) ++ List.replicate (3 - (lg_sl ([.ref (ad 906), .int pa, .int pb])).length) Slot.unset).toArray = ls at hl ⊢
  have hl : lv_has ls 3 [(0, .ref (ad 906)), (1, .int pa), (2, .int pb)] := hl
  refine lv_iload_n hx hb dX6_write_0 rfl (lv_at hl 1 rfl) ?_
  refine lv_if_le (tgt := 20) hx hb dX6_write_1 (by decide) (fun h1 => ?_) (fun h1 => ?_)
  · have z2 : pa.toInt ≤ (0 : Int) := le_z rfl (show (0 : Int32).toInt = (0 : Int) by decide) h1
    exact W.vret hx hb hr (fun t ht9 hW => ⟨⟨v, rfl, ⟨(FC.rf _), RS0.rf⟩, by rw [ht9]; exact hP, hD⟩, hS.F ht9⟩) hS.2.2 dX6_write_20
  · have z3 : (0 : Int) < pa.toInt := nle_z rfl (show (0 : Int32).toInt = (0 : Int) by decide) h1
    refine lv_iload_n hx hb dX6_write_4 rfl (lv_at hl 1 rfl) ?_
    refine lv_aload_n hx hb dX6_write_5 rfl (lv_at hl 0 rfl) ?_
    refine va_get (D := (dC, dI)) (ci := 9) (fs := oF_X6 ad pr v) (v := .ref (ad 347)) (C := RX6) (T := TX6) (N := 9) hx hb ht itX6 hown hK hP 6 rfl rfl 1 (by decide) (ht _ tw_775) (fun _ h9 => h9) rfl dX6_write_6 ?_
    refine va_alen (D := (dC, dI)) (v := 32) hx hb hK hP 23 0 rfl rfl rfl dX6_write_9 ?_
    refine lv_icmp_ge (tgt := 20) hx hb dX6_write_10 (by decide) (fun h4 => ?_) (fun h4 => ?_)
    · have z5 : (32 : Int) ≤ pa.toInt := le_z (show (32 : Int32).toInt = (32 : Int) by decide) rfl h4
      exact W.vret hx hb hr (fun t ht9 hW => ⟨⟨v, rfl, ⟨(FC.rf _), RS0.rf⟩, by rw [ht9]; exact hP, hD⟩, hS.F ht9⟩) hS.2.2 dX6_write_20
    · have z6 : pa.toInt < (32 : Int) := nle_z (show (32 : Int32).toInt = (32 : Int) by decide) rfl h4
      refine lv_aload_n hx hb dX6_write_13 rfl (lv_at hl 0 rfl) ?_
      refine va_get (D := (dC, dI)) (ci := 9) (fs := oF_X6 ad pr v) (v := .ref (ad 347)) (C := RX6) (T := TX6) (N := 9) hx hb ht itX6 hown hK hP 6 rfl rfl 1 (by decide) (ht _ tw_775) (fun _ h9 => h9) rfl dX6_write_14 ?_
      refine lv_iload_n hx hb dX6_write_17 rfl (lv_at hl 1 rfl) ?_
      refine lv_iload_n hx hb dX6_write_18 rfl (lv_at hl 2 rfl) ?_
      refine va_iast (D := (dC, dI)) (f := (v.1 347)) hx hb hK hP hD hS 23 0 rfl rfl (in_y (a := pa.toInt) (b := 32) rfl (om_b3bcb1a033 z3) (om_93bf70215e z6) rfl) dX6_write_19 (fun H locs hP hD hS => ?_)
      have hP := cP_ (cq_347 ad pr N cI cR L1 L2 v pa.toNatClampNeg pb) hP
      have hD := cD_ (cq_347 ad pr N cI cR L1 L2 v pa.toNatClampNeg pb) hD
      exact W.vret hx hb hr (fun t ht9 hW => ⟨⟨(wA v 347 pa.toNatClampNeg pb), rfl, ⟨(FC.a (FC.rf _) pa.toNatClampNeg pb (by decide) (by decide)), (RS0.w RS0.rf (by decide))⟩, by rw [ht9]; exact hP, hD⟩, hS.F ht9⟩) hS.2.2 dX6_write_20
set_option maxHeartbeats 4000000 in
set_option maxRecDepth 100000 in
theorem c_x_X6_change (l : Launch) (dC : Nat → ClassId) (dI : Nat → Nat → Nat) (cI cB cZ cJ cR : ClassId) (tb : Nat → Nat) (sz : Nat) (ad : Nat → Nat) (pr : Int32 → Nat) (N : Nat) (L1 L2 : List Nat) (v : MS) (pa : Int32) (pb : Int32)  : Met l yX6_change (Cond.code yX6_change cX6_change 3 none :: tw_W) ({ frames := 1, cells := 0, slots := 0, locals := 22 }) (pc_ (dC, dI) (tyS cI cB cZ cJ cR) tb (cW ad pr N cI cR L1 L2 v) sz [.ref (ad 906), .int pa, .int pb]) (qv_ (dC, dI) (cW ad pr N cI cR L1 L2 v) sz (fun (u : MS) => FC [348, 350] [0, 347] v u ∧ (RS0 v u)) (fun (u : MS) => (cW ad pr N cI cR L1 L2 u))) 0 0 (va_A (cW ad pr N cI cR L1 L2 v) sz) := by
  refine Met.ofW (cc := cX6_change) (maxL := 3) (ret := none) (by decide) rfl ?_
  intro p e s m args below meth c s₁ B hml hv
  obtain ⟨rfl, hsz, hP, hKK, hD0, hFx⟩ := hv
  have hK := hKK.1
  have hx := B.exec
  have hb := B.bytes
  have hr := B.returns
  have ht : ∀ w ∈ tw_W, w.before _ s = true := fun w h => atoms_spec (ws := Cond.code yX6_change cX6_change 3 none :: tw_W) B.pre w (List.mem_cons_of_mem _ h)
  have hown : s.vm.findClass RX6 = some m.cls := findClass_of_methodNamed B.named
  have hlocks := B.notSynchronized
  subst hsz
  unfold qv_
  have hD := hD0.self (sz := s.heap.size)
  generalize hAe : va_A (cW ad pr N cI cR L1 L2 v) s.heap.size = A at hD hFx ⊢
  have hA : ∀ q : Nat, s.heap.size ≤ q → A q := fun q h => by rw [← hAe]; exact Or.inr h
  have hS : va_S A s.heap s.heap [] := va_S.rf
  have hl := lv_entry ([.ref (ad 906), .int pa, .int pb]) (n := 3) (Nat.le_of_ble_eq_true rfl)
  rw [lg_entry_eq]
  generalize (lg_sl ([.ref (ad 906), .int pa, .int pb]) ++ List.replicate (3 - (lg_sl ([.ref (ad 906), .int pa, .int pb])).length) Slot.unset).toArray = ls at hl ⊢
  have hl : lv_has ls 3 [(0, .ref (ad 906)), (1, .int pa), (2, .int pb)] := hl
  refine lv_iload_n hx hb dX6_change_0 rfl (lv_at hl 1 rfl) ?_
  refine lv_bipush (v := 32) hx hb dX6_change_1 (by decide) ?_
  refine lv_icmp_ne (tgt := 14) hx hb dX6_change_3 (by decide) (fun h1 => ?_) (fun h1 => ?_)
  · have z2 : pa.toInt ≠ (32 : Int) := ne_z rfl (show (32 : Int32).toInt = (32 : Int) by decide) h1
    refine lv_aload_n hx hb dX6_change_14 rfl (lv_at hl 0 rfl) ?_
    refine lv_iload_n hx hb dX6_change_15 rfl (lv_at hl 1 rfl) ?_
    refine lv_iload_n hx hb dX6_change_16 rfl (lv_at hl 2 rfl) ?_
    refine cu_v (rn_Vk (n := 2) (As := [.int pa, .int pb]) (rest := []) hx hb hml hown ht hKK hFx hP hD hS hA (c_x_X6_write l dC dI cI cB cZ cJ cR tb s.heap.size ad pr N L1 L2 v pa pb ) tw_776 tw_777 (by decide +kernel) rfl rfl ⟨Nat.le_of_ble_eq_true rfl, Nat.le_of_ble_eq_true rfl⟩ (List.range (cW ad pr N cI cR L1 L2 v).length) (rg_map _) (nd_range _) 6 rfl rfl rfl rfl hl.1 rfl (Nat.le_of_ble_eq_true rfl) dX6_change_17 ⟨Nat.le_of_ble_eq_true rfl, Nat.le_of_ble_eq_true rfl⟩) hP hD hS hA (fun u4 H locs hw3 hP hD hS => ?_)
    obtain ⟨fr3, rs3⟩ := hw3
    refine W.widen (k := 0) (n := 0) (Nat.le_refl _) (Nat.le_refl _) ?_
    refine lv_aload_n hx hb dX6_change_20 rfl (lv_at hl 0 rfl) ?_
    refine lv_iconst (v := 0) hx hb dX6_change_21 (by decide) ?_
    refine va_put (D := (dC, dI)) (ci := 9) (fs := oF_X6 ad pr u4) (v := .int 0) (ty := .int) (C := RX6) (T := TX6) (N := 9) hx hb ht itX6 tyX6 tyX6_ok nmX6 hown hK hP hD hS 6 rfl rfl 4 (by decide) (ht _ tw_778) (fun _ h9 => h9) rfl (by decide +kernel) rfl rfl (Nat.le_of_ble_eq_true rfl) dX6_change_22 (fun H locs hP hD hS => ?_)
    have hP := cP_ (cw_350 ad pr N cI cR L1 L2 u4 0) hP
    have hD := cD_ (cw_350 ad pr N cI cR L1 L2 u4 0) hD
    exact W.vret hx hb hr (fun t ht9 hW => ⟨⟨(wA u4 0 350 0), rfl, ⟨(FC.f (FC.tr (FC.rf _) (FC.up fr3 (by decide) (by decide))) 0 (by decide)), (RS0.w (RS0.tr RS0.rf rs3) (by decide))⟩, by rw [ht9]; exact hP, hD⟩, hS.F ht9⟩) hS.2.2 dX6_change_25
  · have z6 : pa.toInt = (32 : Int) := eq_z rfl (show (32 : Int32).toInt = (32 : Int) by decide) h1
    refine lv_aload_n hx hb dX6_change_6 rfl (lv_at hl 0 rfl) ?_
    refine lv_iload_n hx hb dX6_change_7 rfl (lv_at hl 2 rfl) ?_
    refine va_put (D := (dC, dI)) (ci := 9) (fs := oF_X6 ad pr v) (v := .int pb) (ty := .int) (C := RX6) (T := TX6) (N := 9) hx hb ht itX6 tyX6 tyX6_ok nmX6 hown hK hP hD hS 6 rfl rfl 2 (by decide) (ht _ tw_779) (fun _ h9 => h9) rfl (by decide +kernel) rfl rfl (Nat.le_of_ble_eq_true rfl) dX6_change_8 (fun H locs hP hD hS => ?_)
    have hP := cP_ (cw_348 ad pr N cI cR L1 L2 v pb) hP
    have hD := cD_ (cw_348 ad pr N cI cR L1 L2 v pb) hD
    refine lv_goto (tgt := 20) hx hb dX6_change_11 (by decide) ?_
    refine lv_aload_n hx hb dX6_change_20 rfl (lv_at hl 0 rfl) ?_
    refine lv_iconst (v := 0) hx hb dX6_change_21 (by decide) ?_
    refine va_put (D := (dC, dI)) (ci := 9) (fs := oF_X6 ad pr (wA v 0 348 pb)) (v := .int 0) (ty := .int) (C := RX6) (T := TX6) (N := 9) hx hb ht itX6 tyX6 tyX6_ok nmX6 hown hK hP hD hS 6 rfl rfl 4 (by decide) (ht _ tw_778) (fun _ h9 => h9) rfl (by decide +kernel) rfl rfl (Nat.le_of_ble_eq_true rfl) dX6_change_22 (fun H locs hP hD hS => ?_)
    have hP := cP_ (cw_350 ad pr N cI cR L1 L2 (wA v 0 348 pb) 0) hP
    have hD := cD_ (cw_350 ad pr N cI cR L1 L2 (wA v 0 348 pb) 0) hD
    exact W.vret hx hb hr (fun t ht9 hW => ⟨⟨(wA (wA v 0 348 pb) 0 350 0), rfl, ⟨(FC.f (FC.f (FC.rf _) pb (by decide)) 0 (by decide)), (RS0.w (RS0.w RS0.rf (by decide)) (by decide))⟩, by rw [ht9]; exact hP, hD⟩, hS.F ht9⟩) hS.2.2 dX6_change_25
theorem om_0992c35d75 {x0 x1 : Int} {n2 : Nat} (h0 : x0 ≠ (0 : Int)) : (((0 : Int) = 1 ∧ (x0 = 0 ∧ x1 < (n2 : Int))) ∨ ((0 : Int) = 0 ∧ (x0 ≠ 0 ∨ (n2 : Int) ≤ x1))) := by omega
theorem om_2684222bc6 {x0 x2 x3 : Int} {n1 : Nat} (h0 : x0 = (n1 : Int)) (h1 : x0 ≤ x2) : (((0 : Int) = 1 ∧ (x3 = 0 ∧ x2 < (n1 : Int))) ∨ ((0 : Int) = 0 ∧ (x3 ≠ 0 ∨ (n1 : Int) ≤ x2))) := by omega
theorem om_ef34c4fce2 {x0 x1 x3 : Int} {n2 : Nat} (h0 : x0 = (0 : Int)) (h1 : x1 = (n2 : Int)) (h2 : x3 < x1) : (((1 : Int) = 1 ∧ (x0 = 0 ∧ x3 < (n2 : Int))) ∨ ((1 : Int) = 0 ∧ (x0 ≠ 0 ∨ (n2 : Int) ≤ x3))) := by omega
set_option maxHeartbeats 4000000 in
set_option maxRecDepth 100000 in
theorem c_x_X6_hasWord (l : Launch) (dC : Nat → ClassId) (dI : Nat → Nat → Nat) (cI cB cZ cJ cR : ClassId) (tb : Nat → Nat) (sz : Nat) (ad : Nat → Nat) (pr : Int32 → Nat) (N : Nat) (L1 L2 : List Nat) (v : MS) (pa : Int32) (zNN : (N : Int) ≤ 4096) : Met l yX6_hasWord (Cond.code yX6_hasWord cX6_hasWord 2 (some .boolean) :: tw_W) ({ frames := 0, cells := 0, slots := 0, locals := 0 }) (pc_ (dC, dI) (tyS cI cB cZ cJ cR) tb (cW ad pr N cI cR L1 L2 v) sz [.ref (ad 906), .int pa]) (qi_ (dC, dI) (cW ad pr N cI cR L1 L2 v) sz (fun (r : Int32) (u : MS) => v = u ∧ (r = 0 ∨ r = 1) ∧ (0 ≤ r.toInt ∧ r.toInt ≤ 1) ∧ ((r.toInt = 1 ∧ ((pa &&& (3 : Int32)).toInt = 0 ∧ ((pa.toUInt32 >>> ((2 : Int32).toUInt32 &&& Int32.toUInt32 31)).toInt32).toInt < (N : Int))) ∨ (r.toInt = 0 ∧ ((pa &&& (3 : Int32)).toInt ≠ 0 ∨ (N : Int) ≤ ((pa.toUInt32 >>> ((2 : Int32).toUInt32 &&& Int32.toUInt32 31)).toInt32).toInt)))) (fun (u : MS) => (cW ad pr N cI cR L1 L2 u))) 0 0 (va_A (cW ad pr N cI cR L1 L2 v) sz) := by
  refine Met.ofW (cc := cX6_hasWord) (maxL := 2) (ret := (some .boolean)) (by decide) rfl ?_
  intro p e s m args below meth c s₁ B hml hv
  obtain ⟨rfl, hsz, hP, hKK, hD0, hFx⟩ := hv
  have hK := hKK.1
  have hx := B.exec
  have hb := B.bytes
  have hr := B.returns
  have ht : ∀ w ∈ tw_W, w.before _ s = true := fun w h => atoms_spec (ws := Cond.code yX6_hasWord cX6_hasWord 2 (some .boolean) :: tw_W) B.pre w (List.mem_cons_of_mem _ h)
  have hown : s.vm.findClass RX6 = some m.cls := findClass_of_methodNamed B.named
  have hlocks := B.notSynchronized
  subst hsz
  unfold qi_
  have hD := hD0.self (sz := s.heap.size)
  generalize hAe : va_A (cW ad pr N cI cR L1 L2 v) s.heap.size = A at hD hFx ⊢
  have hA : ∀ q : Nat, s.heap.size ≤ q → A q := fun q h => by rw [← hAe]; exact Or.inr h
  have hS : va_S A s.heap s.heap [] := va_S.rf
  have hl := lv_entry ([.ref (ad 906), .int pa]) (n := 2) (Nat.le_of_ble_eq_true rfl)
  rw [lg_entry_eq]
  generalize (lg_sl ([.ref (ad 906), .int pa]) ++ List.replicate (2 - (lg_sl ([.ref (ad 906), .int pa])).length) Slot.unset).toArray = ls at hl ⊢
  have hl : lv_has ls 2 [(0, .ref (ad 906)), (1, .int pa)] := hl
  refine lv_iload_n hx hb dX6_hasWord_0 rfl (lv_at hl 1 rfl) ?_
  refine lv_iconst (v := 3) hx hb dX6_hasWord_1 (by decide) ?_
  refine lv_iand hx hb dX6_hasWord_2 ?_
  refine lv_if_ne (tgt := 21) hx hb dX6_hasWord_3 (by decide) (fun h1 => ?_) (fun h1 => ?_)
  · have z2 : (pa &&& (3 : Int32)).toInt ≠ (0 : Int) := ne_z rfl (show (0 : Int32).toInt = (0 : Int) by decide) h1
    refine lv_iconst (v := 0) hx hb dX6_hasWord_21 (by decide) ?_
    exact W.zret (v := 0) hx hb hr rfl (fun t ht9 hW => ⟨⟨0, v, rfl, ⟨rfl, ⟨Or.inl rfl, (by decide), (om_0992c35d75 z2)⟩⟩, by rw [ht9]; exact hP, hD⟩, hS.F ht9⟩) hS.2.2 dX6_hasWord_22
  · have z3 : (pa &&& (3 : Int32)).toInt = (0 : Int) := eq_z rfl (show (0 : Int32).toInt = (0 : Int) by decide) h1
    refine lv_iload_n hx hb dX6_hasWord_6 rfl (lv_at hl 1 rfl) ?_
    refine lv_iconst (v := 2) hx hb dX6_hasWord_7 (by decide) ?_
    refine lv_iushr hx hb dX6_hasWord_8 rfl ?_
    refine lv_aload_n hx hb dX6_hasWord_9 rfl (lv_at hl 0 rfl) ?_
    refine va_get (D := (dC, dI)) (ci := 9) (fs := oF_X6 ad pr v) (v := .ref (ad 346)) (C := RX6) (T := TX6) (N := 9) hx hb ht itX6 hown hK hP 6 rfl rfl 0 (by decide) (ht _ tw_774) (fun _ h9 => h9) rfl dX6_hasWord_10 ?_
    refine va_alen (D := (dC, dI)) (v := (nI N)) hx hb hK hP 22 0 rfl rfl rfl dX6_hasWord_13 ?_
    have zN4 : (nI N).toInt = (N : Int) := nI_N (by have := (om_1c2c49c46c zNN); omega)
    refine lv_icmp_ge (tgt := 21) hx hb dX6_hasWord_14 (by decide) (fun h5 => ?_) (fun h5 => ?_)
    · have z6 : (nI N).toInt ≤ ((pa.toUInt32 >>> ((2 : Int32).toUInt32 &&& Int32.toUInt32 31)).toInt32).toInt := le_z rfl rfl h5
      refine lv_iconst (v := 0) hx hb dX6_hasWord_21 (by decide) ?_
      exact W.zret (v := 0) hx hb hr rfl (fun t ht9 hW => ⟨⟨0, v, rfl, ⟨rfl, ⟨Or.inl rfl, (by decide), (om_2684222bc6 zN4 z6)⟩⟩, by rw [ht9]; exact hP, hD⟩, hS.F ht9⟩) hS.2.2 dX6_hasWord_22
    · have z7 : ((pa.toUInt32 >>> ((2 : Int32).toUInt32 &&& Int32.toUInt32 31)).toInt32).toInt < (nI N).toInt := nle_z rfl rfl h5
      refine lv_iconst (v := 1) hx hb dX6_hasWord_17 (by decide) ?_
      refine lv_goto (tgt := 22) hx hb dX6_hasWord_18 (by decide) ?_
      exact W.zret (v := 1) hx hb hr rfl (fun t ht9 hW => ⟨⟨1, v, rfl, ⟨rfl, ⟨Or.inr rfl, (by decide), (om_ef34c4fce2 z3 zN4 z7)⟩⟩, by rw [ht9]; exact hP, hD⟩, hS.F ht9⟩) hS.2.2 dX6_hasWord_22
theorem om_e776c4f23a {x0 : Int} (h0 : 0 ≤ x0 ∧ x0 ≤ 1073741823) : 0 ≤ x0 := by omega
set_option maxHeartbeats 4000000 in
set_option maxRecDepth 100000 in
theorem c_x_X6_wordAt (l : Launch) (dC : Nat → ClassId) (dI : Nat → Nat → Nat) (cI cB cZ cJ cR : ClassId) (tb : Nat → Nat) (sz : Nat) (ad : Nat → Nat) (pr : Int32 → Nat) (N : Nat) (L1 L2 : List Nat) (v : MS) (pa : Int32) (zNN : (N : Int) ≤ 4096) : Met l yX6_wordAt (Cond.code yX6_wordAt cX6_wordAt 3 (some .int) :: tw_W) ({ frames := 0, cells := 0, slots := 0, locals := 0 }) (pc_ (dC, dI) (tyS cI cB cZ cJ cR) tb (cW ad pr N cI cR L1 L2 v) sz [.ref (ad 906), .int pa]) (qi_ (dC, dI) (cW ad pr N cI cR L1 L2 v) sz (fun (r : Int32) (u : MS) => v = u) (fun (u : MS) => (cW ad pr N cI cR L1 L2 u))) 0 0 (va_A (cW ad pr N cI cR L1 L2 v) sz) := by
  refine Met.ofW (cc := cX6_wordAt) (maxL := 3) (ret := (some .int)) (by decide) rfl ?_
  intro p e s m args below meth c s₁ B hml hv
  obtain ⟨rfl, hsz, hP, hKK, hD0, hFx⟩ := hv
  have hK := hKK.1
  have hx := B.exec
  have hb := B.bytes
  have hr := B.returns
  have ht : ∀ w ∈ tw_W, w.before _ s = true := fun w h => atoms_spec (ws := Cond.code yX6_wordAt cX6_wordAt 3 (some .int) :: tw_W) B.pre w (List.mem_cons_of_mem _ h)
  have hown : s.vm.findClass RX6 = some m.cls := findClass_of_methodNamed B.named
  have hlocks := B.notSynchronized
  subst hsz
  unfold qi_
  have hD := hD0.self (sz := s.heap.size)
  generalize hAe : va_A (cW ad pr N cI cR L1 L2 v) s.heap.size = A at hD hFx ⊢
  have hA : ∀ q : Nat, s.heap.size ≤ q → A q := fun q h => by rw [← hAe]; exact Or.inr h
  have hS : va_S A s.heap s.heap [] := va_S.rf
  have hl := lv_entry ([.ref (ad 906), .int pa]) (n := 3) (Nat.le_of_ble_eq_true rfl)
  rw [lg_entry_eq]
  generalize (lg_sl ([.ref (ad 906), .int pa]) ++ List.replicate (3 - (lg_sl ([.ref (ad 906), .int pa])).length) Slot.unset).toArray = ls at hl ⊢
  have hl : lv_has ls 3 [(0, .ref (ad 906)), (1, .int pa)] := hl
  refine lv_iload_n hx hb dX6_wordAt_0 rfl (lv_at hl 1 rfl) ?_
  refine lv_iconst (v := 2) hx hb dX6_wordAt_1 (by decide) ?_
  refine lv_iushr hx hb dX6_wordAt_2 rfl ?_
  refine lv_istore_n (lv' := [(2, .int ((pa.toUInt32 >>> ((2 : Int32).toUInt32 &&& Int32.toUInt32 31)).toInt32)), (0, .ref (ad 906)), (1, .int pa)]) hx hb dX6_wordAt_3 rfl hl (by decide) rfl (fun ls hl => ?_)
  refine lv_iload_n hx hb dX6_wordAt_4 rfl (lv_at hl 0 rfl) ?_
  refine lv_aload_n hx hb dX6_wordAt_5 rfl (lv_at hl 1 rfl) ?_
  refine va_get (D := (dC, dI)) (ci := 9) (fs := oF_X6 ad pr v) (v := .ref (ad 346)) (C := RX6) (T := TX6) (N := 9) hx hb ht itX6 hown hK hP 6 rfl rfl 0 (by decide) (ht _ tw_774) (fun _ h9 => h9) rfl dX6_wordAt_6 ?_
  refine va_alen (D := (dC, dI)) (v := (nI N)) hx hb hK hP 22 0 rfl rfl rfl dX6_wordAt_9 ?_
  have zN1 : (nI N).toInt = (N : Int) := nI_N (by have := (om_1c2c49c46c zNN); omega)
  refine lv_icmp_ge (tgt := 22) hx hb dX6_wordAt_10 (by decide) (fun h2 => ?_) (fun h2 => ?_)
  · have z3 : (nI N).toInt ≤ ((pa.toUInt32 >>> ((2 : Int32).toUInt32 &&& Int32.toUInt32 31)).toInt32).toInt := le_z rfl rfl h2
    refine lv_iconst (v := 0) hx hb dX6_wordAt_22 (by decide) ?_
    exact W.iret (v := 0) hx hb hr (fun t ht9 hW => ⟨⟨0, v, rfl, rfl, by rw [ht9]; exact hP, hD⟩, hS.F ht9⟩) hS.2.2 dX6_wordAt_23
  · have z4 : ((pa.toUInt32 >>> ((2 : Int32).toUInt32 &&& Int32.toUInt32 31)).toInt32).toInt < (nI N).toInt := nle_z rfl rfl h2
    refine lv_aload_n hx hb dX6_wordAt_13 rfl (lv_at hl 1 rfl) ?_
    refine va_get (D := (dC, dI)) (ci := 9) (fs := oF_X6 ad pr v) (v := .ref (ad 346)) (C := RX6) (T := TX6) (N := 9) hx hb ht itX6 hown hK hP 6 rfl rfl 0 (by decide) (ht _ tw_774) (fun _ h9 => h9) rfl dX6_wordAt_14 ?_
    refine lv_iload_n hx hb dX6_wordAt_17 rfl (lv_at hl 0 rfl) ?_
    have q5 : 0 ≤ ((pa.toUInt32 >>> ((2 : Int32).toUInt32 &&& Int32.toUInt32 31)).toInt32).toInt ∧ ((pa.toUInt32 >>> ((2 : Int32).toUInt32 &&& Int32.toUInt32 31)).toInt32).toInt ≤ 1073741823 := ush2_f pa
    refine va_iald (D := (dC, dI)) (f := (v.1 346)) hx hb hK hP 22 0 rfl rfl (in_y (a := ((pa.toUInt32 >>> ((2 : Int32).toUInt32 &&& Int32.toUInt32 31)).toInt32).toInt) (b := (N : Int)) rfl (om_e776c4f23a q5) (om_267f7d2370 zN1 z4) rfl) dX6_wordAt_18 ?_
    refine lv_goto (tgt := 23) hx hb dX6_wordAt_19 (by decide) ?_
    exact W.iret (v := ((v.1 346) ((pa.toUInt32 >>> ((2 : Int32).toUInt32 &&& Int32.toUInt32 31)).toInt32).toNatClampNeg)) hx hb hr (fun t ht9 hW => ⟨⟨((v.1 346) ((pa.toUInt32 >>> ((2 : Int32).toUInt32 &&& Int32.toUInt32 31)).toInt32).toNatClampNeg), v, rfl, rfl, by rw [ht9]; exact hP, hD⟩, hS.F ht9⟩) hS.2.2 dX6_wordAt_23
set_option maxHeartbeats 4000000 in
set_option maxRecDepth 100000 in
theorem c_x_X6_layWord (l : Launch) (dC : Nat → ClassId) (dI : Nat → Nat → Nat) (cI cB cZ cJ cR : ClassId) (tb : Nat → Nat) (sz : Nat) (ad : Nat → Nat) (pr : Int32 → Nat) (N : Nat) (L1 L2 : List Nat) (v : MS) (pa : Int32) (pb : Int32) (zNN : (N : Int) ≤ 4096) : Met l yX6_layWord (Cond.code yX6_layWord cX6_layWord 4 none :: tw_W) ({ frames := 0, cells := 0, slots := 0, locals := 0 }) (pc_ (dC, dI) (tyS cI cB cZ cJ cR) tb (cW ad pr N cI cR L1 L2 v) sz [.ref (ad 906), .int pa, .int pb]) (qv_ (dC, dI) (cW ad pr N cI cR L1 L2 v) sz (fun (u : MS) => FC [] [346] v u ∧ (RS0 v u)) (fun (u : MS) => (cW ad pr N cI cR L1 L2 u))) 0 0 (va_A (cW ad pr N cI cR L1 L2 v) sz) := by
  refine Met.ofW (cc := cX6_layWord) (maxL := 4) (ret := none) (by decide) rfl ?_
  intro p e s m args below meth c s₁ B hml hv
  obtain ⟨rfl, hsz, hP, hKK, hD0, hFx⟩ := hv
  have hK := hKK.1
  have hx := B.exec
  have hb := B.bytes
  have hr := B.returns
  have ht : ∀ w ∈ tw_W, w.before _ s = true := fun w h => atoms_spec (ws := Cond.code yX6_layWord cX6_layWord 4 none :: tw_W) B.pre w (List.mem_cons_of_mem _ h)
  have hown : s.vm.findClass RX6 = some m.cls := findClass_of_methodNamed B.named
  have hlocks := B.notSynchronized
  subst hsz
  unfold qv_
  have hD := hD0.self (sz := s.heap.size)
  generalize hAe : va_A (cW ad pr N cI cR L1 L2 v) s.heap.size = A at hD hFx ⊢
  have hA : ∀ q : Nat, s.heap.size ≤ q → A q := fun q h => by rw [← hAe]; exact Or.inr h
  have hS : va_S A s.heap s.heap [] := va_S.rf
  have hl := lv_entry ([.ref (ad 906), .int pa, .int pb]) (n := 4) (Nat.le_of_ble_eq_true rfl)
  rw [lg_entry_eq]
  generalize (lg_sl ([.ref (ad 906), .int pa, .int pb]) ++ List.replicate (4 - (lg_sl ([.ref (ad 906), .int pa, .int pb])).length) Slot.unset).toArray = ls at hl ⊢
  have hl : lv_has ls 4 [(0, .ref (ad 906)), (1, .int pa), (2, .int pb)] := hl
  refine lv_iload_n hx hb dX6_layWord_0 rfl (lv_at hl 1 rfl) ?_
  refine lv_iconst (v := 2) hx hb dX6_layWord_1 (by decide) ?_
  refine lv_iushr hx hb dX6_layWord_2 rfl ?_
  refine lv_istore_n (lv' := [(3, .int ((pa.toUInt32 >>> ((2 : Int32).toUInt32 &&& Int32.toUInt32 31)).toInt32)), (0, .ref (ad 906)), (1, .int pa), (2, .int pb)]) hx hb dX6_layWord_3 rfl hl (by decide) rfl (fun ls hl => ?_)
  refine lv_iload_n hx hb dX6_layWord_4 rfl (lv_at hl 0 rfl) ?_
  refine lv_aload_n hx hb dX6_layWord_5 rfl (lv_at hl 1 rfl) ?_
  refine va_get (D := (dC, dI)) (ci := 9) (fs := oF_X6 ad pr v) (v := .ref (ad 346)) (C := RX6) (T := TX6) (N := 9) hx hb ht itX6 hown hK hP 6 rfl rfl 0 (by decide) (ht _ tw_774) (fun _ h9 => h9) rfl dX6_layWord_6 ?_
  refine va_alen (D := (dC, dI)) (v := (nI N)) hx hb hK hP 22 0 rfl rfl rfl dX6_layWord_9 ?_
  have zN1 : (nI N).toInt = (N : Int) := nI_N (by have := (om_1c2c49c46c zNN); omega)
  refine lv_icmp_ge (tgt := 20) hx hb dX6_layWord_10 (by decide) (fun h2 => ?_) (fun h2 => ?_)
  · have z3 : (nI N).toInt ≤ ((pa.toUInt32 >>> ((2 : Int32).toUInt32 &&& Int32.toUInt32 31)).toInt32).toInt := le_z rfl rfl h2
    exact W.vret hx hb hr (fun t ht9 hW => ⟨⟨v, rfl, ⟨(FC.rf _), RS0.rf⟩, by rw [ht9]; exact hP, hD⟩, hS.F ht9⟩) hS.2.2 dX6_layWord_20
  · have z4 : ((pa.toUInt32 >>> ((2 : Int32).toUInt32 &&& Int32.toUInt32 31)).toInt32).toInt < (nI N).toInt := nle_z rfl rfl h2
    refine lv_aload_n hx hb dX6_layWord_13 rfl (lv_at hl 1 rfl) ?_
    refine va_get (D := (dC, dI)) (ci := 9) (fs := oF_X6 ad pr v) (v := .ref (ad 346)) (C := RX6) (T := TX6) (N := 9) hx hb ht itX6 hown hK hP 6 rfl rfl 0 (by decide) (ht _ tw_774) (fun _ h9 => h9) rfl dX6_layWord_14 ?_
    refine lv_iload_n hx hb dX6_layWord_17 rfl (lv_at hl 0 rfl) ?_
    refine lv_iload_n hx hb dX6_layWord_18 rfl (lv_at hl 3 rfl) ?_
    have q5 : 0 ≤ ((pa.toUInt32 >>> ((2 : Int32).toUInt32 &&& Int32.toUInt32 31)).toInt32).toInt ∧ ((pa.toUInt32 >>> ((2 : Int32).toUInt32 &&& Int32.toUInt32 31)).toInt32).toInt ≤ 1073741823 := ush2_f pa
    refine va_iast (D := (dC, dI)) (f := (v.1 346)) hx hb hK hP hD hS 22 0 rfl rfl (in_y (a := ((pa.toUInt32 >>> ((2 : Int32).toUInt32 &&& Int32.toUInt32 31)).toInt32).toInt) (b := (N : Int)) rfl (om_e776c4f23a q5) (om_267f7d2370 zN1 z4) rfl) dX6_layWord_19 (fun H locs hP hD hS => ?_)
    have hP := cP_ (cq_346 ad pr N cI cR L1 L2 v (((pa.toUInt32 >>> ((2 : Int32).toUInt32 &&& Int32.toUInt32 31)).toInt32).toNatClampNeg) pb) hP
    have hD := cD_ (cq_346 ad pr N cI cR L1 L2 v (((pa.toUInt32 >>> ((2 : Int32).toUInt32 &&& Int32.toUInt32 31)).toInt32).toNatClampNeg) pb) hD
    exact W.vret hx hb hr (fun t ht9 hW => ⟨⟨(wA v 346 (((pa.toUInt32 >>> ((2 : Int32).toUInt32 &&& Int32.toUInt32 31)).toInt32).toNatClampNeg) pb), rfl, ⟨(FC.a (FC.rf _) (((pa.toUInt32 >>> ((2 : Int32).toUInt32 &&& Int32.toUInt32 31)).toInt32).toNatClampNeg) pb (by decide) (by decide)), (RS0.w RS0.rf (by decide))⟩, by rw [ht9]; exact hP, hD⟩, hS.F ht9⟩) hS.2.2 dX6_layWord_20
set_option maxHeartbeats 4000000 in
set_option maxRecDepth 100000 in
theorem c_x_X6_isBelow (l : Launch) (dC : Nat → ClassId) (dI : Nat → Nat → Nat) (cI cB cZ cJ cR : ClassId) (tb : Nat → Nat) (sz : Nat) (pa : Int32) (pb : Int32)  : Met l yX6_isBelow (Cond.code yX6_isBelow cX6_isBelow 2 (some .boolean) :: tw_W) ({ frames := 2, cells := 0, slots := 0, locals := 42 }) (pc_ (dC, dI) (tyS cI cB cZ cJ cR) tb [] sz [.int pa, .int pb]) (qi_ (dC, dI) [] sz (fun (r : Int32) (u : Unit) => (r = 0 ∨ r = 1) ∧ (0 ≤ r.toInt ∧ r.toInt ≤ 1)) (fun (u : Unit) => [])) 0 0 (va_A [] sz) := by
  refine Met.ofW (cc := cX6_isBelow) (maxL := 2) (ret := (some .boolean)) (by decide) rfl ?_
  intro p e s m args below meth c s₁ B hml hv
  obtain ⟨rfl, hsz, hP, hKK, hD0, hFx⟩ := hv
  have hK := hKK.1
  have hx := B.exec
  have hb := B.bytes
  have hr := B.returns
  have ht : ∀ w ∈ tw_W, w.before _ s = true := fun w h => atoms_spec (ws := Cond.code yX6_isBelow cX6_isBelow 2 (some .boolean) :: tw_W) B.pre w (List.mem_cons_of_mem _ h)
  have hown : s.vm.findClass RX6 = some m.cls := findClass_of_methodNamed B.named
  have hlocks := B.notSynchronized
  subst hsz
  unfold qi_
  have hD := hD0.self (sz := s.heap.size)
  generalize hAe : va_A [] s.heap.size = A at hD hFx ⊢
  have hA : ∀ q : Nat, s.heap.size ≤ q → A q := fun q h => by rw [← hAe]; exact Or.inr h
  have hS : va_S A s.heap s.heap [] := va_S.rf
  have hl := lv_entry ([.int pa, .int pb]) (n := 2) (Nat.le_of_ble_eq_true rfl)
  rw [lg_entry_eq]
  generalize (lg_sl ([.int pa, .int pb]) ++ List.replicate (2 - (lg_sl ([.int pa, .int pb])).length) Slot.unset).toArray = ls at hl ⊢
  have hl : lv_has ls 2 [(0, .int pa), (1, .int pb)] := hl
  refine lv_iload_n hx hb dX6_isBelow_0 rfl (lv_at hl 0 rfl) ?_
  refine lv_iload_n hx hb dX6_isBelow_1 rfl (lv_at hl 1 rfl) ?_
  refine cu_i (rn_S (n := 2) (As := [.int pa, .int pb]) (rest := []) hx hb hml hown ht hKK hFx hP hD hS hA (c_x_J6_compareUnsigned_7cf53 l dC dI cI cB cZ cJ cR tb s.heap.size pa pb ) tw_780 tw_781 (by decide +kernel) rfl rfl ⟨Nat.le_of_ble_eq_true rfl, Nat.le_of_ble_eq_true rfl⟩ [] rfl rfl rfl hl.1 rfl (Nat.le_of_ble_eq_true rfl) dX6_isBelow_2 ⟨Nat.le_of_ble_eq_true rfl, Nat.le_of_ble_eq_true rfl⟩) hP hD hS hA (fun r3 _ H locs hw1 hP hD hS => ?_)
  refine W.widen (k := 0) (n := 0) (Nat.le_refl _) (Nat.le_refl _) ?_
  refine lv_if_ge (tgt := 12) hx hb dX6_isBelow_5 (by decide) (fun h4 => ?_) (fun h4 => ?_)
  · have z5 : (0 : Int) ≤ r3.toInt := le_z (show (0 : Int32).toInt = (0 : Int) by decide) rfl h4
    refine lv_iconst (v := 0) hx hb dX6_isBelow_12 (by decide) ?_
    exact W.zret (v := 0) hx hb hr rfl (fun t ht9 hW => ⟨⟨0, (), rfl, ⟨Or.inl rfl, (by decide)⟩, by rw [ht9]; exact hP, hD⟩, hS.F ht9⟩) hS.2.2 dX6_isBelow_13
  · have z6 : r3.toInt < (0 : Int) := nle_z (show (0 : Int32).toInt = (0 : Int) by decide) rfl h4
    refine lv_iconst (v := 1) hx hb dX6_isBelow_8 (by decide) ?_
    refine lv_goto (tgt := 13) hx hb dX6_isBelow_9 (by decide) ?_
    exact W.zret (v := 1) hx hb hr rfl (fun t ht9 hW => ⟨⟨1, (), rfl, ⟨Or.inr rfl, (by decide)⟩, by rw [ht9]; exact hP, hD⟩, hS.F ht9⟩) hS.2.2 dX6_isBelow_13
theorem om_ed59d972c6 {x0 : Int} (h0 : (0 ≤ x0 ∧ x0 ≤ 1)) : 0 ≤ x0 ∧ x0 ≤ 1 := by omega
set_option maxHeartbeats 4000000 in
set_option maxRecDepth 100000 in
theorem c_x_X6_isTaken (l : Launch) (dC : Nat → ClassId) (dI : Nat → Nat → Nat) (cI cB cZ cJ cR : ClassId) (tb : Nat → Nat) (sz : Nat) (pa : Int32) (pb : Int32) (pc1 : Int32)  : Met l yX6_isTaken (Cond.code yX6_isTaken cX6_isTaken 3 (some .boolean) :: tw_W) ({ frames := 3, cells := 0, slots := 0, locals := 63 }) (pc_ (dC, dI) (tyS cI cB cZ cJ cR) tb [] sz [.int pa, .int pb, .int pc1]) (qi_ (dC, dI) [] sz (fun (r : Int32) (u : Unit) => (r = 0 ∨ r = 1) ∧ (0 ≤ r.toInt ∧ r.toInt ≤ 1)) (fun (u : Unit) => [])) 0 0 (va_A [] sz) := by
  refine Met.ofW (cc := cX6_isTaken) (maxL := 3) (ret := (some .boolean)) (by decide) rfl ?_
  intro p e s m args below meth c s₁ B hml hv
  obtain ⟨rfl, hsz, hP, hKK, hD0, hFx⟩ := hv
  have hK := hKK.1
  have hx := B.exec
  have hb := B.bytes
  have hr := B.returns
  have ht : ∀ w ∈ tw_W, w.before _ s = true := fun w h => atoms_spec (ws := Cond.code yX6_isTaken cX6_isTaken 3 (some .boolean) :: tw_W) B.pre w (List.mem_cons_of_mem _ h)
  have hown : s.vm.findClass RX6 = some m.cls := findClass_of_methodNamed B.named
  have hlocks := B.notSynchronized
  subst hsz
  unfold qi_
  have hD := hD0.self (sz := s.heap.size)
  generalize hAe : va_A [] s.heap.size = A at hD hFx ⊢
  have hA : ∀ q : Nat, s.heap.size ≤ q → A q := fun q h => by rw [← hAe]; exact Or.inr h
  have hS : va_S A s.heap s.heap [] := va_S.rf
  have hl := lv_entry ([.int pa, .int pb, .int pc1]) (n := 3) (Nat.le_of_ble_eq_true rfl)
  rw [lg_entry_eq]
  generalize (lg_sl ([.int pa, .int pb, .int pc1]) ++ List.replicate (3 - (lg_sl ([.int pa, .int pb, .int pc1])).length) Slot.unset).toArray = ls at hl ⊢
  have hl : lv_has ls 3 [(0, .int pa), (1, .int pb), (2, .int pc1)] := hl
  refine lv_iload_n hx hb dX6_isTaken_0 rfl (lv_at hl 0 rfl) ?_
  by_cases h1 : pa = 4
  · refine lv_tableIn (off := 35) (tgt := 36) hx hb dX6_isTaken_1 (by rw [h1]; decide) (by rw [h1]; decide) (by rw [h1]; decide) (by decide) ?_
    refine lv_iload_n hx hb dX6_isTaken_36 rfl (lv_at hl 1 rfl) ?_
    refine lv_iload_n hx hb dX6_isTaken_37 rfl (lv_at hl 2 rfl) ?_
    refine lv_icmp_ne (tgt := 45) hx hb dX6_isTaken_38 (by decide) (fun h2 => ?_) (fun h2 => ?_)
    · have z3 : pb.toInt ≠ pc1.toInt := ne_z rfl rfl h2
      refine lv_iconst (v := 0) hx hb dX6_isTaken_45 (by decide) ?_
      exact W.zret (v := 0) hx hb hr rfl (fun t ht9 hW => ⟨⟨0, (), rfl, ⟨Or.inl rfl, (by decide)⟩, by rw [ht9]; exact hP, hD⟩, hS.F ht9⟩) hS.2.2 dX6_isTaken_46
    · have z4 : pb.toInt = pc1.toInt := eq_z rfl rfl h2
      refine lv_iconst (v := 1) hx hb dX6_isTaken_41 (by decide) ?_
      refine lv_goto (tgt := 46) hx hb dX6_isTaken_42 (by decide) ?_
      exact W.zret (v := 1) hx hb hr rfl (fun t ht9 hW => ⟨⟨1, (), rfl, ⟨Or.inr rfl, (by decide)⟩, by rw [ht9]; exact hP, hD⟩, hS.F ht9⟩) hS.2.2 dX6_isTaken_46
  ·
    by_cases h5 : pa = 5
    · refine lv_tableIn (off := 46) (tgt := 47) hx hb dX6_isTaken_1 (by rw [h5]; decide) (by rw [h5]; decide) (by rw [h5]; decide) (by decide) ?_
      refine lv_iload_n hx hb dX6_isTaken_47 rfl (lv_at hl 1 rfl) ?_
      refine lv_iload_n hx hb dX6_isTaken_48 rfl (lv_at hl 2 rfl) ?_
      refine lv_icmp_eq (tgt := 56) hx hb dX6_isTaken_49 (by decide) (fun h6 => ?_) (fun h6 => ?_)
      · have z7 : pb.toInt = pc1.toInt := eq_z rfl rfl h6
        refine lv_iconst (v := 0) hx hb dX6_isTaken_56 (by decide) ?_
        exact W.zret (v := 0) hx hb hr rfl (fun t ht9 hW => ⟨⟨0, (), rfl, ⟨Or.inl rfl, (by decide)⟩, by rw [ht9]; exact hP, hD⟩, hS.F ht9⟩) hS.2.2 dX6_isTaken_57
      · have z8 : pb.toInt ≠ pc1.toInt := ne_z rfl rfl h6
        refine lv_iconst (v := 1) hx hb dX6_isTaken_52 (by decide) ?_
        refine lv_goto (tgt := 57) hx hb dX6_isTaken_53 (by decide) ?_
        exact W.zret (v := 1) hx hb hr rfl (fun t ht9 hW => ⟨⟨1, (), rfl, ⟨Or.inr rfl, (by decide)⟩, by rw [ht9]; exact hP, hD⟩, hS.F ht9⟩) hS.2.2 dX6_isTaken_57
    ·
      by_cases h9 : pa = 6
      · refine lv_tableIn (off := 57) (tgt := 58) hx hb dX6_isTaken_1 (by rw [h9]; decide) (by rw [h9]; decide) (by rw [h9]; decide) (by decide) ?_
        refine lv_iload_n hx hb dX6_isTaken_58 rfl (lv_at hl 1 rfl) ?_
        refine lv_iload_n hx hb dX6_isTaken_59 rfl (lv_at hl 2 rfl) ?_
        refine lv_icmp_ge (tgt := 67) hx hb dX6_isTaken_60 (by decide) (fun h10 => ?_) (fun h10 => ?_)
        · have z11 : pc1.toInt ≤ pb.toInt := le_z rfl rfl h10
          refine lv_iconst (v := 0) hx hb dX6_isTaken_67 (by decide) ?_
          exact W.zret (v := 0) hx hb hr rfl (fun t ht9 hW => ⟨⟨0, (), rfl, ⟨Or.inl rfl, (by decide)⟩, by rw [ht9]; exact hP, hD⟩, hS.F ht9⟩) hS.2.2 dX6_isTaken_68
        · have z12 : pb.toInt < pc1.toInt := nle_z rfl rfl h10
          refine lv_iconst (v := 1) hx hb dX6_isTaken_63 (by decide) ?_
          refine lv_goto (tgt := 68) hx hb dX6_isTaken_64 (by decide) ?_
          exact W.zret (v := 1) hx hb hr rfl (fun t ht9 hW => ⟨⟨1, (), rfl, ⟨Or.inr rfl, (by decide)⟩, by rw [ht9]; exact hP, hD⟩, hS.F ht9⟩) hS.2.2 dX6_isTaken_68
      ·
        by_cases h13 : pa = 7
        · refine lv_tableIn (off := 68) (tgt := 69) hx hb dX6_isTaken_1 (by rw [h13]; decide) (by rw [h13]; decide) (by rw [h13]; decide) (by decide) ?_
          refine lv_iload_n hx hb dX6_isTaken_69 rfl (lv_at hl 1 rfl) ?_
          refine lv_iload_n hx hb dX6_isTaken_70 rfl (lv_at hl 2 rfl) ?_
          refine lv_icmp_lt (tgt := 78) hx hb dX6_isTaken_71 (by decide) (fun h14 => ?_) (fun h14 => ?_)
          · have z15 : pb.toInt < pc1.toInt := lt_z rfl rfl h14
            refine lv_iconst (v := 0) hx hb dX6_isTaken_78 (by decide) ?_
            exact W.zret (v := 0) hx hb hr rfl (fun t ht9 hW => ⟨⟨0, (), rfl, ⟨Or.inl rfl, (by decide)⟩, by rw [ht9]; exact hP, hD⟩, hS.F ht9⟩) hS.2.2 dX6_isTaken_79
          · have z16 : pc1.toInt ≤ pb.toInt := nlt_z rfl rfl h14
            refine lv_iconst (v := 1) hx hb dX6_isTaken_74 (by decide) ?_
            refine lv_goto (tgt := 79) hx hb dX6_isTaken_75 (by decide) ?_
            exact W.zret (v := 1) hx hb hr rfl (fun t ht9 hW => ⟨⟨1, (), rfl, ⟨Or.inr rfl, (by decide)⟩, by rw [ht9]; exact hP, hD⟩, hS.F ht9⟩) hS.2.2 dX6_isTaken_79
        ·
          by_cases h17 : pa = 8
          · refine lv_tableIn (off := 79) (tgt := 80) hx hb dX6_isTaken_1 (by rw [h17]; decide) (by rw [h17]; decide) (by rw [h17]; decide) (by decide) ?_
            refine lv_iload_n hx hb dX6_isTaken_80 rfl (lv_at hl 1 rfl) ?_
            refine lv_iload_n hx hb dX6_isTaken_81 rfl (lv_at hl 2 rfl) ?_
            refine cu_i (rn_S (n := 2) (As := [.int pb, .int pc1]) (rest := []) hx hb hml hown ht hKK hFx hP hD hS hA (c_x_X6_isBelow l dC dI cI cB cZ cJ cR tb s.heap.size pb pc1 ) tw_782 tw_783 (by decide +kernel) rfl rfl ⟨Nat.le_of_ble_eq_true rfl, Nat.le_of_ble_eq_true rfl⟩ [] rfl rfl rfl hl.1 rfl (Nat.le_of_ble_eq_true rfl) dX6_isTaken_82 ⟨Nat.le_of_ble_eq_true rfl, Nat.le_of_ble_eq_true rfl⟩) hP hD hS hA (fun r20 _ H locs hw18 hP hD hS => ?_)
            obtain ⟨b18, e18⟩ := hw18
            have b18 : (r20 = 0 ∨ r20 = 1) := b18
            have e18 : (0 ≤ r20.toInt ∧ r20.toInt ≤ 1) := e18
            refine W.widen (k := 0) (n := 0) (Nat.le_refl _) (Nat.le_refl _) ?_
            exact W.zret (v := r20) hx hb hr (bz_ b18) (fun t ht9 hW => ⟨⟨r20, (), rfl, ⟨b18, (om_ed59d972c6 e18)⟩, by rw [ht9]; exact hP, hD⟩, hS.F ht9⟩) hS.2.2 dX6_isTaken_85
          ·
            refine lv_tableOut (tgt := 86) hx hb dX6_isTaken_1 (by have := lv_neT h1 (a := 4) (by decide); have := lv_neT h5 (a := 5) (by decide); have := lv_neT h9 (a := 6) (by decide); have := lv_neT h13 (a := 7) (by decide); have := lv_neT h17 (a := 8) (by decide); omega) (by decide) ?_
            refine lv_iload_n hx hb dX6_isTaken_86 rfl (lv_at hl 1 rfl) ?_
            refine lv_iload_n hx hb dX6_isTaken_87 rfl (lv_at hl 2 rfl) ?_
            refine cu_i (rn_S (n := 2) (As := [.int pb, .int pc1]) (rest := []) hx hb hml hown ht hKK hFx hP hD hS hA (c_x_X6_isBelow l dC dI cI cB cZ cJ cR tb s.heap.size pb pc1 ) tw_782 tw_783 (by decide +kernel) rfl rfl ⟨Nat.le_of_ble_eq_true rfl, Nat.le_of_ble_eq_true rfl⟩ [] rfl rfl rfl hl.1 rfl (Nat.le_of_ble_eq_true rfl) dX6_isTaken_88 ⟨Nat.le_of_ble_eq_true rfl, Nat.le_of_ble_eq_true rfl⟩) hP hD hS hA (fun r23 _ H locs hw21 hP hD hS => ?_)
            obtain ⟨b21, e21⟩ := hw21
            have b21 : (r23 = 0 ∨ r23 = 1) := b21
            have e21 : (0 ≤ r23.toInt ∧ r23.toInt ≤ 1) := e21
            refine W.widen (k := 0) (n := 0) (Nat.le_refl _) (Nat.le_refl _) ?_
            refine lv_if_ne (tgt := 98) hx hb dX6_isTaken_91 (by decide) (fun h24 => ?_) (fun h24 => ?_)
            · have z25 : r23.toInt ≠ (0 : Int) := ne_z rfl (show (0 : Int32).toInt = (0 : Int) by decide) h24
              refine lv_iconst (v := 0) hx hb dX6_isTaken_98 (by decide) ?_
              exact W.zret (v := 0) hx hb hr rfl (fun t ht9 hW => ⟨⟨0, (), rfl, ⟨Or.inl rfl, (by decide)⟩, by rw [ht9]; exact hP, hD⟩, hS.F ht9⟩) hS.2.2 dX6_isTaken_99
            · have z26 : r23.toInt = (0 : Int) := eq_z rfl (show (0 : Int32).toInt = (0 : Int) by decide) h24
              refine lv_iconst (v := 1) hx hb dX6_isTaken_94 (by decide) ?_
              refine lv_goto (tgt := 99) hx hb dX6_isTaken_95 (by decide) ?_
              exact W.zret (v := 1) hx hb hr rfl (fun t ht9 hW => ⟨⟨1, (), rfl, ⟨Or.inr rfl, (by decide)⟩, by rw [ht9]; exact hP, hD⟩, hS.F ht9⟩) hS.2.2 dX6_isTaken_99
set_option maxHeartbeats 4000000 in
set_option maxRecDepth 100000 in
theorem c_x_X6_bytesOf (l : Launch) (dC : Nat → ClassId) (dI : Nat → Nat → Nat) (cI cB cZ cJ cR : ClassId) (tb : Nat → Nat) (sz : Nat) (pa : Int32)  : Met l yX6_bytesOf (Cond.code yX6_bytesOf cX6_bytesOf 1 (some .int) :: tw_W) ({ frames := 0, cells := 0, slots := 0, locals := 0 }) (pc_ (dC, dI) (tyS cI cB cZ cJ cR) tb [] sz [.int pa]) (qi_ (dC, dI) [] sz (fun (r : Int32) (u : Unit) => True) (fun (u : Unit) => [])) 0 0 (va_A [] sz) := by
  refine Met.ofW (cc := cX6_bytesOf) (maxL := 1) (ret := (some .int)) (by decide) rfl ?_
  intro p e s m args below meth c s₁ B hml hv
  obtain ⟨rfl, hsz, hP, hKK, hD0, hFx⟩ := hv
  have hK := hKK.1
  have hx := B.exec
  have hb := B.bytes
  have hr := B.returns
  have ht : ∀ w ∈ tw_W, w.before _ s = true := fun w h => atoms_spec (ws := Cond.code yX6_bytesOf cX6_bytesOf 1 (some .int) :: tw_W) B.pre w (List.mem_cons_of_mem _ h)
  have hown : s.vm.findClass RX6 = some m.cls := findClass_of_methodNamed B.named
  have hlocks := B.notSynchronized
  subst hsz
  unfold qi_
  have hD := hD0.self (sz := s.heap.size)
  generalize hAe : va_A [] s.heap.size = A at hD hFx ⊢
  have hA : ∀ q : Nat, s.heap.size ≤ q → A q := fun q h => by rw [← hAe]; exact Or.inr h
  have hS : va_S A s.heap s.heap [] := va_S.rf
  have hl := lv_entry ([.int pa]) (n := 1) (Nat.le_of_ble_eq_true rfl)
  rw [lg_entry_eq]
  generalize (lg_sl ([.int pa]) ++ List.replicate (1 - (lg_sl ([.int pa])).length) Slot.unset).toArray = ls at hl ⊢
  have hl : lv_has ls 1 [(0, .int pa)] := hl
  refine lv_iload_n hx hb dX6_bytesOf_0 rfl (lv_at hl 0 rfl) ?_
  by_cases h1 : pa = 10
  · refine lv_tableIn (off := 43) (tgt := 44) hx hb dX6_bytesOf_1 (by rw [h1]; decide) (by rw [h1]; decide) (by rw [h1]; decide) (by decide) ?_
    refine lv_iconst (v := 1) hx hb dX6_bytesOf_44 (by decide) ?_
    exact W.iret (v := 1) hx hb hr (fun t ht9 hW => ⟨⟨1, (), rfl, trivial, by rw [ht9]; exact hP, hD⟩, hS.F ht9⟩) hS.2.2 dX6_bytesOf_45
  ·
    by_cases h2 : pa = 11
    · refine lv_tableIn (off := 45) (tgt := 46) hx hb dX6_bytesOf_1 (by rw [h2]; decide) (by rw [h2]; decide) (by rw [h2]; decide) (by decide) ?_
      refine lv_iconst (v := 2) hx hb dX6_bytesOf_46 (by decide) ?_
      exact W.iret (v := 2) hx hb hr (fun t ht9 hW => ⟨⟨2, (), rfl, trivial, by rw [ht9]; exact hP, hD⟩, hS.F ht9⟩) hS.2.2 dX6_bytesOf_47
    ·
      by_cases h3 : pa = 12
      · refine lv_tableIn (off := 47) (tgt := 48) hx hb dX6_bytesOf_1 (by rw [h3]; decide) (by rw [h3]; decide) (by rw [h3]; decide) (by decide) ?_
        refine lv_iconst (v := 4) hx hb dX6_bytesOf_48 (by decide) ?_
        exact W.iret (v := 4) hx hb hr (fun t ht9 hW => ⟨⟨4, (), rfl, trivial, by rw [ht9]; exact hP, hD⟩, hS.F ht9⟩) hS.2.2 dX6_bytesOf_49
      ·
        by_cases h4 : pa = 13
        · refine lv_tableIn (off := 43) (tgt := 44) hx hb dX6_bytesOf_1 (by rw [h4]; decide) (by rw [h4]; decide) (by rw [h4]; decide) (by decide) ?_
          refine lv_iconst (v := 1) hx hb dX6_bytesOf_44 (by decide) ?_
          exact W.iret (v := 1) hx hb hr (fun t ht9 hW => ⟨⟨1, (), rfl, trivial, by rw [ht9]; exact hP, hD⟩, hS.F ht9⟩) hS.2.2 dX6_bytesOf_45
        ·
          by_cases h5 : pa = 14
          · refine lv_tableIn (off := 45) (tgt := 46) hx hb dX6_bytesOf_1 (by rw [h5]; decide) (by rw [h5]; decide) (by rw [h5]; decide) (by decide) ?_
            refine lv_iconst (v := 2) hx hb dX6_bytesOf_46 (by decide) ?_
            exact W.iret (v := 2) hx hb hr (fun t ht9 hW => ⟨⟨2, (), rfl, trivial, by rw [ht9]; exact hP, hD⟩, hS.F ht9⟩) hS.2.2 dX6_bytesOf_47
          ·
            by_cases h6 : pa = 15
            · refine lv_tableIn (off := 43) (tgt := 44) hx hb dX6_bytesOf_1 (by rw [h6]; decide) (by rw [h6]; decide) (by rw [h6]; decide) (by decide) ?_
              refine lv_iconst (v := 1) hx hb dX6_bytesOf_44 (by decide) ?_
              exact W.iret (v := 1) hx hb hr (fun t ht9 hW => ⟨⟨1, (), rfl, trivial, by rw [ht9]; exact hP, hD⟩, hS.F ht9⟩) hS.2.2 dX6_bytesOf_45
            ·
              by_cases h7 : pa = 16
              · refine lv_tableIn (off := 45) (tgt := 46) hx hb dX6_bytesOf_1 (by rw [h7]; decide) (by rw [h7]; decide) (by rw [h7]; decide) (by decide) ?_
                refine lv_iconst (v := 2) hx hb dX6_bytesOf_46 (by decide) ?_
                exact W.iret (v := 2) hx hb hr (fun t ht9 hW => ⟨⟨2, (), rfl, trivial, by rw [ht9]; exact hP, hD⟩, hS.F ht9⟩) hS.2.2 dX6_bytesOf_47
              ·
                refine lv_tableOut (tgt := 48) hx hb dX6_bytesOf_1 (by have := lv_neT h1 (a := 10) (by decide); have := lv_neT h2 (a := 11) (by decide); have := lv_neT h3 (a := 12) (by decide); have := lv_neT h4 (a := 13) (by decide); have := lv_neT h5 (a := 14) (by decide); have := lv_neT h6 (a := 15) (by decide); have := lv_neT h7 (a := 16) (by decide); omega) (by decide) ?_
                refine lv_iconst (v := 4) hx hb dX6_bytesOf_48 (by decide) ?_
                exact W.iret (v := 4) hx hb hr (fun t ht9 hW => ⟨⟨4, (), rfl, trivial, by rw [ht9]; exact hP, hD⟩, hS.F ht9⟩) hS.2.2 dX6_bytesOf_49
set_option maxHeartbeats 4000000 in
set_option maxRecDepth 100000 in
theorem c_x_X6_isReached (l : Launch) (dC : Nat → ClassId) (dI : Nat → Nat → Nat) (cI cB cZ cJ cR : ClassId) (tb : Nat → Nat) (sz : Nat) (ad : Nat → Nat) (pr : Int32 → Nat) (N : Nat) (L1 L2 : List Nat) (v : MS) (pa : Int32) (pb : Int32) (zNN : (N : Int) ≤ 4096) : Met l yX6_isReached (Cond.code yX6_isReached cX6_isReached 3 (some .boolean) :: tw_W) ({ frames := 1, cells := 0, slots := 0, locals := 21 }) (pc_ (dC, dI) (tyS cI cB cZ cJ cR) tb (cW ad pr N cI cR L1 L2 v) sz [.ref (ad 906), .int pa, .int pb]) (qi_ (dC, dI) (cW ad pr N cI cR L1 L2 v) sz (fun (r : Int32) (u : MS) => v = u ∧ (r = 0 ∨ r = 1) ∧ (0 ≤ r.toInt ∧ r.toInt ≤ 1)) (fun (u : MS) => (cW ad pr N cI cR L1 L2 u))) 0 0 (va_A (cW ad pr N cI cR L1 L2 v) sz) := by
  refine Met.ofW (cc := cX6_isReached) (maxL := 3) (ret := (some .boolean)) (by decide) rfl ?_
  intro p e s m args below meth c s₁ B hml hv
  obtain ⟨rfl, hsz, hP, hKK, hD0, hFx⟩ := hv
  have hK := hKK.1
  have hx := B.exec
  have hb := B.bytes
  have hr := B.returns
  have ht : ∀ w ∈ tw_W, w.before _ s = true := fun w h => atoms_spec (ws := Cond.code yX6_isReached cX6_isReached 3 (some .boolean) :: tw_W) B.pre w (List.mem_cons_of_mem _ h)
  have hown : s.vm.findClass RX6 = some m.cls := findClass_of_methodNamed B.named
  have hlocks := B.notSynchronized
  subst hsz
  unfold qi_
  have hD := hD0.self (sz := s.heap.size)
  generalize hAe : va_A (cW ad pr N cI cR L1 L2 v) s.heap.size = A at hD hFx ⊢
  have hA : ∀ q : Nat, s.heap.size ≤ q → A q := fun q h => by rw [← hAe]; exact Or.inr h
  have hS : va_S A s.heap s.heap [] := va_S.rf
  have hl := lv_entry ([.ref (ad 906), .int pa, .int pb]) (n := 3) (Nat.le_of_ble_eq_true rfl)
  rw [lg_entry_eq]
  generalize (lg_sl ([.ref (ad 906), .int pa, .int pb]) ++ List.replicate (3 - (lg_sl ([.ref (ad 906), .int pa, .int pb])).length) Slot.unset).toArray = ls at hl ⊢
  have hl : lv_has ls 3 [(0, .ref (ad 906)), (1, .int pa), (2, .int pb)] := hl
  refine lv_iload_n hx hb dX6_isReached_0 rfl (lv_at hl 1 rfl) ?_
  refine lv_iload_n hx hb dX6_isReached_1 rfl (lv_at hl 2 rfl) ?_
  refine lv_iconst (v := 1) hx hb dX6_isReached_2 (by decide) ?_
  refine lv_isub hx hb dX6_isReached_3 ?_
  refine lv_iand hx hb dX6_isReached_4 ?_
  refine lv_if_ne (tgt := 23) hx hb dX6_isReached_5 (by decide) (fun h1 => ?_) (fun h1 => ?_)
  · have z2 : (pa &&& (pb - (1 : Int32))).toInt ≠ (0 : Int) := ne_z rfl (show (0 : Int32).toInt = (0 : Int) by decide) h1
    refine lv_iconst (v := 0) hx hb dX6_isReached_23 (by decide) ?_
    exact W.zret (v := 0) hx hb hr rfl (fun t ht9 hW => ⟨⟨0, v, rfl, ⟨rfl, ⟨Or.inl rfl, (by decide)⟩⟩, by rw [ht9]; exact hP, hD⟩, hS.F ht9⟩) hS.2.2 dX6_isReached_24
  · have z3 : (pa &&& (pb - (1 : Int32))).toInt = (0 : Int) := eq_z rfl (show (0 : Int32).toInt = (0 : Int) by decide) h1
    refine lv_aload_n hx hb dX6_isReached_8 rfl (lv_at hl 0 rfl) ?_
    refine lv_iload_n hx hb dX6_isReached_9 rfl (lv_at hl 1 rfl) ?_
    refine lv_bipush (v := -4) hx hb dX6_isReached_10 (by decide) ?_
    refine lv_iand hx hb dX6_isReached_12 ?_
    refine cu_i (rn_Vk (n := 1) (As := [.int (pa &&& ((-4) : Int32))]) (rest := []) hx hb hml hown ht hKK hFx hP hD hS hA (c_x_X6_hasWord l dC dI cI cB cZ cJ cR tb s.heap.size ad pr N L1 L2 v (pa &&& ((-4) : Int32)) (show (N : Int) ≤ 4096 from (om_1c2c49c46c zNN))) tw_784 tw_785 (by decide +kernel) rfl rfl ⟨Nat.le_of_ble_eq_true rfl, Nat.le_of_ble_eq_true rfl⟩ (List.range (cW ad pr N cI cR L1 L2 v).length) (rg_map _) (nd_range _) 6 rfl rfl rfl rfl hl.1 rfl (Nat.le_of_ble_eq_true rfl) dX6_isReached_13 ⟨Nat.le_of_ble_eq_true rfl, Nat.le_of_ble_eq_true rfl⟩) hP hD hS hA (fun r6 u5 H locs hw4 hP hD hS => ?_)
    obtain ⟨rfl, b4, e4, c4⟩ := hw4
    refine W.widen (k := 0) (n := 0) (Nat.le_refl _) (Nat.le_refl _) ?_
    refine lv_if_eq (tgt := 23) hx hb dX6_isReached_16 (by decide) (fun h7 => ?_) (fun h7 => ?_)
    · have z8 : r6.toInt = (0 : Int) := eq_z rfl (show (0 : Int32).toInt = (0 : Int) by decide) h7
      refine lv_iconst (v := 0) hx hb dX6_isReached_23 (by decide) ?_
      exact W.zret (v := 0) hx hb hr rfl (fun t ht9 hW => ⟨⟨0, v, rfl, ⟨rfl, ⟨Or.inl rfl, (by decide)⟩⟩, by rw [ht9]; exact hP, hD⟩, hS.F ht9⟩) hS.2.2 dX6_isReached_24
    · have z9 : r6.toInt ≠ (0 : Int) := ne_z rfl (show (0 : Int32).toInt = (0 : Int) by decide) h7
      refine lv_iconst (v := 1) hx hb dX6_isReached_19 (by decide) ?_
      refine lv_goto (tgt := 24) hx hb dX6_isReached_20 (by decide) ?_
      exact W.zret (v := 1) hx hb hr rfl (fun t ht9 hW => ⟨⟨1, v, rfl, ⟨rfl, ⟨Or.inr rfl, (by decide)⟩⟩, by rw [ht9]; exact hP, hD⟩, hS.F ht9⟩) hS.2.2 dX6_isReached_24
set_option maxHeartbeats 4000000 in
set_option maxRecDepth 100000 in
theorem c_x_X6_numbered (l : Launch) (dC : Nat → ClassId) (dI : Nat → Nat → Nat) (cI cB cZ cJ cR : ClassId) (tb : Nat → Nat) (sz : Nat) (pa : Int32) (pb : Int32) (pc1 : Int32)  : Met l yX6_numbered (Cond.code yX6_numbered cX6_numbered 3 (some .int) :: tw_W) ({ frames := 3, cells := 0, slots := 0, locals := 63 }) (pc_ (dC, dI) (tyS cI cB cZ cJ cR) tb [] sz [.int pa, .int pb, .int pc1]) (qi_ (dC, dI) [] sz (fun (r : Int32) (u : Unit) => True) (fun (u : Unit) => [])) 0 0 (va_A [] sz) := by
  refine Met.ofW (cc := cX6_numbered) (maxL := 3) (ret := (some .int)) (by decide) rfl ?_
  intro p e s m args below meth c s₁ B hml hv
  obtain ⟨rfl, hsz, hP, hKK, hD0, hFx⟩ := hv
  have hK := hKK.1
  have hx := B.exec
  have hb := B.bytes
  have hr := B.returns
  have ht : ∀ w ∈ tw_W, w.before _ s = true := fun w h => atoms_spec (ws := Cond.code yX6_numbered cX6_numbered 3 (some .int) :: tw_W) B.pre w (List.mem_cons_of_mem _ h)
  have hown : s.vm.findClass RX6 = some m.cls := findClass_of_methodNamed B.named
  have hlocks := B.notSynchronized
  subst hsz
  unfold qi_
  have hD := hD0.self (sz := s.heap.size)
  generalize hAe : va_A [] s.heap.size = A at hD hFx ⊢
  have hA : ∀ q : Nat, s.heap.size ≤ q → A q := fun q h => by rw [← hAe]; exact Or.inr h
  have hS : va_S A s.heap s.heap [] := va_S.rf
  have hl := lv_entry ([.int pa, .int pb, .int pc1]) (n := 3) (Nat.le_of_ble_eq_true rfl)
  rw [lg_entry_eq]
  generalize (lg_sl ([.int pa, .int pb, .int pc1]) ++ List.replicate (3 - (lg_sl ([.int pa, .int pb, .int pc1])).length) Slot.unset).toArray = ls at hl ⊢
  have hl : lv_has ls 3 [(0, .int pa), (1, .int pb), (2, .int pc1)] := hl
  refine lv_iload_n hx hb dX6_numbered_0 rfl (lv_at hl 0 rfl) ?_
  by_cases h1 : pa = 18
  · refine lv_tableIn (off := 47) (tgt := 48) hx hb dX6_numbered_1 (by rw [h1]; decide) (by rw [h1]; decide) (by rw [h1]; decide) (by decide) ?_
    refine lv_iload_n hx hb dX6_numbered_48 rfl (lv_at hl 1 rfl) ?_
    refine lv_iload_n hx hb dX6_numbered_49 rfl (lv_at hl 2 rfl) ?_
    refine lv_iadd hx hb dX6_numbered_50 ?_
    exact W.iret (v := (pb + pc1)) hx hb hr (fun t ht9 hW => ⟨⟨(pb + pc1), (), rfl, trivial, by rw [ht9]; exact hP, hD⟩, hS.F ht9⟩) hS.2.2 dX6_numbered_51
  ·
    by_cases h2 : pa = 19
    · refine lv_tableIn (off := 51) (tgt := 52) hx hb dX6_numbered_1 (by rw [h2]; decide) (by rw [h2]; decide) (by rw [h2]; decide) (by decide) ?_
      refine lv_iload_n hx hb dX6_numbered_52 rfl (lv_at hl 1 rfl) ?_
      refine lv_iload_n hx hb dX6_numbered_53 rfl (lv_at hl 2 rfl) ?_
      refine lv_icmp_ge (tgt := 61) hx hb dX6_numbered_54 (by decide) (fun h3 => ?_) (fun h3 => ?_)
      · have z4 : pc1.toInt ≤ pb.toInt := le_z rfl rfl h3
        refine lv_iconst (v := 0) hx hb dX6_numbered_61 (by decide) ?_
        exact W.iret (v := 0) hx hb hr (fun t ht9 hW => ⟨⟨0, (), rfl, trivial, by rw [ht9]; exact hP, hD⟩, hS.F ht9⟩) hS.2.2 dX6_numbered_62
      · have z5 : pb.toInt < pc1.toInt := nle_z rfl rfl h3
        refine lv_iconst (v := 1) hx hb dX6_numbered_57 (by decide) ?_
        refine lv_goto (tgt := 62) hx hb dX6_numbered_58 (by decide) ?_
        exact W.iret (v := 1) hx hb hr (fun t ht9 hW => ⟨⟨1, (), rfl, trivial, by rw [ht9]; exact hP, hD⟩, hS.F ht9⟩) hS.2.2 dX6_numbered_62
    ·
      by_cases h6 : pa = 20
      · refine lv_tableIn (off := 62) (tgt := 63) hx hb dX6_numbered_1 (by rw [h6]; decide) (by rw [h6]; decide) (by rw [h6]; decide) (by decide) ?_
        refine lv_iload_n hx hb dX6_numbered_63 rfl (lv_at hl 1 rfl) ?_
        refine lv_iload_n hx hb dX6_numbered_64 rfl (lv_at hl 2 rfl) ?_
        refine cu_i (rn_S (n := 2) (As := [.int pb, .int pc1]) (rest := []) hx hb hml hown ht hKK hFx hP hD hS hA (c_x_X6_isBelow l dC dI cI cB cZ cJ cR tb s.heap.size pb pc1 ) tw_782 tw_783 (by decide +kernel) rfl rfl ⟨Nat.le_of_ble_eq_true rfl, Nat.le_of_ble_eq_true rfl⟩ [] rfl rfl rfl hl.1 rfl (Nat.le_of_ble_eq_true rfl) dX6_numbered_65 ⟨Nat.le_of_ble_eq_true rfl, Nat.le_of_ble_eq_true rfl⟩) hP hD hS hA (fun r9 _ H locs hw7 hP hD hS => ?_)
        obtain ⟨b7, e7⟩ := hw7
        have b7 : (r9 = 0 ∨ r9 = 1) := b7
        have e7 : (0 ≤ r9.toInt ∧ r9.toInt ≤ 1) := e7
        refine W.widen (k := 0) (n := 0) (Nat.le_refl _) (Nat.le_refl _) ?_
        refine lv_if_eq (tgt := 75) hx hb dX6_numbered_68 (by decide) (fun h10 => ?_) (fun h10 => ?_)
        · have z11 : r9.toInt = (0 : Int) := eq_z rfl (show (0 : Int32).toInt = (0 : Int) by decide) h10
          refine lv_iconst (v := 0) hx hb dX6_numbered_75 (by decide) ?_
          exact W.iret (v := 0) hx hb hr (fun t ht9 hW => ⟨⟨0, (), rfl, trivial, by rw [ht9]; exact hP, hD⟩, hS.F ht9⟩) hS.2.2 dX6_numbered_76
        · have z12 : r9.toInt ≠ (0 : Int) := ne_z rfl (show (0 : Int32).toInt = (0 : Int) by decide) h10
          refine lv_iconst (v := 1) hx hb dX6_numbered_71 (by decide) ?_
          refine lv_goto (tgt := 76) hx hb dX6_numbered_72 (by decide) ?_
          exact W.iret (v := 1) hx hb hr (fun t ht9 hW => ⟨⟨1, (), rfl, trivial, by rw [ht9]; exact hP, hD⟩, hS.F ht9⟩) hS.2.2 dX6_numbered_76
      ·
        by_cases h13 : pa = 21
        · refine lv_tableIn (off := 76) (tgt := 77) hx hb dX6_numbered_1 (by rw [h13]; decide) (by rw [h13]; decide) (by rw [h13]; decide) (by decide) ?_
          refine lv_iload_n hx hb dX6_numbered_77 rfl (lv_at hl 1 rfl) ?_
          refine lv_iload_n hx hb dX6_numbered_78 rfl (lv_at hl 2 rfl) ?_
          refine lv_ixor hx hb dX6_numbered_79 ?_
          exact W.iret (v := (pb ^^^ pc1)) hx hb hr (fun t ht9 hW => ⟨⟨(pb ^^^ pc1), (), rfl, trivial, by rw [ht9]; exact hP, hD⟩, hS.F ht9⟩) hS.2.2 dX6_numbered_80
        ·
          by_cases h14 : pa = 22
          · refine lv_tableIn (off := 80) (tgt := 81) hx hb dX6_numbered_1 (by rw [h14]; decide) (by rw [h14]; decide) (by rw [h14]; decide) (by decide) ?_
            refine lv_iload_n hx hb dX6_numbered_81 rfl (lv_at hl 1 rfl) ?_
            refine lv_iload_n hx hb dX6_numbered_82 rfl (lv_at hl 2 rfl) ?_
            refine lv_ior hx hb dX6_numbered_83 ?_
            exact W.iret (v := (pb ||| pc1)) hx hb hr (fun t ht9 hW => ⟨⟨(pb ||| pc1), (), rfl, trivial, by rw [ht9]; exact hP, hD⟩, hS.F ht9⟩) hS.2.2 dX6_numbered_84
          ·
            by_cases h15 : pa = 23
            · refine lv_tableIn (off := 84) (tgt := 85) hx hb dX6_numbered_1 (by rw [h15]; decide) (by rw [h15]; decide) (by rw [h15]; decide) (by decide) ?_
              refine lv_iload_n hx hb dX6_numbered_85 rfl (lv_at hl 1 rfl) ?_
              refine lv_iload_n hx hb dX6_numbered_86 rfl (lv_at hl 2 rfl) ?_
              refine lv_iand hx hb dX6_numbered_87 ?_
              exact W.iret (v := (pb &&& pc1)) hx hb hr (fun t ht9 hW => ⟨⟨(pb &&& pc1), (), rfl, trivial, by rw [ht9]; exact hP, hD⟩, hS.F ht9⟩) hS.2.2 dX6_numbered_88
            ·
              by_cases h16 : pa = 24
              · refine lv_tableIn (off := 88) (tgt := 89) hx hb dX6_numbered_1 (by rw [h16]; decide) (by rw [h16]; decide) (by rw [h16]; decide) (by decide) ?_
                refine lv_iload_n hx hb dX6_numbered_89 rfl (lv_at hl 1 rfl) ?_
                refine lv_iload_n hx hb dX6_numbered_90 rfl (lv_at hl 2 rfl) ?_
                refine lv_ishl hx hb dX6_numbered_91 ?_
                exact W.iret (v := (pb <<< (pc1 &&& 31))) hx hb hr (fun t ht9 hW => ⟨⟨(pb <<< (pc1 &&& 31)), (), rfl, trivial, by rw [ht9]; exact hP, hD⟩, hS.F ht9⟩) hS.2.2 dX6_numbered_92
              ·
                by_cases h17 : pa = 25
                · refine lv_tableIn (off := 92) (tgt := 93) hx hb dX6_numbered_1 (by rw [h17]; decide) (by rw [h17]; decide) (by rw [h17]; decide) (by decide) ?_
                  refine lv_iload_n hx hb dX6_numbered_93 rfl (lv_at hl 1 rfl) ?_
                  refine lv_iload_n hx hb dX6_numbered_94 rfl (lv_at hl 2 rfl) ?_
                  refine lv_iushr hx hb dX6_numbered_95 rfl ?_
                  exact W.iret (v := ((pb.toUInt32 >>> (pc1.toUInt32 &&& Int32.toUInt32 31)).toInt32)) hx hb hr (fun t ht9 hW => ⟨⟨((pb.toUInt32 >>> (pc1.toUInt32 &&& Int32.toUInt32 31)).toInt32), (), rfl, trivial, by rw [ht9]; exact hP, hD⟩, hS.F ht9⟩) hS.2.2 dX6_numbered_96
                ·
                  refine lv_tableOut (tgt := 97) hx hb dX6_numbered_1 (by have := lv_neT h1 (a := 18) (by decide); have := lv_neT h2 (a := 19) (by decide); have := lv_neT h6 (a := 20) (by decide); have := lv_neT h13 (a := 21) (by decide); have := lv_neT h14 (a := 22) (by decide); have := lv_neT h15 (a := 23) (by decide); have := lv_neT h16 (a := 24) (by decide); have := lv_neT h17 (a := 25) (by decide); omega) (by decide) ?_
                  refine lv_iload_n hx hb dX6_numbered_97 rfl (lv_at hl 1 rfl) ?_
                  refine lv_iload_n hx hb dX6_numbered_98 rfl (lv_at hl 2 rfl) ?_
                  refine lv_ishr hx hb dX6_numbered_99 ?_
                  exact W.iret (v := (pb >>> (pc1 &&& 31))) hx hb hr (fun t ht9 hW => ⟨⟨(pb >>> (pc1 &&& 31)), (), rfl, trivial, by rw [ht9]; exact hP, hD⟩, hS.F ht9⟩) hS.2.2 dX6_numbered_100
set_option maxHeartbeats 4000000 in
set_option maxRecDepth 100000 in
theorem c_x_X6_joined (l : Launch) (dC : Nat → ClassId) (dI : Nat → Nat → Nat) (cI cB cZ cJ cR : ClassId) (tb : Nat → Nat) (sz : Nat) (pa : Int32) (pb : Int32) (pc1 : Int32)  : Met l yX6_joined (Cond.code yX6_joined cX6_joined 3 (some .int) :: tw_W) ({ frames := 3, cells := 0, slots := 0, locals := 63 }) (pc_ (dC, dI) (tyS cI cB cZ cJ cR) tb [] sz [.int pa, .int pb, .int pc1]) (qi_ (dC, dI) [] sz (fun (r : Int32) (u : Unit) => True) (fun (u : Unit) => [])) 0 0 (va_A [] sz) := by
  refine Met.ofW (cc := cX6_joined) (maxL := 3) (ret := (some .int)) (by decide) rfl ?_
  intro p e s m args below meth c s₁ B hml hv
  obtain ⟨rfl, hsz, hP, hKK, hD0, hFx⟩ := hv
  have hK := hKK.1
  have hx := B.exec
  have hb := B.bytes
  have hr := B.returns
  have ht : ∀ w ∈ tw_W, w.before _ s = true := fun w h => atoms_spec (ws := Cond.code yX6_joined cX6_joined 3 (some .int) :: tw_W) B.pre w (List.mem_cons_of_mem _ h)
  have hown : s.vm.findClass RX6 = some m.cls := findClass_of_methodNamed B.named
  have hlocks := B.notSynchronized
  subst hsz
  unfold qi_
  have hD := hD0.self (sz := s.heap.size)
  generalize hAe : va_A [] s.heap.size = A at hD hFx ⊢
  have hA : ∀ q : Nat, s.heap.size ≤ q → A q := fun q h => by rw [← hAe]; exact Or.inr h
  have hS : va_S A s.heap s.heap [] := va_S.rf
  have hl := lv_entry ([.int pa, .int pb, .int pc1]) (n := 3) (Nat.le_of_ble_eq_true rfl)
  rw [lg_entry_eq]
  generalize (lg_sl ([.int pa, .int pb, .int pc1]) ++ List.replicate (3 - (lg_sl ([.int pa, .int pb, .int pc1])).length) Slot.unset).toArray = ls at hl ⊢
  have hl : lv_has ls 3 [(0, .int pa), (1, .int pb), (2, .int pc1)] := hl
  refine lv_iload_n hx hb dX6_joined_0 rfl (lv_at hl 0 rfl) ?_
  by_cases h1 : pa = 27
  · refine lv_tableIn (off := 51) (tgt := 52) hx hb dX6_joined_1 (by rw [h1]; decide) (by rw [h1]; decide) (by rw [h1]; decide) (by decide) ?_
    refine lv_iload_n hx hb dX6_joined_52 rfl (lv_at hl 1 rfl) ?_
    refine lv_iload_n hx hb dX6_joined_53 rfl (lv_at hl 2 rfl) ?_
    refine lv_iadd hx hb dX6_joined_54 ?_
    exact W.iret (v := (pb + pc1)) hx hb hr (fun t ht9 hW => ⟨⟨(pb + pc1), (), rfl, trivial, by rw [ht9]; exact hP, hD⟩, hS.F ht9⟩) hS.2.2 dX6_joined_55
  ·
    by_cases h2 : pa = 28
    · refine lv_tableIn (off := 55) (tgt := 56) hx hb dX6_joined_1 (by rw [h2]; decide) (by rw [h2]; decide) (by rw [h2]; decide) (by decide) ?_
      refine lv_iload_n hx hb dX6_joined_56 rfl (lv_at hl 1 rfl) ?_
      refine lv_iload_n hx hb dX6_joined_57 rfl (lv_at hl 2 rfl) ?_
      refine lv_isub hx hb dX6_joined_58 ?_
      exact W.iret (v := (pb - pc1)) hx hb hr (fun t ht9 hW => ⟨⟨(pb - pc1), (), rfl, trivial, by rw [ht9]; exact hP, hD⟩, hS.F ht9⟩) hS.2.2 dX6_joined_59
    ·
      by_cases h3 : pa = 29
      · refine lv_tableIn (off := 59) (tgt := 60) hx hb dX6_joined_1 (by rw [h3]; decide) (by rw [h3]; decide) (by rw [h3]; decide) (by decide) ?_
        refine lv_iload_n hx hb dX6_joined_60 rfl (lv_at hl 1 rfl) ?_
        refine lv_iload_n hx hb dX6_joined_61 rfl (lv_at hl 2 rfl) ?_
        refine lv_ishl hx hb dX6_joined_62 ?_
        exact W.iret (v := (pb <<< (pc1 &&& 31))) hx hb hr (fun t ht9 hW => ⟨⟨(pb <<< (pc1 &&& 31)), (), rfl, trivial, by rw [ht9]; exact hP, hD⟩, hS.F ht9⟩) hS.2.2 dX6_joined_63
      ·
        by_cases h4 : pa = 30
        · refine lv_tableIn (off := 63) (tgt := 64) hx hb dX6_joined_1 (by rw [h4]; decide) (by rw [h4]; decide) (by rw [h4]; decide) (by decide) ?_
          refine lv_iload_n hx hb dX6_joined_64 rfl (lv_at hl 1 rfl) ?_
          refine lv_iload_n hx hb dX6_joined_65 rfl (lv_at hl 2 rfl) ?_
          refine lv_icmp_ge (tgt := 73) hx hb dX6_joined_66 (by decide) (fun h5 => ?_) (fun h5 => ?_)
          · have z6 : pc1.toInt ≤ pb.toInt := le_z rfl rfl h5
            refine lv_iconst (v := 0) hx hb dX6_joined_73 (by decide) ?_
            exact W.iret (v := 0) hx hb hr (fun t ht9 hW => ⟨⟨0, (), rfl, trivial, by rw [ht9]; exact hP, hD⟩, hS.F ht9⟩) hS.2.2 dX6_joined_74
          · have z7 : pb.toInt < pc1.toInt := nle_z rfl rfl h5
            refine lv_iconst (v := 1) hx hb dX6_joined_69 (by decide) ?_
            refine lv_goto (tgt := 74) hx hb dX6_joined_70 (by decide) ?_
            exact W.iret (v := 1) hx hb hr (fun t ht9 hW => ⟨⟨1, (), rfl, trivial, by rw [ht9]; exact hP, hD⟩, hS.F ht9⟩) hS.2.2 dX6_joined_74
        ·
          by_cases h8 : pa = 31
          · refine lv_tableIn (off := 74) (tgt := 75) hx hb dX6_joined_1 (by rw [h8]; decide) (by rw [h8]; decide) (by rw [h8]; decide) (by decide) ?_
            refine lv_iload_n hx hb dX6_joined_75 rfl (lv_at hl 1 rfl) ?_
            refine lv_iload_n hx hb dX6_joined_76 rfl (lv_at hl 2 rfl) ?_
            refine cu_i (rn_S (n := 2) (As := [.int pb, .int pc1]) (rest := []) hx hb hml hown ht hKK hFx hP hD hS hA (c_x_X6_isBelow l dC dI cI cB cZ cJ cR tb s.heap.size pb pc1 ) tw_782 tw_783 (by decide +kernel) rfl rfl ⟨Nat.le_of_ble_eq_true rfl, Nat.le_of_ble_eq_true rfl⟩ [] rfl rfl rfl hl.1 rfl (Nat.le_of_ble_eq_true rfl) dX6_joined_77 ⟨Nat.le_of_ble_eq_true rfl, Nat.le_of_ble_eq_true rfl⟩) hP hD hS hA (fun r11 _ H locs hw9 hP hD hS => ?_)
            obtain ⟨b9, e9⟩ := hw9
            have b9 : (r11 = 0 ∨ r11 = 1) := b9
            have e9 : (0 ≤ r11.toInt ∧ r11.toInt ≤ 1) := e9
            refine W.widen (k := 0) (n := 0) (Nat.le_refl _) (Nat.le_refl _) ?_
            refine lv_if_eq (tgt := 87) hx hb dX6_joined_80 (by decide) (fun h12 => ?_) (fun h12 => ?_)
            · have z13 : r11.toInt = (0 : Int) := eq_z rfl (show (0 : Int32).toInt = (0 : Int) by decide) h12
              refine lv_iconst (v := 0) hx hb dX6_joined_87 (by decide) ?_
              exact W.iret (v := 0) hx hb hr (fun t ht9 hW => ⟨⟨0, (), rfl, trivial, by rw [ht9]; exact hP, hD⟩, hS.F ht9⟩) hS.2.2 dX6_joined_88
            · have z14 : r11.toInt ≠ (0 : Int) := ne_z rfl (show (0 : Int32).toInt = (0 : Int) by decide) h12
              refine lv_iconst (v := 1) hx hb dX6_joined_83 (by decide) ?_
              refine lv_goto (tgt := 88) hx hb dX6_joined_84 (by decide) ?_
              exact W.iret (v := 1) hx hb hr (fun t ht9 hW => ⟨⟨1, (), rfl, trivial, by rw [ht9]; exact hP, hD⟩, hS.F ht9⟩) hS.2.2 dX6_joined_88
          ·
            by_cases h15 : pa = 32
            · refine lv_tableIn (off := 88) (tgt := 89) hx hb dX6_joined_1 (by rw [h15]; decide) (by rw [h15]; decide) (by rw [h15]; decide) (by decide) ?_
              refine lv_iload_n hx hb dX6_joined_89 rfl (lv_at hl 1 rfl) ?_
              refine lv_iload_n hx hb dX6_joined_90 rfl (lv_at hl 2 rfl) ?_
              refine lv_ixor hx hb dX6_joined_91 ?_
              exact W.iret (v := (pb ^^^ pc1)) hx hb hr (fun t ht9 hW => ⟨⟨(pb ^^^ pc1), (), rfl, trivial, by rw [ht9]; exact hP, hD⟩, hS.F ht9⟩) hS.2.2 dX6_joined_92
            ·
              by_cases h16 : pa = 33
              · refine lv_tableIn (off := 92) (tgt := 93) hx hb dX6_joined_1 (by rw [h16]; decide) (by rw [h16]; decide) (by rw [h16]; decide) (by decide) ?_
                refine lv_iload_n hx hb dX6_joined_93 rfl (lv_at hl 1 rfl) ?_
                refine lv_iload_n hx hb dX6_joined_94 rfl (lv_at hl 2 rfl) ?_
                refine lv_iushr hx hb dX6_joined_95 rfl ?_
                exact W.iret (v := ((pb.toUInt32 >>> (pc1.toUInt32 &&& Int32.toUInt32 31)).toInt32)) hx hb hr (fun t ht9 hW => ⟨⟨((pb.toUInt32 >>> (pc1.toUInt32 &&& Int32.toUInt32 31)).toInt32), (), rfl, trivial, by rw [ht9]; exact hP, hD⟩, hS.F ht9⟩) hS.2.2 dX6_joined_96
              ·
                by_cases h17 : pa = 34
                · refine lv_tableIn (off := 96) (tgt := 97) hx hb dX6_joined_1 (by rw [h17]; decide) (by rw [h17]; decide) (by rw [h17]; decide) (by decide) ?_
                  refine lv_iload_n hx hb dX6_joined_97 rfl (lv_at hl 1 rfl) ?_
                  refine lv_iload_n hx hb dX6_joined_98 rfl (lv_at hl 2 rfl) ?_
                  refine lv_ishr hx hb dX6_joined_99 ?_
                  exact W.iret (v := (pb >>> (pc1 &&& 31))) hx hb hr (fun t ht9 hW => ⟨⟨(pb >>> (pc1 &&& 31)), (), rfl, trivial, by rw [ht9]; exact hP, hD⟩, hS.F ht9⟩) hS.2.2 dX6_joined_100
                ·
                  by_cases h18 : pa = 35
                  · refine lv_tableIn (off := 100) (tgt := 101) hx hb dX6_joined_1 (by rw [h18]; decide) (by rw [h18]; decide) (by rw [h18]; decide) (by decide) ?_
                    refine lv_iload_n hx hb dX6_joined_101 rfl (lv_at hl 1 rfl) ?_
                    refine lv_iload_n hx hb dX6_joined_102 rfl (lv_at hl 2 rfl) ?_
                    refine lv_ior hx hb dX6_joined_103 ?_
                    exact W.iret (v := (pb ||| pc1)) hx hb hr (fun t ht9 hW => ⟨⟨(pb ||| pc1), (), rfl, trivial, by rw [ht9]; exact hP, hD⟩, hS.F ht9⟩) hS.2.2 dX6_joined_104
                  ·
                    refine lv_tableOut (tgt := 105) hx hb dX6_joined_1 (by have := lv_neT h1 (a := 27) (by decide); have := lv_neT h2 (a := 28) (by decide); have := lv_neT h3 (a := 29) (by decide); have := lv_neT h4 (a := 30) (by decide); have := lv_neT h8 (a := 31) (by decide); have := lv_neT h15 (a := 32) (by decide); have := lv_neT h16 (a := 33) (by decide); have := lv_neT h17 (a := 34) (by decide); have := lv_neT h18 (a := 35) (by decide); omega) (by decide) ?_
                    refine lv_iload_n hx hb dX6_joined_105 rfl (lv_at hl 1 rfl) ?_
                    refine lv_iload_n hx hb dX6_joined_106 rfl (lv_at hl 2 rfl) ?_
                    refine lv_iand hx hb dX6_joined_107 ?_
                    exact W.iret (v := (pb &&& pc1)) hx hb hr (fun t ht9 hW => ⟨⟨(pb &&& pc1), (), rfl, trivial, by rw [ht9]; exact hP, hD⟩, hS.F ht9⟩) hS.2.2 dX6_joined_108
set_option maxHeartbeats 4000000 in
set_option maxRecDepth 100000 in
theorem c_x_X6_branch (l : Launch) (dC : Nat → ClassId) (dI : Nat → Nat → Nat) (cI cB cZ cJ cR : ClassId) (tb : Nat → Nat) (sz : Nat) (ad : Nat → Nat) (pr : Int32 → Nat) (N : Nat) (L1 L2 : List Nat) (v : MS) (pa : Int32) (pb : Int32)  : Met l yX6_branch (Cond.code yX6_branch cX6_branch 3 none :: tw_W) ({ frames := 0, cells := 0, slots := 0, locals := 0 }) (pc_ (dC, dI) (tyS cI cB cZ cJ cR) tb (cW ad pr N cI cR L1 L2 v) sz [.ref (ad 906), .int pa, .int pb]) (qv_ (dC, dI) (cW ad pr N cI cR L1 L2 v) sz (fun (u : MS) => FC [349, 350] [0] v u ∧ (RS0 v u)) (fun (u : MS) => (cW ad pr N cI cR L1 L2 u))) 0 0 (va_A (cW ad pr N cI cR L1 L2 v) sz) := by
  refine Met.ofW (cc := cX6_branch) (maxL := 3) (ret := none) (by decide) rfl ?_
  intro p e s m args below meth c s₁ B hml hv
  obtain ⟨rfl, hsz, hP, hKK, hD0, hFx⟩ := hv
  have hK := hKK.1
  have hx := B.exec
  have hb := B.bytes
  have hr := B.returns
  have ht : ∀ w ∈ tw_W, w.before _ s = true := fun w h => atoms_spec (ws := Cond.code yX6_branch cX6_branch 3 none :: tw_W) B.pre w (List.mem_cons_of_mem _ h)
  have hown : s.vm.findClass RX6 = some m.cls := findClass_of_methodNamed B.named
  have hlocks := B.notSynchronized
  subst hsz
  unfold qv_
  have hD := hD0.self (sz := s.heap.size)
  generalize hAe : va_A (cW ad pr N cI cR L1 L2 v) s.heap.size = A at hD hFx ⊢
  have hA : ∀ q : Nat, s.heap.size ≤ q → A q := fun q h => by rw [← hAe]; exact Or.inr h
  have hS : va_S A s.heap s.heap [] := va_S.rf
  have hl := lv_entry ([.ref (ad 906), .int pa, .int pb]) (n := 3) (Nat.le_of_ble_eq_true rfl)
  rw [lg_entry_eq]
  generalize (lg_sl ([.ref (ad 906), .int pa, .int pb]) ++ List.replicate (3 - (lg_sl ([.ref (ad 906), .int pa, .int pb])).length) Slot.unset).toArray = ls at hl ⊢
  have hl : lv_has ls 3 [(0, .ref (ad 906)), (1, .int pa), (2, .int pb)] := hl
  refine lv_iload_n hx hb dX6_branch_0 rfl (lv_at hl 1 rfl) ?_
  refine lv_if_ne (tgt := 5) hx hb dX6_branch_1 (by decide) (fun h1 => ?_) (fun h1 => ?_)
  · have z2 : pa.toInt ≠ (0 : Int) := ne_z rfl (show (0 : Int32).toInt = (0 : Int) by decide) h1
    refine lv_iload_n hx hb dX6_branch_5 rfl (lv_at hl 2 rfl) ?_
    refine lv_iconst (v := 3) hx hb dX6_branch_6 (by decide) ?_
    refine lv_iand hx hb dX6_branch_7 ?_
    refine lv_if_eq (tgt := 19) hx hb dX6_branch_8 (by decide) (fun h3 => ?_) (fun h3 => ?_)
    · have z4 : (pb &&& (3 : Int32)).toInt = (0 : Int) := eq_z rfl (show (0 : Int32).toInt = (0 : Int) by decide) h3
      refine lv_aload_n hx hb dX6_branch_19 rfl (lv_at hl 0 rfl) ?_
      refine lv_iload_n hx hb dX6_branch_20 rfl (lv_at hl 2 rfl) ?_
      refine va_put (D := (dC, dI)) (ci := 9) (fs := oF_X6 ad pr v) (v := .int pb) (ty := .int) (C := RX6) (T := TX6) (N := 9) hx hb ht itX6 tyX6 tyX6_ok nmX6 hown hK hP hD hS 6 rfl rfl 3 (by decide) (ht _ tw_786) (fun _ h9 => h9) rfl (by decide +kernel) rfl rfl (Nat.le_of_ble_eq_true rfl) dX6_branch_21 (fun H locs hP hD hS => ?_)
      have hP := cP_ (cw_349 ad pr N cI cR L1 L2 v pb) hP
      have hD := cD_ (cw_349 ad pr N cI cR L1 L2 v pb) hD
      exact W.vret hx hb hr (fun t ht9 hW => ⟨⟨(wA v 0 349 pb), rfl, ⟨(FC.f (FC.rf _) pb (by decide)), (RS0.w RS0.rf (by decide))⟩, by rw [ht9]; exact hP, hD⟩, hS.F ht9⟩) hS.2.2 dX6_branch_24
    · have z5 : (pb &&& (3 : Int32)).toInt ≠ (0 : Int) := ne_z rfl (show (0 : Int32).toInt = (0 : Int) by decide) h3
      refine lv_aload_n hx hb dX6_branch_11 rfl (lv_at hl 0 rfl) ?_
      refine lv_iconst (v := 3) hx hb dX6_branch_12 (by decide) ?_
      refine va_put (D := (dC, dI)) (ci := 9) (fs := oF_X6 ad pr v) (v := .int 3) (ty := .int) (C := RX6) (T := TX6) (N := 9) hx hb ht itX6 tyX6 tyX6_ok nmX6 hown hK hP hD hS 6 rfl rfl 4 (by decide) (ht _ tw_778) (fun _ h9 => h9) rfl (by decide +kernel) rfl rfl (Nat.le_of_ble_eq_true rfl) dX6_branch_13 (fun H locs hP hD hS => ?_)
      have hP := cP_ (cw_350 ad pr N cI cR L1 L2 v 3) hP
      have hD := cD_ (cw_350 ad pr N cI cR L1 L2 v 3) hD
      refine lv_goto (tgt := 24) hx hb dX6_branch_16 (by decide) ?_
      exact W.vret hx hb hr (fun t ht9 hW => ⟨⟨(wA v 0 350 3), rfl, ⟨(FC.f (FC.rf _) 3 (by decide)), (RS0.w RS0.rf (by decide))⟩, by rw [ht9]; exact hP, hD⟩, hS.F ht9⟩) hS.2.2 dX6_branch_24
  · have z6 : pa.toInt = (0 : Int) := eq_z rfl (show (0 : Int32).toInt = (0 : Int) by decide) h1
    exact W.vret hx hb hr (fun t ht9 hW => ⟨⟨v, rfl, ⟨(FC.rf _), RS0.rf⟩, by rw [ht9]; exact hP, hD⟩, hS.F ht9⟩) hS.2.2 dX6_branch_4
set_option maxHeartbeats 4000000 in
set_option maxRecDepth 100000 in
theorem c_x_X6_jump (l : Launch) (dC : Nat → ClassId) (dI : Nat → Nat → Nat) (cI cB cZ cJ cR : ClassId) (tb : Nat → Nat) (sz : Nat) (ad : Nat → Nat) (pr : Int32 → Nat) (N : Nat) (L1 L2 : List Nat) (v : MS) (pa : Int32) (pb : Int32)  : Met l yX6_jump (Cond.code yX6_jump cX6_jump 3 none :: tw_W) ({ frames := 1, cells := 0, slots := 0, locals := 22 }) (pc_ (dC, dI) (tyS cI cB cZ cJ cR) tb (cW ad pr N cI cR L1 L2 v) sz [.ref (ad 906), .int pa, .int pb]) (qv_ (dC, dI) (cW ad pr N cI cR L1 L2 v) sz (fun (u : MS) => FC [349, 350] [0, 347] v u ∧ (RS0 v u)) (fun (u : MS) => (cW ad pr N cI cR L1 L2 u))) 0 0 (va_A (cW ad pr N cI cR L1 L2 v) sz) := by
  refine Met.ofW (cc := cX6_jump) (maxL := 3) (ret := none) (by decide) rfl ?_
  intro p e s m args below meth c s₁ B hml hv
  obtain ⟨rfl, hsz, hP, hKK, hD0, hFx⟩ := hv
  have hK := hKK.1
  have hx := B.exec
  have hb := B.bytes
  have hr := B.returns
  have ht : ∀ w ∈ tw_W, w.before _ s = true := fun w h => atoms_spec (ws := Cond.code yX6_jump cX6_jump 3 none :: tw_W) B.pre w (List.mem_cons_of_mem _ h)
  have hown : s.vm.findClass RX6 = some m.cls := findClass_of_methodNamed B.named
  have hlocks := B.notSynchronized
  subst hsz
  unfold qv_
  have hD := hD0.self (sz := s.heap.size)
  generalize hAe : va_A (cW ad pr N cI cR L1 L2 v) s.heap.size = A at hD hFx ⊢
  have hA : ∀ q : Nat, s.heap.size ≤ q → A q := fun q h => by rw [← hAe]; exact Or.inr h
  have hS : va_S A s.heap s.heap [] := va_S.rf
  have hl := lv_entry ([.ref (ad 906), .int pa, .int pb]) (n := 3) (Nat.le_of_ble_eq_true rfl)
  rw [lg_entry_eq]
  generalize (lg_sl ([.ref (ad 906), .int pa, .int pb]) ++ List.replicate (3 - (lg_sl ([.ref (ad 906), .int pa, .int pb])).length) Slot.unset).toArray = ls at hl ⊢
  have hl : lv_has ls 3 [(0, .ref (ad 906)), (1, .int pa), (2, .int pb)] := hl
  refine lv_aload_n hx hb dX6_jump_0 rfl (lv_at hl 0 rfl) ?_
  refine lv_iconst (v := 1) hx hb dX6_jump_1 (by decide) ?_
  refine lv_iload_n hx hb dX6_jump_2 rfl (lv_at hl 2 rfl) ?_
  refine cu_v (rn_Vk (n := 2) (As := [.int 1, .int pb]) (rest := []) hx hb hml hown ht hKK hFx hP hD hS hA (c_x_X6_branch l dC dI cI cB cZ cJ cR tb s.heap.size ad pr N L1 L2 v (1 : Int32) pb ) tw_787 tw_788 (by decide +kernel) rfl rfl ⟨Nat.le_of_ble_eq_true rfl, Nat.le_of_ble_eq_true rfl⟩ (List.range (cW ad pr N cI cR L1 L2 v).length) (rg_map _) (nd_range _) 6 rfl rfl rfl rfl hl.1 rfl (Nat.le_of_ble_eq_true rfl) dX6_jump_3 ⟨Nat.le_of_ble_eq_true rfl, Nat.le_of_ble_eq_true rfl⟩) hP hD hS hA (fun u2 H locs hw1 hP hD hS => ?_)
  obtain ⟨fr1, rs1⟩ := hw1
  refine W.widen (k := 0) (n := 0) (Nat.le_refl _) (Nat.le_refl _) ?_
  refine lv_aload_n hx hb dX6_jump_6 rfl (lv_at hl 0 rfl) ?_
  refine va_get (D := (dC, dI)) (ci := 9) (fs := oF_X6 ad pr u2) (v := .int (u2.1 0 350)) (C := RX6) (T := TX6) (N := 9) hx hb ht itX6 hown hK hP 6 rfl rfl 4 (by decide) (ht _ tw_778) (fun _ h9 => h9) rfl dX6_jump_7 ?_
  refine lv_if_ne (tgt := 24) hx hb dX6_jump_10 (by decide) (fun h4 => ?_) (fun h4 => ?_)
  · have z5 : (u2.1 0 350).toInt ≠ (0 : Int) := ne_z rfl (show (0 : Int32).toInt = (0 : Int) by decide) h4
    exact W.vret hx hb hr (fun t ht9 hW => ⟨⟨u2, rfl, ⟨(FC.tr (FC.rf _) (FC.up fr1 (by decide) (by decide))), (RS0.tr RS0.rf rs1)⟩, by rw [ht9]; exact hP, hD⟩, hS.F ht9⟩) hS.2.2 dX6_jump_24
  · have z6 : (u2.1 0 350).toInt = (0 : Int) := eq_z rfl (show (0 : Int32).toInt = (0 : Int) by decide) h4
    refine lv_aload_n hx hb dX6_jump_13 rfl (lv_at hl 0 rfl) ?_
    refine lv_iload_n hx hb dX6_jump_14 rfl (lv_at hl 1 rfl) ?_
    refine lv_aload_n hx hb dX6_jump_15 rfl (lv_at hl 0 rfl) ?_
    refine va_get (D := (dC, dI)) (ci := 9) (fs := oF_X6 ad pr u2) (v := .int (u2.1 0 348)) (C := RX6) (T := TX6) (N := 9) hx hb ht itX6 hown hK hP 6 rfl rfl 2 (by decide) (ht _ tw_779) (fun _ h9 => h9) rfl dX6_jump_16 ?_
    refine lv_iconst (v := 4) hx hb dX6_jump_19 (by decide) ?_
    refine lv_iadd hx hb dX6_jump_20 ?_
    refine cu_v (rn_Vk (n := 2) (As := [.int pa, .int ((u2.1 0 348) + (4 : Int32))]) (rest := []) hx hb hml hown ht hKK hFx hP hD hS hA (c_x_X6_write l dC dI cI cB cZ cJ cR tb H.size ad pr N L1 L2 u2 pa ((u2.1 0 348) + (4 : Int32)) ) tw_776 tw_777 (by decide +kernel) rfl rfl ⟨Nat.le_of_ble_eq_true rfl, Nat.le_of_ble_eq_true rfl⟩ (List.range (cW ad pr N cI cR L1 L2 u2).length) (rg_map _) (nd_range _) 6 rfl rfl rfl rfl hl.1 rfl (Nat.le_of_ble_eq_true rfl) dX6_jump_21 ⟨Nat.le_of_ble_eq_true rfl, Nat.le_of_ble_eq_true rfl⟩) hP hD hS hA (fun u8 H locs hw7 hP hD hS => ?_)
    obtain ⟨fr7, rs7⟩ := hw7
    have rs7 : RS0 u2 u8 := rs7
    refine W.widen (k := 0) (n := 0) (Nat.le_refl _) (Nat.le_refl _) ?_
    exact W.vret hx hb hr (fun t ht9 hW => ⟨⟨u8, rfl, ⟨(FC.tr (FC.tr (FC.rf _) (FC.up fr1 (by decide) (by decide))) (FC.up fr7 (by decide) (by decide))), (RS0.tr (RS0.tr RS0.rf rs1) rs7)⟩, by rw [ht9]; exact hP, hD⟩, hS.F ht9⟩) hS.2.2 dX6_jump_24
set_option maxHeartbeats 4000000 in
set_option maxRecDepth 100000 in
theorem c_x_X6_fetch (l : Launch) (dC : Nat → ClassId) (dI : Nat → Nat → Nat) (cI cB cZ cJ cR : ClassId) (tb : Nat → Nat) (sz : Nat) (ad : Nat → Nat) (pr : Int32 → Nat) (N : Nat) (L1 L2 : List Nat) (v : MS) (pa : Int32) (pb : Int32) (pc1 : Int32) (zNN : (N : Int) ≤ 4096) : Met l yX6_fetch (Cond.code yX6_fetch cX6_fetch 5 none :: tw_W) ({ frames := 2, cells := 0, slots := 0, locals := 43 }) (pc_ (dC, dI) (tyS cI cB cZ cJ cR) tb (cW ad pr N cI cR L1 L2 v) sz [.ref (ad 906), .int pa, .int pb, .int pc1]) (qv_ (dC, dI) (cW ad pr N cI cR L1 L2 v) sz (fun (u : MS) => FC [350] [0, 347] v u ∧ (RS0 v u)) (fun (u : MS) => (cW ad pr N cI cR L1 L2 u))) 0 0 (va_A (cW ad pr N cI cR L1 L2 v) sz) := by
  refine Met.ofW (cc := cX6_fetch) (maxL := 5) (ret := none) (by decide) rfl ?_
  intro p e s m args below meth c s₁ B hml hv
  obtain ⟨rfl, hsz, hP, hKK, hD0, hFx⟩ := hv
  have hK := hKK.1
  have hx := B.exec
  have hb := B.bytes
  have hr := B.returns
  have ht : ∀ w ∈ tw_W, w.before _ s = true := fun w h => atoms_spec (ws := Cond.code yX6_fetch cX6_fetch 5 none :: tw_W) B.pre w (List.mem_cons_of_mem _ h)
  have hown : s.vm.findClass RX6 = some m.cls := findClass_of_methodNamed B.named
  have hlocks := B.notSynchronized
  subst hsz
  unfold qv_
  have hD := hD0.self (sz := s.heap.size)
  generalize hAe : va_A (cW ad pr N cI cR L1 L2 v) s.heap.size = A at hD hFx ⊢
  have hA : ∀ q : Nat, s.heap.size ≤ q → A q := fun q h => by rw [← hAe]; exact Or.inr h
  have hS : va_S A s.heap s.heap [] := va_S.rf
  have hl := lv_entry ([.ref (ad 906), .int pa, .int pb, .int pc1]) (n := 5) (Nat.le_of_ble_eq_true rfl)
  rw [lg_entry_eq]
  generalize (lg_sl ([.ref (ad 906), .int pa, .int pb, .int pc1]) ++ List.replicate (5 - (lg_sl ([.ref (ad 906), .int pa, .int pb, .int pc1])).length) Slot.unset).toArray = ls at hl ⊢
  have hl : lv_has ls 5 [(0, .ref (ad 906)), (1, .int pa), (2, .int pb), (3, .int pc1)] := hl
  refine lv_aload_n hx hb dX6_fetch_0 rfl (lv_at hl 0 rfl) ?_
  refine lv_iload_n hx hb dX6_fetch_1 rfl (lv_at hl 3 rfl) ?_
  refine lv_iload_n hx hb dX6_fetch_2 rfl (lv_at hl 1 rfl) ?_
  refine cu_s (nd_range _) (rn_S (n := 1) (As := [.int pa]) (rest := [.int pc1, .ref (ad 906)]) hx hb hml hown ht hKK hFx hP hD hS hA (c_x_X6_bytesOf l dC dI cI cB cZ cJ cR tb s.heap.size pa ) tw_789 tw_790 (by decide +kernel) rfl rfl ⟨Nat.le_of_ble_eq_true rfl, Nat.le_of_ble_eq_true rfl⟩ [] rfl rfl rfl hl.1 rfl (Nat.le_of_ble_eq_true rfl) dX6_fetch_3 ⟨Nat.le_of_ble_eq_true rfl, Nat.le_of_ble_eq_true rfl⟩) hP hD hS hA (fun r3 H locs hw1 hP hD hS => ?_)
  refine W.widen (k := 0) (n := 0) (Nat.le_refl _) (Nat.le_refl _) ?_
  refine cu_i (rn_Vk (n := 2) (As := [.int pc1, .int r3]) (rest := []) hx hb hml hown ht hKK hFx hP hD hS hA (c_x_X6_isReached l dC dI cI cB cZ cJ cR tb H.size ad pr N L1 L2 v pc1 r3 (show (N : Int) ≤ 4096 from (om_1c2c49c46c zNN))) tw_791 tw_792 (by decide +kernel) rfl rfl ⟨Nat.le_of_ble_eq_true rfl, Nat.le_of_ble_eq_true rfl⟩ (List.range (cW ad pr N cI cR L1 L2 v).length) (rg_map _) (nd_range _) 6 rfl rfl rfl rfl hl.1 rfl (Nat.le_of_ble_eq_true rfl) dX6_fetch_6 ⟨Nat.le_of_ble_eq_true rfl, Nat.le_of_ble_eq_true rfl⟩) hP hD hS hA (fun r6 u5 H locs hw4 hP hD hS => ?_)
  obtain ⟨rfl, b4, e4⟩ := hw4
  refine W.widen (k := 0) (n := 0) (Nat.le_refl _) (Nat.le_refl _) ?_
  refine lv_if_ne (tgt := 18) hx hb dX6_fetch_9 (by decide) (fun h7 => ?_) (fun h7 => ?_)
  · have z8 : r6.toInt ≠ (0 : Int) := ne_z rfl (show (0 : Int32).toInt = (0 : Int) by decide) h7
    refine lv_aload_n hx hb dX6_fetch_18 rfl (lv_at hl 0 rfl) ?_
    refine lv_iload_n hx hb dX6_fetch_19 rfl (lv_at hl 3 rfl) ?_
    refine cu_i (rn_Vk (n := 1) (As := [.int pc1]) (rest := []) hx hb hml hown ht hKK hFx hP hD hS hA (c_x_X6_wordAt l dC dI cI cB cZ cJ cR tb H.size ad pr N L1 L2 v pc1 (show (N : Int) ≤ 4096 from (om_1c2c49c46c zNN))) tw_793 tw_794 (by decide +kernel) rfl rfl ⟨Nat.le_of_ble_eq_true rfl, Nat.le_of_ble_eq_true rfl⟩ (List.range (cW ad pr N cI cR L1 L2 v).length) (rg_map _) (nd_range _) 6 rfl rfl rfl rfl hl.1 rfl (Nat.le_of_ble_eq_true rfl) dX6_fetch_20 ⟨Nat.le_of_ble_eq_true rfl, Nat.le_of_ble_eq_true rfl⟩) hP hD hS hA (fun r11 u10 H locs hw9 hP hD hS => ?_)
    obtain rfl := hw9
    refine W.widen (k := 0) (n := 0) (Nat.le_refl _) (Nat.le_refl _) ?_
    refine lv_bipush (v := 8) hx hb dX6_fetch_23 (by decide) ?_
    refine lv_iload_n hx hb dX6_fetch_25 rfl (lv_at hl 3 rfl) ?_
    refine lv_iconst (v := 3) hx hb dX6_fetch_26 (by decide) ?_
    refine lv_iand hx hb dX6_fetch_27 ?_
    refine lv_imul hx hb dX6_fetch_28 ?_
    refine lv_iushr hx hb dX6_fetch_29 rfl ?_
    refine lv_istore (lv' := [(4, .int ((r11.toUInt32 >>> (((8 : Int32) * (pc1 &&& (3 : Int32))).toUInt32 &&& Int32.toUInt32 31)).toInt32)), (0, .ref (ad 906)), (1, .int pa), (2, .int pb), (3, .int pc1)]) hx hb dX6_fetch_30 hl (by decide) rfl (fun ls hl => ?_)
    refine lv_iload_n hx hb dX6_fetch_32 rfl (lv_at hl 2 rfl) ?_
    by_cases h12 : pa = 10
    · refine lv_tableIn (off := 35) (tgt := 68) hx hb dX6_fetch_33 (by rw [h12]; decide) (by rw [h12]; decide) (by rw [h12]; decide) (by decide) ?_
      refine lv_aload_n hx hb dX6_fetch_68 rfl (lv_at hl 1 rfl) ?_
      refine lv_iload_n hx hb dX6_fetch_69 rfl (lv_at hl 3 rfl) ?_
      refine lv_iload hx hb dX6_fetch_70 (lv_at hl 0 rfl) ?_
      refine lv_i2b hx hb dX6_fetch_72 rfl ?_
      refine cu_v (rn_Vk (n := 2) (As := [.int pb, .int (((r11.toUInt32 >>> (((8 : Int32) * (pc1 &&& (3 : Int32))).toUInt32 &&& Int32.toUInt32 31)).toInt32).toInt8.toInt32)]) (rest := []) hx hb hml hown ht hKK hFx hP hD hS hA (c_x_X6_write l dC dI cI cB cZ cJ cR tb H.size ad pr N L1 L2 v pb (((r11.toUInt32 >>> (((8 : Int32) * (pc1 &&& (3 : Int32))).toUInt32 &&& Int32.toUInt32 31)).toInt32).toInt8.toInt32) ) tw_776 tw_777 (by decide +kernel) rfl rfl ⟨Nat.le_of_ble_eq_true rfl, Nat.le_of_ble_eq_true rfl⟩ (List.range (cW ad pr N cI cR L1 L2 v).length) (rg_map _) (nd_range _) 6 rfl rfl rfl rfl hl.1 rfl (Nat.le_of_ble_eq_true rfl) dX6_fetch_73 ⟨Nat.le_of_ble_eq_true rfl, Nat.le_of_ble_eq_true rfl⟩) hP hD hS hA (fun u14 H locs hw13 hP hD hS => ?_)
      obtain ⟨fr13, rs13⟩ := hw13
      refine W.widen (k := 0) (n := 0) (Nat.le_refl _) (Nat.le_refl _) ?_
      refine lv_goto (tgt := 124) hx hb dX6_fetch_76 (by decide) ?_
      exact W.vret hx hb hr (fun t ht9 hW => ⟨⟨u14, rfl, ⟨(FC.tr (FC.rf _) (FC.up fr13 (by decide) (by decide))), (RS0.tr RS0.rf rs13)⟩, by rw [ht9]; exact hP, hD⟩, hS.F ht9⟩) hS.2.2 dX6_fetch_124
    ·
      by_cases h16 : pa = 11
      · refine lv_tableIn (off := 60) (tgt := 93) hx hb dX6_fetch_33 (by rw [h16]; decide) (by rw [h16]; decide) (by rw [h16]; decide) (by decide) ?_
        refine lv_aload_n hx hb dX6_fetch_93 rfl (lv_at hl 1 rfl) ?_
        refine lv_iload_n hx hb dX6_fetch_94 rfl (lv_at hl 3 rfl) ?_
        refine lv_iload hx hb dX6_fetch_95 (lv_at hl 0 rfl) ?_
        refine lv_i2s hx hb dX6_fetch_97 rfl ?_
        refine cu_v (rn_Vk (n := 2) (As := [.int pb, .int (((r11.toUInt32 >>> (((8 : Int32) * (pc1 &&& (3 : Int32))).toUInt32 &&& Int32.toUInt32 31)).toInt32).toInt16.toInt32)]) (rest := []) hx hb hml hown ht hKK hFx hP hD hS hA (c_x_X6_write l dC dI cI cB cZ cJ cR tb H.size ad pr N L1 L2 v pb (((r11.toUInt32 >>> (((8 : Int32) * (pc1 &&& (3 : Int32))).toUInt32 &&& Int32.toUInt32 31)).toInt32).toInt16.toInt32) ) tw_776 tw_777 (by decide +kernel) rfl rfl ⟨Nat.le_of_ble_eq_true rfl, Nat.le_of_ble_eq_true rfl⟩ (List.range (cW ad pr N cI cR L1 L2 v).length) (rg_map _) (nd_range _) 6 rfl rfl rfl rfl hl.1 rfl (Nat.le_of_ble_eq_true rfl) dX6_fetch_98 ⟨Nat.le_of_ble_eq_true rfl, Nat.le_of_ble_eq_true rfl⟩) hP hD hS hA (fun u18 H locs hw17 hP hD hS => ?_)
        obtain ⟨fr17, rs17⟩ := hw17
        refine W.widen (k := 0) (n := 0) (Nat.le_refl _) (Nat.le_refl _) ?_
        refine lv_goto (tgt := 124) hx hb dX6_fetch_101 (by decide) ?_
        exact W.vret hx hb hr (fun t ht9 hW => ⟨⟨u18, rfl, ⟨(FC.tr (FC.rf _) (FC.up fr17 (by decide) (by decide))), (RS0.tr RS0.rf rs17)⟩, by rw [ht9]; exact hP, hD⟩, hS.F ht9⟩) hS.2.2 dX6_fetch_124
      ·
        by_cases h20 : pa = 12
        · refine lv_tableIn (off := 84) (tgt := 117) hx hb dX6_fetch_33 (by rw [h20]; decide) (by rw [h20]; decide) (by rw [h20]; decide) (by decide) ?_
          refine lv_aload_n hx hb dX6_fetch_117 rfl (lv_at hl 1 rfl) ?_
          refine lv_iload_n hx hb dX6_fetch_118 rfl (lv_at hl 3 rfl) ?_
          refine lv_iload hx hb dX6_fetch_119 (lv_at hl 0 rfl) ?_
          refine cu_v (rn_Vk (n := 2) (As := [.int pb, .int ((r11.toUInt32 >>> (((8 : Int32) * (pc1 &&& (3 : Int32))).toUInt32 &&& Int32.toUInt32 31)).toInt32)]) (rest := []) hx hb hml hown ht hKK hFx hP hD hS hA (c_x_X6_write l dC dI cI cB cZ cJ cR tb H.size ad pr N L1 L2 v pb ((r11.toUInt32 >>> (((8 : Int32) * (pc1 &&& (3 : Int32))).toUInt32 &&& Int32.toUInt32 31)).toInt32) ) tw_776 tw_777 (by decide +kernel) rfl rfl ⟨Nat.le_of_ble_eq_true rfl, Nat.le_of_ble_eq_true rfl⟩ (List.range (cW ad pr N cI cR L1 L2 v).length) (rg_map _) (nd_range _) 6 rfl rfl rfl rfl hl.1 rfl (Nat.le_of_ble_eq_true rfl) dX6_fetch_121 ⟨Nat.le_of_ble_eq_true rfl, Nat.le_of_ble_eq_true rfl⟩) hP hD hS hA (fun u22 H locs hw21 hP hD hS => ?_)
          obtain ⟨fr21, rs21⟩ := hw21
          refine W.widen (k := 0) (n := 0) (Nat.le_refl _) (Nat.le_refl _) ?_
          exact W.vret hx hb hr (fun t ht9 hW => ⟨⟨u22, rfl, ⟨(FC.tr (FC.rf _) (FC.up fr21 (by decide) (by decide))), (RS0.tr RS0.rf rs21)⟩, by rw [ht9]; exact hP, hD⟩, hS.F ht9⟩) hS.2.2 dX6_fetch_124
        ·
          by_cases h24 : pa = 13
          · refine lv_tableIn (off := 46) (tgt := 79) hx hb dX6_fetch_33 (by rw [h24]; decide) (by rw [h24]; decide) (by rw [h24]; decide) (by decide) ?_
            refine lv_aload_n hx hb dX6_fetch_79 rfl (lv_at hl 1 rfl) ?_
            refine lv_iload_n hx hb dX6_fetch_80 rfl (lv_at hl 3 rfl) ?_
            refine lv_iload hx hb dX6_fetch_81 (lv_at hl 0 rfl) ?_
            refine lv_sipush (v := 255) hx hb dX6_fetch_83 (by decide) ?_
            refine lv_iand hx hb dX6_fetch_86 ?_
            refine cu_v (rn_Vk (n := 2) (As := [.int pb, .int (((r11.toUInt32 >>> (((8 : Int32) * (pc1 &&& (3 : Int32))).toUInt32 &&& Int32.toUInt32 31)).toInt32) &&& (255 : Int32))]) (rest := []) hx hb hml hown ht hKK hFx hP hD hS hA (c_x_X6_write l dC dI cI cB cZ cJ cR tb H.size ad pr N L1 L2 v pb (((r11.toUInt32 >>> (((8 : Int32) * (pc1 &&& (3 : Int32))).toUInt32 &&& Int32.toUInt32 31)).toInt32) &&& (255 : Int32)) ) tw_776 tw_777 (by decide +kernel) rfl rfl ⟨Nat.le_of_ble_eq_true rfl, Nat.le_of_ble_eq_true rfl⟩ (List.range (cW ad pr N cI cR L1 L2 v).length) (rg_map _) (nd_range _) 6 rfl rfl rfl rfl hl.1 rfl (Nat.le_of_ble_eq_true rfl) dX6_fetch_87 ⟨Nat.le_of_ble_eq_true rfl, Nat.le_of_ble_eq_true rfl⟩) hP hD hS hA (fun u26 H locs hw25 hP hD hS => ?_)
            obtain ⟨fr25, rs25⟩ := hw25
            refine W.widen (k := 0) (n := 0) (Nat.le_refl _) (Nat.le_refl _) ?_
            refine lv_goto (tgt := 124) hx hb dX6_fetch_90 (by decide) ?_
            exact W.vret hx hb hr (fun t ht9 hW => ⟨⟨u26, rfl, ⟨(FC.tr (FC.rf _) (FC.up fr25 (by decide) (by decide))), (RS0.tr RS0.rf rs25)⟩, by rw [ht9]; exact hP, hD⟩, hS.F ht9⟩) hS.2.2 dX6_fetch_124
          ·
            by_cases h28 : pa = 14
            · refine lv_tableIn (off := 71) (tgt := 104) hx hb dX6_fetch_33 (by rw [h28]; decide) (by rw [h28]; decide) (by rw [h28]; decide) (by decide) ?_
              refine lv_aload_n hx hb dX6_fetch_104 rfl (lv_at hl 1 rfl) ?_
              refine lv_iload_n hx hb dX6_fetch_105 rfl (lv_at hl 3 rfl) ?_
              refine lv_iload hx hb dX6_fetch_106 (lv_at hl 0 rfl) ?_
              refine lv_ldc (v := 65535) hx hb hown (ht _ tw_795) dX6_fetch_108 ?_
              refine lv_iand hx hb dX6_fetch_110 ?_
              refine cu_v (rn_Vk (n := 2) (As := [.int pb, .int (((r11.toUInt32 >>> (((8 : Int32) * (pc1 &&& (3 : Int32))).toUInt32 &&& Int32.toUInt32 31)).toInt32) &&& (65535 : Int32))]) (rest := []) hx hb hml hown ht hKK hFx hP hD hS hA (c_x_X6_write l dC dI cI cB cZ cJ cR tb H.size ad pr N L1 L2 v pb (((r11.toUInt32 >>> (((8 : Int32) * (pc1 &&& (3 : Int32))).toUInt32 &&& Int32.toUInt32 31)).toInt32) &&& (65535 : Int32)) ) tw_776 tw_777 (by decide +kernel) rfl rfl ⟨Nat.le_of_ble_eq_true rfl, Nat.le_of_ble_eq_true rfl⟩ (List.range (cW ad pr N cI cR L1 L2 v).length) (rg_map _) (nd_range _) 6 rfl rfl rfl rfl hl.1 rfl (Nat.le_of_ble_eq_true rfl) dX6_fetch_111 ⟨Nat.le_of_ble_eq_true rfl, Nat.le_of_ble_eq_true rfl⟩) hP hD hS hA (fun u30 H locs hw29 hP hD hS => ?_)
              obtain ⟨fr29, rs29⟩ := hw29
              refine W.widen (k := 0) (n := 0) (Nat.le_refl _) (Nat.le_refl _) ?_
              refine lv_goto (tgt := 124) hx hb dX6_fetch_114 (by decide) ?_
              exact W.vret hx hb hr (fun t ht9 hW => ⟨⟨u30, rfl, ⟨(FC.tr (FC.rf _) (FC.up fr29 (by decide) (by decide))), (RS0.tr RS0.rf rs29)⟩, by rw [ht9]; exact hP, hD⟩, hS.F ht9⟩) hS.2.2 dX6_fetch_124
            ·
              refine lv_tableOut (tgt := 117) hx hb dX6_fetch_33 (by have := lv_neT h12 (a := 10) (by decide); have := lv_neT h16 (a := 11) (by decide); have := lv_neT h20 (a := 12) (by decide); have := lv_neT h24 (a := 13) (by decide); have := lv_neT h28 (a := 14) (by decide); omega) (by decide) ?_
              refine lv_aload_n hx hb dX6_fetch_117 rfl (lv_at hl 1 rfl) ?_
              refine lv_iload_n hx hb dX6_fetch_118 rfl (lv_at hl 3 rfl) ?_
              refine lv_iload hx hb dX6_fetch_119 (lv_at hl 0 rfl) ?_
              refine cu_v (rn_Vk (n := 2) (As := [.int pb, .int ((r11.toUInt32 >>> (((8 : Int32) * (pc1 &&& (3 : Int32))).toUInt32 &&& Int32.toUInt32 31)).toInt32)]) (rest := []) hx hb hml hown ht hKK hFx hP hD hS hA (c_x_X6_write l dC dI cI cB cZ cJ cR tb H.size ad pr N L1 L2 v pb ((r11.toUInt32 >>> (((8 : Int32) * (pc1 &&& (3 : Int32))).toUInt32 &&& Int32.toUInt32 31)).toInt32) ) tw_776 tw_777 (by decide +kernel) rfl rfl ⟨Nat.le_of_ble_eq_true rfl, Nat.le_of_ble_eq_true rfl⟩ (List.range (cW ad pr N cI cR L1 L2 v).length) (rg_map _) (nd_range _) 6 rfl rfl rfl rfl hl.1 rfl (Nat.le_of_ble_eq_true rfl) dX6_fetch_121 ⟨Nat.le_of_ble_eq_true rfl, Nat.le_of_ble_eq_true rfl⟩) hP hD hS hA (fun u33 H locs hw32 hP hD hS => ?_)
              obtain ⟨fr32, rs32⟩ := hw32
              refine W.widen (k := 0) (n := 0) (Nat.le_refl _) (Nat.le_refl _) ?_
              exact W.vret hx hb hr (fun t ht9 hW => ⟨⟨u33, rfl, ⟨(FC.tr (FC.rf _) (FC.up fr32 (by decide) (by decide))), (RS0.tr RS0.rf rs32)⟩, by rw [ht9]; exact hP, hD⟩, hS.F ht9⟩) hS.2.2 dX6_fetch_124
  · have z35 : r6.toInt = (0 : Int) := eq_z rfl (show (0 : Int32).toInt = (0 : Int) by decide) h7
    refine lv_aload_n hx hb dX6_fetch_12 rfl (lv_at hl 0 rfl) ?_
    refine lv_iconst (v := 3) hx hb dX6_fetch_13 (by decide) ?_
    refine va_put (D := (dC, dI)) (ci := 9) (fs := oF_X6 ad pr v) (v := .int 3) (ty := .int) (C := RX6) (T := TX6) (N := 9) hx hb ht itX6 tyX6 tyX6_ok nmX6 hown hK hP hD hS 6 rfl rfl 4 (by decide) (ht _ tw_778) (fun _ h9 => h9) rfl (by decide +kernel) rfl rfl (Nat.le_of_ble_eq_true rfl) dX6_fetch_14 (fun H locs hP hD hS => ?_)
    have hP := cP_ (cw_350 ad pr N cI cR L1 L2 v 3) hP
    have hD := cD_ (cw_350 ad pr N cI cR L1 L2 v 3) hD
    exact W.vret hx hb hr (fun t ht9 hW => ⟨⟨(wA v 0 350 3), rfl, ⟨(FC.f (FC.rf _) 3 (by decide)), (RS0.w RS0.rf (by decide))⟩, by rw [ht9]; exact hP, hD⟩, hS.F ht9⟩) hS.2.2 dX6_fetch_17
set_option maxHeartbeats 4000000 in
set_option maxRecDepth 100000 in
theorem c_x_X6_store (l : Launch) (dC : Nat → ClassId) (dI : Nat → Nat → Nat) (cI cB cZ cJ cR : ClassId) (tb : Nat → Nat) (sz : Nat) (ad : Nat → Nat) (pr : Int32 → Nat) (N : Nat) (L1 L2 : List Nat) (v : MS) (pa : Int32) (pb : Int32) (pc1 : Int32) (zNN : (N : Int) ≤ 4096) : Met l yX6_store (Cond.code yX6_store cX6_store 7 none :: tw_W) ({ frames := 2, cells := 0, slots := 0, locals := 43 }) (pc_ (dC, dI) (tyS cI cB cZ cJ cR) tb (cW ad pr N cI cR L1 L2 v) sz [.ref (ad 906), .int pa, .int pb, .int pc1]) (qv_ (dC, dI) (cW ad pr N cI cR L1 L2 v) sz (fun (u : MS) => FC [350] [0, 346] v u ∧ (RS0 v u)) (fun (u : MS) => (cW ad pr N cI cR L1 L2 u))) 0 0 (va_A (cW ad pr N cI cR L1 L2 v) sz) := by
  refine Met.ofW (cc := cX6_store) (maxL := 7) (ret := none) (by decide) rfl ?_
  intro p e s m args below meth c s₁ B hml hv
  obtain ⟨rfl, hsz, hP, hKK, hD0, hFx⟩ := hv
  have hK := hKK.1
  have hx := B.exec
  have hb := B.bytes
  have hr := B.returns
  have ht : ∀ w ∈ tw_W, w.before _ s = true := fun w h => atoms_spec (ws := Cond.code yX6_store cX6_store 7 none :: tw_W) B.pre w (List.mem_cons_of_mem _ h)
  have hown : s.vm.findClass RX6 = some m.cls := findClass_of_methodNamed B.named
  have hlocks := B.notSynchronized
  subst hsz
  unfold qv_
  have hD := hD0.self (sz := s.heap.size)
  generalize hAe : va_A (cW ad pr N cI cR L1 L2 v) s.heap.size = A at hD hFx ⊢
  have hA : ∀ q : Nat, s.heap.size ≤ q → A q := fun q h => by rw [← hAe]; exact Or.inr h
  have hS : va_S A s.heap s.heap [] := va_S.rf
  have hl := lv_entry ([.ref (ad 906), .int pa, .int pb, .int pc1]) (n := 7) (Nat.le_of_ble_eq_true rfl)
  rw [lg_entry_eq]
  generalize (lg_sl ([.ref (ad 906), .int pa, .int pb, .int pc1]) ++ List.replicate (7 - (lg_sl ([.ref (ad 906), .int pa, .int pb, .int pc1])).length) Slot.unset).toArray = ls at hl ⊢
  have hl : lv_has ls 7 [(0, .ref (ad 906)), (1, .int pa), (2, .int pb), (3, .int pc1)] := hl
  refine lv_iload_n hx hb dX6_store_0 rfl (lv_at hl 1 rfl) ?_
  refine cu_s (nd_range _) (rn_S (n := 1) (As := [.int pa]) (rest := []) hx hb hml hown ht hKK hFx hP hD hS hA (c_x_X6_bytesOf l dC dI cI cB cZ cJ cR tb s.heap.size pa ) tw_789 tw_790 (by decide +kernel) rfl rfl ⟨Nat.le_of_ble_eq_true rfl, Nat.le_of_ble_eq_true rfl⟩ [] rfl rfl rfl hl.1 rfl (Nat.le_of_ble_eq_true rfl) dX6_store_1 ⟨Nat.le_of_ble_eq_true rfl, Nat.le_of_ble_eq_true rfl⟩) hP hD hS hA (fun r3 H locs hw1 hP hD hS => ?_)
  refine W.widen (k := 0) (n := 0) (Nat.le_refl _) (Nat.le_refl _) ?_
  refine lv_istore (lv' := [(4, .int r3), (0, .ref (ad 906)), (1, .int pa), (2, .int pb), (3, .int pc1)]) hx hb dX6_store_4 hl (by decide) rfl (fun ls hl => ?_)
  refine lv_aload_n hx hb dX6_store_6 rfl (lv_at hl 1 rfl) ?_
  refine lv_iload_n hx hb dX6_store_7 rfl (lv_at hl 4 rfl) ?_
  refine lv_iload hx hb dX6_store_8 (lv_at hl 0 rfl) ?_
  refine cu_i (rn_Vk (n := 2) (As := [.int pc1, .int r3]) (rest := []) hx hb hml hown ht hKK hFx hP hD hS hA (c_x_X6_isReached l dC dI cI cB cZ cJ cR tb H.size ad pr N L1 L2 v pc1 r3 (show (N : Int) ≤ 4096 from (om_1c2c49c46c zNN))) tw_791 tw_792 (by decide +kernel) rfl rfl ⟨Nat.le_of_ble_eq_true rfl, Nat.le_of_ble_eq_true rfl⟩ (List.range (cW ad pr N cI cR L1 L2 v).length) (rg_map _) (nd_range _) 6 rfl rfl rfl rfl hl.1 rfl (Nat.le_of_ble_eq_true rfl) dX6_store_10 ⟨Nat.le_of_ble_eq_true rfl, Nat.le_of_ble_eq_true rfl⟩) hP hD hS hA (fun r6 u5 H locs hw4 hP hD hS => ?_)
  obtain ⟨rfl, b4, e4⟩ := hw4
  refine W.widen (k := 0) (n := 0) (Nat.le_refl _) (Nat.le_refl _) ?_
  refine lv_if_ne (tgt := 22) hx hb dX6_store_13 (by decide) (fun h7 => ?_) (fun h7 => ?_)
  · have z8 : r6.toInt ≠ (0 : Int) := ne_z rfl (show (0 : Int32).toInt = (0 : Int) by decide) h7
    refine lv_bipush (v := 8) hx hb dX6_store_22 (by decide) ?_
    refine lv_iload_n hx hb dX6_store_24 rfl (lv_at hl 4 rfl) ?_
    refine lv_iconst (v := 3) hx hb dX6_store_25 (by decide) ?_
    refine lv_iand hx hb dX6_store_26 ?_
    refine lv_imul hx hb dX6_store_27 ?_
    refine lv_istore (lv' := [(5, .int ((8 : Int32) * (pc1 &&& (3 : Int32)))), (4, .int r3), (0, .ref (ad 906)), (1, .int pa), (2, .int pb), (3, .int pc1)]) hx hb dX6_store_28 hl (by decide) rfl (fun ls hl => ?_)
    refine lv_iload hx hb dX6_store_30 (lv_at hl 1 rfl) ?_
    refine lv_iconst (v := 4) hx hb dX6_store_32 (by decide) ?_
    refine lv_icmp_ne (tgt := 40) hx hb dX6_store_33 (by decide) (fun h9 => ?_) (fun h9 => ?_)
    · have z10 : r3.toInt ≠ (4 : Int) := ne_z rfl (show (4 : Int32).toInt = (4 : Int) by decide) h9
      refine lv_iconst (v := 1) hx hb dX6_store_40 (by decide) ?_
      refine lv_bipush (v := 8) hx hb dX6_store_41 (by decide) ?_
      refine lv_iload hx hb dX6_store_43 (lv_at hl 1 rfl) ?_
      refine lv_imul hx hb dX6_store_45 ?_
      refine lv_ishl hx hb dX6_store_46 ?_
      refine lv_iconst (v := 1) hx hb dX6_store_47 (by decide) ?_
      refine lv_isub hx hb dX6_store_48 ?_
      refine lv_iload hx hb dX6_store_49 (lv_at hl 0 rfl) ?_
      refine lv_ishl hx hb dX6_store_51 ?_
      refine lv_istore (lv' := [(6, .int ((((1 : Int32) <<< (((8 : Int32) * r3) &&& 31)) - (1 : Int32)) <<< (((8 : Int32) * (pc1 &&& (3 : Int32))) &&& 31))), (5, .int ((8 : Int32) * (pc1 &&& (3 : Int32)))), (4, .int r3), (0, .ref (ad 906)), (1, .int pa), (2, .int pb), (3, .int pc1)]) hx hb dX6_store_52 hl (by decide) rfl (fun ls hl => ?_)
      refine lv_aload_n hx hb dX6_store_54 rfl (lv_at hl 3 rfl) ?_
      refine lv_iload_n hx hb dX6_store_55 rfl (lv_at hl 6 rfl) ?_
      refine lv_aload_n hx hb dX6_store_56 rfl (lv_at hl 3 rfl) ?_
      refine lv_iload_n hx hb dX6_store_57 rfl (lv_at hl 6 rfl) ?_
      refine cu_i (rn_Vk (n := 1) (As := [.int pc1]) (rest := [.int pc1, .ref (ad 906)]) hx hb hml hown ht hKK hFx hP hD hS hA (c_x_X6_wordAt l dC dI cI cB cZ cJ cR tb H.size ad pr N L1 L2 v pc1 (show (N : Int) ≤ 4096 from (om_1c2c49c46c zNN))) tw_793 tw_794 (by decide +kernel) rfl rfl ⟨Nat.le_of_ble_eq_true rfl, Nat.le_of_ble_eq_true rfl⟩ (List.range (cW ad pr N cI cR L1 L2 v).length) (rg_map _) (nd_range _) 6 rfl rfl rfl rfl hl.1 rfl (Nat.le_of_ble_eq_true rfl) dX6_store_58 ⟨Nat.le_of_ble_eq_true rfl, Nat.le_of_ble_eq_true rfl⟩) hP hD hS hA (fun r13 u12 H locs hw11 hP hD hS => ?_)
      obtain rfl := hw11
      refine W.widen (k := 0) (n := 0) (Nat.le_refl _) (Nat.le_refl _) ?_
      refine lv_iload hx hb dX6_store_61 (lv_at hl 0 rfl) ?_
      refine lv_iconst (v := -1) hx hb dX6_store_63 (by decide) ?_
      refine lv_ixor hx hb dX6_store_64 ?_
      refine lv_iand hx hb dX6_store_65 ?_
      refine lv_iload_n hx hb dX6_store_66 rfl (lv_at hl 5 rfl) ?_
      refine lv_iload hx hb dX6_store_67 (lv_at hl 1 rfl) ?_
      refine lv_ishl hx hb dX6_store_69 ?_
      refine lv_iload hx hb dX6_store_70 (lv_at hl 0 rfl) ?_
      refine lv_iand hx hb dX6_store_72 ?_
      refine lv_ior hx hb dX6_store_73 ?_
      refine cu_v (rn_Vk (n := 2) (As := [.int pc1, .int ((r13 &&& (((((1 : Int32) <<< (((8 : Int32) * r3) &&& 31)) - (1 : Int32)) <<< (((8 : Int32) * (pc1 &&& (3 : Int32))) &&& 31)) ^^^ ((-1) : Int32))) ||| ((pb <<< (((8 : Int32) * (pc1 &&& (3 : Int32))) &&& 31)) &&& ((((1 : Int32) <<< (((8 : Int32) * r3) &&& 31)) - (1 : Int32)) <<< (((8 : Int32) * (pc1 &&& (3 : Int32))) &&& 31))))]) (rest := []) hx hb hml hown ht hKK hFx hP hD hS hA (c_x_X6_layWord l dC dI cI cB cZ cJ cR tb H.size ad pr N L1 L2 v pc1 ((r13 &&& (((((1 : Int32) <<< (((8 : Int32) * r3) &&& 31)) - (1 : Int32)) <<< (((8 : Int32) * (pc1 &&& (3 : Int32))) &&& 31)) ^^^ ((-1) : Int32))) ||| ((pb <<< (((8 : Int32) * (pc1 &&& (3 : Int32))) &&& 31)) &&& ((((1 : Int32) <<< (((8 : Int32) * r3) &&& 31)) - (1 : Int32)) <<< (((8 : Int32) * (pc1 &&& (3 : Int32))) &&& 31)))) (show (N : Int) ≤ 4096 from (om_1c2c49c46c zNN))) tw_796 tw_797 (by decide +kernel) rfl rfl ⟨Nat.le_of_ble_eq_true rfl, Nat.le_of_ble_eq_true rfl⟩ (List.range (cW ad pr N cI cR L1 L2 v).length) (rg_map _) (nd_range _) 6 rfl rfl rfl rfl hl.1 rfl (Nat.le_of_ble_eq_true rfl) dX6_store_74 ⟨Nat.le_of_ble_eq_true rfl, Nat.le_of_ble_eq_true rfl⟩) hP hD hS hA (fun u15 H locs hw14 hP hD hS => ?_)
      obtain ⟨fr14, rs14⟩ := hw14
      refine W.widen (k := 0) (n := 0) (Nat.le_refl _) (Nat.le_refl _) ?_
      exact W.vret hx hb hr (fun t ht9 hW => ⟨⟨u15, rfl, ⟨(FC.tr (FC.rf _) (FC.up fr14 (by decide) (by decide))), (RS0.tr RS0.rf rs14)⟩, by rw [ht9]; exact hP, hD⟩, hS.F ht9⟩) hS.2.2 dX6_store_77
    · have z17 : r3.toInt = (4 : Int) := eq_z rfl (show (4 : Int32).toInt = (4 : Int) by decide) h9
      refine lv_iconst (v := -1) hx hb dX6_store_36 (by decide) ?_
      refine lv_goto (tgt := 49) hx hb dX6_store_37 (by decide) ?_
      refine lv_iload hx hb dX6_store_49 (lv_at hl 0 rfl) ?_
      refine lv_ishl hx hb dX6_store_51 ?_
      refine lv_istore (lv' := [(6, .int (((-1) : Int32) <<< (((8 : Int32) * (pc1 &&& (3 : Int32))) &&& 31))), (5, .int ((8 : Int32) * (pc1 &&& (3 : Int32)))), (4, .int r3), (0, .ref (ad 906)), (1, .int pa), (2, .int pb), (3, .int pc1)]) hx hb dX6_store_52 hl (by decide) rfl (fun ls hl => ?_)
      refine lv_aload_n hx hb dX6_store_54 rfl (lv_at hl 3 rfl) ?_
      refine lv_iload_n hx hb dX6_store_55 rfl (lv_at hl 6 rfl) ?_
      refine lv_aload_n hx hb dX6_store_56 rfl (lv_at hl 3 rfl) ?_
      refine lv_iload_n hx hb dX6_store_57 rfl (lv_at hl 6 rfl) ?_
      refine cu_i (rn_Vk (n := 1) (As := [.int pc1]) (rest := [.int pc1, .ref (ad 906)]) hx hb hml hown ht hKK hFx hP hD hS hA (c_x_X6_wordAt l dC dI cI cB cZ cJ cR tb H.size ad pr N L1 L2 v pc1 (show (N : Int) ≤ 4096 from (om_1c2c49c46c zNN))) tw_793 tw_794 (by decide +kernel) rfl rfl ⟨Nat.le_of_ble_eq_true rfl, Nat.le_of_ble_eq_true rfl⟩ (List.range (cW ad pr N cI cR L1 L2 v).length) (rg_map _) (nd_range _) 6 rfl rfl rfl rfl hl.1 rfl (Nat.le_of_ble_eq_true rfl) dX6_store_58 ⟨Nat.le_of_ble_eq_true rfl, Nat.le_of_ble_eq_true rfl⟩) hP hD hS hA (fun r20 u19 H locs hw18 hP hD hS => ?_)
      obtain rfl := hw18
      refine W.widen (k := 0) (n := 0) (Nat.le_refl _) (Nat.le_refl _) ?_
      refine lv_iload hx hb dX6_store_61 (lv_at hl 0 rfl) ?_
      refine lv_iconst (v := -1) hx hb dX6_store_63 (by decide) ?_
      refine lv_ixor hx hb dX6_store_64 ?_
      refine lv_iand hx hb dX6_store_65 ?_
      refine lv_iload_n hx hb dX6_store_66 rfl (lv_at hl 5 rfl) ?_
      refine lv_iload hx hb dX6_store_67 (lv_at hl 1 rfl) ?_
      refine lv_ishl hx hb dX6_store_69 ?_
      refine lv_iload hx hb dX6_store_70 (lv_at hl 0 rfl) ?_
      refine lv_iand hx hb dX6_store_72 ?_
      refine lv_ior hx hb dX6_store_73 ?_
      refine cu_v (rn_Vk (n := 2) (As := [.int pc1, .int ((r20 &&& ((((-1) : Int32) <<< (((8 : Int32) * (pc1 &&& (3 : Int32))) &&& 31)) ^^^ ((-1) : Int32))) ||| ((pb <<< (((8 : Int32) * (pc1 &&& (3 : Int32))) &&& 31)) &&& (((-1) : Int32) <<< (((8 : Int32) * (pc1 &&& (3 : Int32))) &&& 31))))]) (rest := []) hx hb hml hown ht hKK hFx hP hD hS hA (c_x_X6_layWord l dC dI cI cB cZ cJ cR tb H.size ad pr N L1 L2 v pc1 ((r20 &&& ((((-1) : Int32) <<< (((8 : Int32) * (pc1 &&& (3 : Int32))) &&& 31)) ^^^ ((-1) : Int32))) ||| ((pb <<< (((8 : Int32) * (pc1 &&& (3 : Int32))) &&& 31)) &&& (((-1) : Int32) <<< (((8 : Int32) * (pc1 &&& (3 : Int32))) &&& 31)))) (show (N : Int) ≤ 4096 from (om_1c2c49c46c zNN))) tw_796 tw_797 (by decide +kernel) rfl rfl ⟨Nat.le_of_ble_eq_true rfl, Nat.le_of_ble_eq_true rfl⟩ (List.range (cW ad pr N cI cR L1 L2 v).length) (rg_map _) (nd_range _) 6 rfl rfl rfl rfl hl.1 rfl (Nat.le_of_ble_eq_true rfl) dX6_store_74 ⟨Nat.le_of_ble_eq_true rfl, Nat.le_of_ble_eq_true rfl⟩) hP hD hS hA (fun u22 H locs hw21 hP hD hS => ?_)
      obtain ⟨fr21, rs21⟩ := hw21
      refine W.widen (k := 0) (n := 0) (Nat.le_refl _) (Nat.le_refl _) ?_
      exact W.vret hx hb hr (fun t ht9 hW => ⟨⟨u22, rfl, ⟨(FC.tr (FC.rf _) (FC.up fr21 (by decide) (by decide))), (RS0.tr RS0.rf rs21)⟩, by rw [ht9]; exact hP, hD⟩, hS.F ht9⟩) hS.2.2 dX6_store_77
  · have z24 : r6.toInt = (0 : Int) := eq_z rfl (show (0 : Int32).toInt = (0 : Int) by decide) h7
    refine lv_aload_n hx hb dX6_store_16 rfl (lv_at hl 1 rfl) ?_
    refine lv_iconst (v := 3) hx hb dX6_store_17 (by decide) ?_
    refine va_put (D := (dC, dI)) (ci := 9) (fs := oF_X6 ad pr v) (v := .int 3) (ty := .int) (C := RX6) (T := TX6) (N := 9) hx hb ht itX6 tyX6 tyX6_ok nmX6 hown hK hP hD hS 6 rfl rfl 4 (by decide) (ht _ tw_778) (fun _ h9 => h9) rfl (by decide +kernel) rfl rfl (Nat.le_of_ble_eq_true rfl) dX6_store_18 (fun H locs hP hD hS => ?_)
    have hP := cP_ (cw_350 ad pr N cI cR L1 L2 v 3) hP
    have hD := cD_ (cw_350 ad pr N cI cR L1 L2 v 3) hD
    exact W.vret hx hb hr (fun t ht9 hW => ⟨⟨(wA v 0 350 3), rfl, ⟨(FC.f (FC.rf _) 3 (by decide)), (RS0.w RS0.rf (by decide))⟩, by rw [ht9]; exact hP, hD⟩, hS.F ht9⟩) hS.2.2 dX6_store_21
