theorem dX2_begin_0 : decode cX2_begin 0 = .ok (.aload_n 0, 1) := by decide +kernel
theorem dX2_begin_1 : decode cX2_begin 1 = .ok (.iconst 0, 1) := by decide +kernel
theorem dX2_begin_2 : decode cX2_begin 2 = .ok (.putfield 26, 3) := by decide +kernel
theorem tw_495 : (.fieldLink RX2 26 "PocketCompiler$Expressions" "top" "I" : Cond) ∈ tw_W := tw_in (t8_2 (List.mem_of_getElem? (i := 42) rfl)) rfl
theorem itX2 : ∀ w ∈ wsX20, w ∈ tw_W := tw_all (by decide +kernel)
theorem dX2_begin_5 : decode cX2_begin 5 = .ok (.return_, 1) := by decide +kernel
theorem dX2_push_0 : decode cX2_push 0 = .ok (.aload_n 0, 1) := by decide +kernel
theorem dX2_push_1 : decode cX2_push 1 = .ok (.getfield 26, 3) := by decide +kernel
theorem dX2_push_4 : decode cX2_push 4 = .ok (.ifCond .lt 43, 3) := by decide +kernel
theorem dX2_push_7 : decode cX2_push 7 = .ok (.aload_n 0, 1) := by decide +kernel
theorem dX2_push_8 : decode cX2_push 8 = .ok (.getfield 26, 3) := by decide +kernel
theorem dX2_push_11 : decode cX2_push 11 = .ok (.sipush 420, 3) := by decide +kernel
theorem dX2_push_14 : decode cX2_push 14 = .ok (.if_icmp .ge 33, 3) := by decide +kernel
theorem dX2_push_47 : decode cX2_push 47 = .ok (.return_, 1) := by decide +kernel
theorem dX2_push_17 : decode cX2_push 17 = .ok (.aload_n 0, 1) := by decide +kernel
theorem dX2_push_18 : decode cX2_push 18 = .ok (.getfield 11, 3) := by decide +kernel
theorem tw_496 : (.fieldLink RX2 11 "PocketCompiler$Expressions" "signs" "[I" : Cond) ∈ tw_W := tw_in (t8_2 (List.mem_of_getElem? (i := 40) rfl)) rfl
theorem dX2_push_21 : decode cX2_push 21 = .ok (.aload_n 0, 1) := by decide +kernel
theorem dX2_push_22 : decode cX2_push 22 = .ok (.getfield 26, 3) := by decide +kernel
theorem dX2_push_25 : decode cX2_push 25 = .ok (.iload_n 1, 1) := by decide +kernel
theorem dX2_push_26 : decode cX2_push 26 = .ok (.iastore, 1) := by decide +kernel
theorem dX2_push_27 : decode cX2_push 27 = .ok (.aload_n 0, 1) := by decide +kernel
theorem dX2_push_28 : decode cX2_push 28 = .ok (.getfield 15, 3) := by decide +kernel
theorem tw_497 : (.fieldLink RX2 15 "PocketCompiler$Expressions" "marks" "[I" : Cond) ∈ tw_W := tw_in (t8_2 (List.mem_of_getElem? (i := 41) rfl)) rfl
theorem dX2_push_31 : decode cX2_push 31 = .ok (.aload_n 0, 1) := by decide +kernel
theorem dX2_push_32 : decode cX2_push 32 = .ok (.getfield 26, 3) := by decide +kernel
theorem dX2_push_35 : decode cX2_push 35 = .ok (.iload_n 2, 1) := by decide +kernel
theorem dX2_push_36 : decode cX2_push 36 = .ok (.iastore, 1) := by decide +kernel
theorem dX2_push_37 : decode cX2_push 37 = .ok (.aload_n 0, 1) := by decide +kernel
theorem dX2_push_38 : decode cX2_push 38 = .ok (.dup, 1) := by decide +kernel
theorem dX2_push_39 : decode cX2_push 39 = .ok (.getfield 26, 3) := by decide +kernel
theorem dX2_push_42 : decode cX2_push 42 = .ok (.iconst 1, 1) := by decide +kernel
theorem dX2_push_43 : decode cX2_push 43 = .ok (.iadd, 1) := by decide +kernel
theorem dX2_push_44 : decode cX2_push 44 = .ok (.putfield 26, 3) := by decide +kernel
theorem dX2_read_0 : decode cX2_read 0 = .ok (.iload_n 1, 1) := by decide +kernel
theorem dX2_read_1 : decode cX2_read 1 = .ok (.iconst (-1), 1) := by decide +kernel
theorem dX2_read_2 : decode cX2_read 2 = .ok (.if_icmp .eq 16, 3) := by decide +kernel
theorem dX2_read_18 : decode cX2_read 18 = .ok (.aload_n 0, 1) := by decide +kernel
theorem dX2_read_19 : decode cX2_read 19 = .ok (.getfield 22, 3) := by decide +kernel
theorem tw_498 : (.fieldLink RX2 22 "PocketCompiler$Expressions" "builder" "LPocketCompiler$Builder;" : Cond) ∈ tw_W := tw_in (t8_2 (List.mem_of_getElem? (i := 39) rfl)) rfl
theorem dX2_read_22 : decode cX2_read 22 = .ok (.iconst 5, 1) := by decide +kernel
theorem dX2_read_23 : decode cX2_read 23 = .ok (.iload_n 2, 1) := by decide +kernel
theorem dX2_read_24 : decode cX2_read 24 = .ok (.iconst 0, 1) := by decide +kernel
theorem dX2_read_25 : decode cX2_read 25 = .ok (.invokevirtual 65, 3) := by decide +kernel
theorem tw_499 : (.code yX1_add cX1_add 5 none : Cond) ∈ tw_W := tw_in (t8_4 (List.mem_of_getElem? (i := 54) rfl)) rfl
theorem tw_500 : ∀ w ∈ ([.methodLink RX2 65 yX1_add, .instanceMethod yX1_add, .selects RX1 yX1_add yX1_add, .initialized RX1] : List Cond), w ∈ tw_W := al_c (tw_in (t8_4 (List.mem_of_getElem? (i := 94) rfl)) rfl) (al_c (tw_in (t8_4 (List.mem_of_getElem? (i := 52) rfl)) rfl) (al_c (tw_in (t8_4 (List.mem_of_getElem? (i := 53) rfl)) rfl) (al_c (tw_in (t8_1 (List.mem_of_getElem? (i := 11) rfl)) rfl) al_n)))
theorem dX2_read_28 : decode cX2_read 28 = .ok (.return_, 1) := by decide +kernel
theorem dX2_read_5 : decode cX2_read 5 = .ok (.aload_n 0, 1) := by decide +kernel
theorem dX2_read_6 : decode cX2_read 6 = .ok (.getfield 22, 3) := by decide +kernel
theorem dX2_read_9 : decode cX2_read 9 = .ok (.iconst 3, 1) := by decide +kernel
theorem dX2_read_10 : decode cX2_read 10 = .ok (.iload_n 1, 1) := by decide +kernel
theorem dX2_read_11 : decode cX2_read 11 = .ok (.iconst 0, 1) := by decide +kernel
theorem dX2_read_12 : decode cX2_read 12 = .ok (.invokevirtual 65, 3) := by decide +kernel
theorem dX2_read_15 : decode cX2_read 15 = .ok (.goto 13, 3) := by decide +kernel
theorem dX2_beginSign_0 : decode cX2_beginSign 0 = .ok (.iload_n 1, 1) := by decide +kernel
theorem dX2_beginSign_1 : decode cX2_beginSign 1 = .ok (.bipush 69, 2) := by decide +kernel
theorem dX2_beginSign_3 : decode cX2_beginSign 3 = .ok (.if_icmp .eq 9, 3) := by decide +kernel
theorem dX2_beginSign_12 : decode cX2_beginSign 12 = .ok (.aload_n 0, 1) := by decide +kernel
theorem dX2_beginSign_13 : decode cX2_beginSign 13 = .ok (.getfield 22, 3) := by decide +kernel
theorem dX2_beginSign_16 : decode cX2_beginSign 16 = .ok (.invokevirtual 58, 3) := by decide +kernel
theorem tw_501 : (.code yX1_newLabel cX1_newLabel 1 (some .int) : Cond) ∈ tw_W := tw_in (t8_4 (List.mem_of_getElem? (i := 58) rfl)) rfl
theorem tw_502 : ∀ w ∈ ([.methodLink RX2 58 yX1_newLabel, .instanceMethod yX1_newLabel, .selects RX1 yX1_newLabel yX1_newLabel, .initialized RX1] : List Cond), w ∈ tw_W := al_c (tw_in (t8_4 (List.mem_of_getElem? (i := 172) rfl)) rfl) (al_c (tw_in (t8_4 (List.mem_of_getElem? (i := 56) rfl)) rfl) (al_c (tw_in (t8_4 (List.mem_of_getElem? (i := 57) rfl)) rfl) (al_c (tw_in (t8_1 (List.mem_of_getElem? (i := 11) rfl)) rfl) al_n)))
theorem dX2_beginSign_19 : decode cX2_beginSign 19 = .ok (.istore_n 2, 1) := by decide +kernel
theorem dX2_beginSign_20 : decode cX2_beginSign 20 = .ok (.aload_n 0, 1) := by decide +kernel
theorem dX2_beginSign_21 : decode cX2_beginSign 21 = .ok (.getfield 22, 3) := by decide +kernel
theorem dX2_beginSign_24 : decode cX2_beginSign 24 = .ok (.iload_n 1, 1) := by decide +kernel
theorem dX2_beginSign_25 : decode cX2_beginSign 25 = .ok (.bipush 69, 2) := by decide +kernel
theorem dX2_beginSign_27 : decode cX2_beginSign 27 = .ok (.if_icmp .ne 8, 3) := by decide +kernel
theorem dX2_beginSign_30 : decode cX2_beginSign 30 = .ok (.bipush 16, 2) := by decide +kernel
theorem dX2_beginSign_32 : decode cX2_beginSign 32 = .ok (.goto 5, 3) := by decide +kernel
theorem dX2_beginSign_37 : decode cX2_beginSign 37 = .ok (.iload_n 2, 1) := by decide +kernel
theorem dX2_beginSign_38 : decode cX2_beginSign 38 = .ok (.iconst 0, 1) := by decide +kernel
theorem dX2_beginSign_39 : decode cX2_beginSign 39 = .ok (.invokevirtual 65, 3) := by decide +kernel
theorem dX2_beginSign_42 : decode cX2_beginSign 42 = .ok (.aload_n 0, 1) := by decide +kernel
theorem dX2_beginSign_43 : decode cX2_beginSign 43 = .ok (.iload_n 1, 1) := by decide +kernel
theorem dX2_beginSign_44 : decode cX2_beginSign 44 = .ok (.iload_n 2, 1) := by decide +kernel
theorem dX2_beginSign_45 : decode cX2_beginSign 45 = .ok (.invokevirtual 69, 3) := by decide +kernel
theorem tw_503 : (.code yX2_push cX2_push 3 none : Cond) ∈ tw_W := tw_in (t8_4 (List.mem_of_getElem? (i := 176) rfl)) rfl
theorem tw_504 : ∀ w ∈ ([.methodLink RX2 69 yX2_push, .instanceMethod yX2_push, .selects RX2 yX2_push yX2_push, .initialized RX2] : List Cond), w ∈ tw_W := al_c (tw_in (t8_4 (List.mem_of_getElem? (i := 173) rfl)) rfl) (al_c (tw_in (t8_4 (List.mem_of_getElem? (i := 175) rfl)) rfl) (al_c (tw_in (t7_3 (q := (yX2_push, 5)) (List.mem_of_getElem? (i := 1) rfl)) rfl) (al_c (tw_in (t8_1 (List.mem_of_getElem? (i := 12) rfl)) rfl) al_n)))
theorem dX2_beginSign_48 : decode cX2_beginSign 48 = .ok (.return_, 1) := by decide +kernel
theorem dX2_beginSign_6 : decode cX2_beginSign 6 = .ok (.iload_n 1, 1) := by decide +kernel
theorem dX2_beginSign_7 : decode cX2_beginSign 7 = .ok (.bipush 70, 2) := by decide +kernel
theorem dX2_beginSign_9 : decode cX2_beginSign 9 = .ok (.if_icmp .ne 40, 3) := by decide +kernel
theorem dX2_beginSign_49 : decode cX2_beginSign 49 = .ok (.aload_n 0, 1) := by decide +kernel
theorem dX2_beginSign_50 : decode cX2_beginSign 50 = .ok (.getfield 22, 3) := by decide +kernel
theorem dX2_beginSign_53 : decode cX2_beginSign 53 = .ok (.invokevirtual 72, 3) := by decide +kernel
theorem tw_505 : (.code yX1_nextSlot cX1_nextSlot 1 (some .int) : Cond) ∈ tw_W := tw_in (t8_4 (List.mem_of_getElem? (i := 78) rfl)) rfl
theorem tw_506 : ∀ w ∈ ([.methodLink RX2 72 yX1_nextSlot, .instanceMethod yX1_nextSlot, .selects RX1 yX1_nextSlot yX1_nextSlot, .initialized RX1] : List Cond), w ∈ tw_W := al_c (tw_in (t8_4 (List.mem_of_getElem? (i := 117) rfl)) rfl) (al_c (tw_in (t8_4 (List.mem_of_getElem? (i := 76) rfl)) rfl) (al_c (tw_in (t8_4 (List.mem_of_getElem? (i := 77) rfl)) rfl) (al_c (tw_in (t8_1 (List.mem_of_getElem? (i := 11) rfl)) rfl) al_n)))
theorem dX2_beginSign_56 : decode cX2_beginSign 56 = .ok (.istore_n 2, 1) := by decide +kernel
theorem dX2_beginSign_57 : decode cX2_beginSign 57 = .ok (.aload_n 0, 1) := by decide +kernel
theorem dX2_beginSign_58 : decode cX2_beginSign 58 = .ok (.getfield 22, 3) := by decide +kernel
theorem dX2_beginSign_61 : decode cX2_beginSign 61 = .ok (.iconst 1, 1) := by decide +kernel
theorem dX2_beginSign_62 : decode cX2_beginSign 62 = .ok (.invokevirtual 75, 3) := by decide +kernel
theorem tw_507 : (.code yX1_wantSlots cX1_wantSlots 3 (some .boolean) : Cond) ∈ tw_W := tw_in (t8_4 (List.mem_of_getElem? (i := 39) rfl)) rfl
theorem tw_508 : ∀ w ∈ ([.methodLink RX2 75 yX1_wantSlots, .instanceMethod yX1_wantSlots, .selects RX1 yX1_wantSlots yX1_wantSlots, .initialized RX1] : List Cond), w ∈ tw_W := al_c (tw_in (t8_4 (List.mem_of_getElem? (i := 122) rfl)) rfl) (al_c (tw_in (t8_4 (List.mem_of_getElem? (i := 37) rfl)) rfl) (al_c (tw_in (t8_4 (List.mem_of_getElem? (i := 38) rfl)) rfl) (al_c (tw_in (t8_1 (List.mem_of_getElem? (i := 11) rfl)) rfl) al_n)))
theorem dX2_beginSign_65 : decode cX2_beginSign 65 = .ok (.ifCond .ne 18, 3) := by decide +kernel
theorem dX2_beginSign_83 : decode cX2_beginSign 83 = .ok (.aload_n 0, 1) := by decide +kernel
theorem dX2_beginSign_84 : decode cX2_beginSign 84 = .ok (.getfield 22, 3) := by decide +kernel
theorem dX2_beginSign_87 : decode cX2_beginSign 87 = .ok (.iconst 4, 1) := by decide +kernel
theorem dX2_beginSign_88 : decode cX2_beginSign 88 = .ok (.iload_n 2, 1) := by decide +kernel
theorem dX2_beginSign_89 : decode cX2_beginSign 89 = .ok (.iconst 0, 1) := by decide +kernel
theorem dX2_beginSign_90 : decode cX2_beginSign 90 = .ok (.invokevirtual 65, 3) := by decide +kernel
theorem dX2_beginSign_93 : decode cX2_beginSign 93 = .ok (.aload_n 0, 1) := by decide +kernel
theorem dX2_beginSign_94 : decode cX2_beginSign 94 = .ok (.getfield 22, 3) := by decide +kernel
theorem dX2_beginSign_97 : decode cX2_beginSign 97 = .ok (.dup, 1) := by decide +kernel
theorem dX2_beginSign_98 : decode cX2_beginSign 98 = .ok (.getfield 85, 3) := by decide +kernel
theorem dX2_beginSign_101 : decode cX2_beginSign 101 = .ok (.iconst 1, 1) := by decide +kernel
theorem dX2_beginSign_102 : decode cX2_beginSign 102 = .ok (.iadd, 1) := by decide +kernel
theorem dX2_beginSign_103 : decode cX2_beginSign 103 = .ok (.putfield 85, 3) := by decide +kernel
theorem dX2_beginSign_106 : decode cX2_beginSign 106 = .ok (.aload_n 0, 1) := by decide +kernel
theorem dX2_beginSign_107 : decode cX2_beginSign 107 = .ok (.iload_n 1, 1) := by decide +kernel
theorem dX2_beginSign_108 : decode cX2_beginSign 108 = .ok (.iload_n 2, 1) := by decide +kernel
theorem dX2_beginSign_109 : decode cX2_beginSign 109 = .ok (.invokevirtual 69, 3) := by decide +kernel
theorem dX2_beginSign_112 : decode cX2_beginSign 112 = .ok (.return_, 1) := by decide +kernel
theorem dX2_beginSign_68 : decode cX2_beginSign 68 = .ok (.aload_n 0, 1) := by decide +kernel
theorem dX2_beginSign_69 : decode cX2_beginSign 69 = .ok (.getfield 18, 3) := by decide +kernel
theorem tw_509 : (.fieldLink RX2 18 "PocketCompiler$Expressions" "tokens" "LPocketCompiler$Tokens;" : Cond) ∈ tw_W := tw_in (t8_2 (List.mem_of_getElem? (i := 38) rfl)) rfl
theorem dX2_beginSign_72 : decode cX2_beginSign 72 = .ok (.iconst 5, 1) := by decide +kernel
theorem dX2_beginSign_73 : decode cX2_beginSign 73 = .ok (.aload_n 0, 1) := by decide +kernel
theorem dX2_beginSign_74 : decode cX2_beginSign 74 = .ok (.getfield 18, 3) := by decide +kernel
theorem dX2_beginSign_77 : decode cX2_beginSign 77 = .ok (.invokevirtual 79, 3) := by decide +kernel
theorem tw_510 : ∀ w ∈ ([.methodLink RX2 79 yX9_place, .instanceMethod yX9_place, .selects RX9 yX9_place yX9_place, .initialized RX9] : List Cond), w ∈ tw_W := al_c (tw_in (t8_4 (List.mem_of_getElem? (i := 97) rfl)) rfl) (al_c (tw_in (t8_3 (List.mem_of_getElem? (i := 117) rfl)) rfl) (al_c (tw_in (t8_3 (List.mem_of_getElem? (i := 118) rfl)) rfl) (al_c (tw_in (t8_1 (List.mem_of_getElem? (i := 10) rfl)) rfl) al_n)))
theorem dX2_beginSign_80 : decode cX2_beginSign 80 = .ok (.invokevirtual 82, 3) := by decide +kernel
theorem tw_511 : ∀ w ∈ ([.methodLink RX2 82 yX9_refuse, .instanceMethod yX9_refuse, .selects RX9 yX9_refuse yX9_refuse, .initialized RX9] : List Cond), w ∈ tw_W := al_c (tw_in (t8_4 (List.mem_of_getElem? (i := 98) rfl)) rfl) (al_c (tw_in (t8_3 (List.mem_of_getElem? (i := 121) rfl)) rfl) (al_c (tw_in (t8_3 (List.mem_of_getElem? (i := 122) rfl)) rfl) (al_c (tw_in (t8_1 (List.mem_of_getElem? (i := 10) rfl)) rfl) al_n)))
theorem dX2_beginSign_35 : decode cX2_beginSign 35 = .ok (.bipush 18, 2) := by decide +kernel
theorem dX2_finishSigns_0 : decode cX2_finishSigns 0 = .ok (.aload_n 0, 1) := by decide +kernel
theorem dX2_finishSigns_1 : decode cX2_finishSigns 1 = .ok (.getfield 26, 3) := by decide +kernel
theorem dX2_finishSigns_4 : decode cX2_finishSigns 4 = .ok (.iconst 1, 1) := by decide +kernel
theorem dX2_finishSigns_5 : decode cX2_finishSigns 5 = .ok (.isub, 1) := by decide +kernel
theorem dX2_finishSigns_6 : decode cX2_finishSigns 6 = .ok (.istore_n 3, 1) := by decide +kernel
theorem dX2_finishSigns_7 : decode cX2_finishSigns 7 = .ok (.iload_n 3, 1) := by decide +kernel
theorem dX2_finishSigns_8 : decode cX2_finishSigns 8 = .ok (.iload_n 1, 1) := by decide +kernel
theorem dX2_finishSigns_9 : decode cX2_finishSigns 9 = .ok (.if_icmp .lt 114, 3) := by decide +kernel
theorem dX2_finishSigns_123 : decode cX2_finishSigns 123 = .ok (.return_, 1) := by decide +kernel
theorem dX2_finishSigns_12 : decode cX2_finishSigns 12 = .ok (.iload_n 3, 1) := by decide +kernel
theorem dX2_finishSigns_13 : decode cX2_finishSigns 13 = .ok (.ifCond .lt 110, 3) := by decide +kernel
theorem dX2_finishSigns_16 : decode cX2_finishSigns 16 = .ok (.aload_n 0, 1) := by decide +kernel
theorem dX2_finishSigns_17 : decode cX2_finishSigns 17 = .ok (.getfield 11, 3) := by decide +kernel
theorem dX2_finishSigns_20 : decode cX2_finishSigns 20 = .ok (.iload_n 3, 1) := by decide +kernel
theorem dX2_finishSigns_21 : decode cX2_finishSigns 21 = .ok (.iaload, 1) := by decide +kernel
theorem dX2_finishSigns_22 : decode cX2_finishSigns 22 = .ok (.invokestatic 40, 3) := by decide +kernel
theorem tw_512 : (.code yX9_strength cX9_strength 2 (some .int) : Cond) ∈ tw_W := tw_in (t8_4 (List.mem_of_getElem? (i := 157) rfl)) rfl
theorem tw_513 : ∀ w ∈ ([.methodLink RX2 40 yX9_strength, .static yX9_strength, .initialized yX9_strength.cls] : List Cond), w ∈ tw_W := al_c (tw_in (t8_4 (List.mem_of_getElem? (i := 155) rfl)) rfl) (al_c (tw_in (t8_4 (List.mem_of_getElem? (i := 156) rfl)) rfl) (al_c (tw_in (t8_1 (List.mem_of_getElem? (i := 10) rfl)) rfl) al_n))
theorem dX2_finishSigns_25 : decode cX2_finishSigns 25 = .ok (.iload_n 2, 1) := by decide +kernel
theorem dX2_finishSigns_26 : decode cX2_finishSigns 26 = .ok (.if_icmp .lt 97, 3) := by decide +kernel
theorem dX2_finishSigns_29 : decode cX2_finishSigns 29 = .ok (.aload_n 0, 1) := by decide +kernel
theorem dX2_finishSigns_30 : decode cX2_finishSigns 30 = .ok (.iload_n 3, 1) := by decide +kernel
theorem dX2_finishSigns_31 : decode cX2_finishSigns 31 = .ok (.putfield 26, 3) := by decide +kernel
theorem dX2_finishSigns_34 : decode cX2_finishSigns 34 = .ok (.aload_n 0, 1) := by decide +kernel
theorem dX2_finishSigns_35 : decode cX2_finishSigns 35 = .ok (.getfield 11, 3) := by decide +kernel
theorem dX2_finishSigns_38 : decode cX2_finishSigns 38 = .ok (.iload_n 3, 1) := by decide +kernel
theorem dX2_finishSigns_39 : decode cX2_finishSigns 39 = .ok (.iaload, 1) := by decide +kernel
theorem dX2_finishSigns_40 : decode cX2_finishSigns 40 = .ok (.bipush 69, 2) := by decide +kernel
theorem dX2_finishSigns_42 : decode cX2_finishSigns 42 = .ok (.if_icmp .eq 14, 3) := by decide +kernel
theorem dX2_finishSigns_56 : decode cX2_finishSigns 56 = .ok (.aload_n 0, 1) := by decide +kernel
theorem dX2_finishSigns_57 : decode cX2_finishSigns 57 = .ok (.getfield 22, 3) := by decide +kernel
theorem dX2_finishSigns_60 : decode cX2_finishSigns 60 = .ok (.bipush 15, 2) := by decide +kernel
theorem dX2_finishSigns_62 : decode cX2_finishSigns 62 = .ok (.iconst 0, 1) := by decide +kernel
theorem dX2_finishSigns_63 : decode cX2_finishSigns 63 = .ok (.iconst 0, 1) := by decide +kernel
theorem dX2_finishSigns_64 : decode cX2_finishSigns 64 = .ok (.invokevirtual 65, 3) := by decide +kernel
theorem dX2_finishSigns_67 : decode cX2_finishSigns 67 = .ok (.aload_n 0, 1) := by decide +kernel
theorem dX2_finishSigns_68 : decode cX2_finishSigns 68 = .ok (.getfield 22, 3) := by decide +kernel
theorem dX2_finishSigns_71 : decode cX2_finishSigns 71 = .ok (.aload_n 0, 1) := by decide +kernel
theorem dX2_finishSigns_72 : decode cX2_finishSigns 72 = .ok (.getfield 15, 3) := by decide +kernel
theorem dX2_finishSigns_75 : decode cX2_finishSigns 75 = .ok (.iload_n 3, 1) := by decide +kernel
theorem dX2_finishSigns_76 : decode cX2_finishSigns 76 = .ok (.iaload, 1) := by decide +kernel
theorem dX2_finishSigns_77 : decode cX2_finishSigns 77 = .ok (.invokevirtual 88, 3) := by decide +kernel
theorem tw_514 : (.code yX1_setLabel cX1_setLabel 2 none : Cond) ∈ tw_W := tw_in (t8_4 (List.mem_of_getElem? (i := 167) rfl)) rfl
theorem tw_515 : ∀ w ∈ ([.methodLink RX2 88 yX1_setLabel, .instanceMethod yX1_setLabel, .selects RX1 yX1_setLabel yX1_setLabel, .initialized RX1] : List Cond), w ∈ tw_W := al_c (tw_in (t8_4 (List.mem_of_getElem? (i := 164) rfl)) rfl) (al_c (tw_in (t8_4 (List.mem_of_getElem? (i := 165) rfl)) rfl) (al_c (tw_in (t8_4 (List.mem_of_getElem? (i := 166) rfl)) rfl) (al_c (tw_in (t8_1 (List.mem_of_getElem? (i := 11) rfl)) rfl) al_n)))
theorem dX2_finishSigns_80 : decode cX2_finishSigns 80 = .ok (.goto 37, 3) := by decide +kernel
theorem dX2_finishSigns_117 : decode cX2_finishSigns 117 = .ok (.iinc 3 (-1), 3) := by decide +kernel
theorem dX2_finishSigns_120 : decode cX2_finishSigns 120 = .ok (.goto (-113), 3) := by decide +kernel
theorem dX2_finishSigns_45 : decode cX2_finishSigns 45 = .ok (.aload_n 0, 1) := by decide +kernel
theorem dX2_finishSigns_46 : decode cX2_finishSigns 46 = .ok (.getfield 11, 3) := by decide +kernel
theorem dX2_finishSigns_49 : decode cX2_finishSigns 49 = .ok (.iload_n 3, 1) := by decide +kernel
theorem dX2_finishSigns_50 : decode cX2_finishSigns 50 = .ok (.iaload, 1) := by decide +kernel
theorem dX2_finishSigns_51 : decode cX2_finishSigns 51 = .ok (.bipush 70, 2) := by decide +kernel
theorem dX2_finishSigns_53 : decode cX2_finishSigns 53 = .ok (.if_icmp .ne 30, 3) := by decide +kernel
theorem dX2_finishSigns_83 : decode cX2_finishSigns 83 = .ok (.aload_n 0, 1) := by decide +kernel
theorem dX2_finishSigns_84 : decode cX2_finishSigns 84 = .ok (.getfield 22, 3) := by decide +kernel
theorem dX2_finishSigns_87 : decode cX2_finishSigns 87 = .ok (.dup, 1) := by decide +kernel
theorem dX2_finishSigns_88 : decode cX2_finishSigns 88 = .ok (.getfield 85, 3) := by decide +kernel
theorem dX2_finishSigns_91 : decode cX2_finishSigns 91 = .ok (.iconst 1, 1) := by decide +kernel
theorem dX2_finishSigns_92 : decode cX2_finishSigns 92 = .ok (.isub, 1) := by decide +kernel
theorem dX2_finishSigns_93 : decode cX2_finishSigns 93 = .ok (.putfield 85, 3) := by decide +kernel
theorem dX2_finishSigns_96 : decode cX2_finishSigns 96 = .ok (.aload_n 0, 1) := by decide +kernel
theorem dX2_finishSigns_97 : decode cX2_finishSigns 97 = .ok (.getfield 22, 3) := by decide +kernel
theorem dX2_finishSigns_100 : decode cX2_finishSigns 100 = .ok (.bipush 20, 2) := by decide +kernel
theorem dX2_finishSigns_102 : decode cX2_finishSigns 102 = .ok (.aload_n 0, 1) := by decide +kernel
theorem dX2_finishSigns_103 : decode cX2_finishSigns 103 = .ok (.getfield 11, 3) := by decide +kernel
theorem dX2_finishSigns_106 : decode cX2_finishSigns 106 = .ok (.iload_n 3, 1) := by decide +kernel
theorem dX2_finishSigns_107 : decode cX2_finishSigns 107 = .ok (.iaload, 1) := by decide +kernel
theorem dX2_finishSigns_108 : decode cX2_finishSigns 108 = .ok (.aload_n 0, 1) := by decide +kernel
theorem dX2_finishSigns_109 : decode cX2_finishSigns 109 = .ok (.getfield 15, 3) := by decide +kernel
theorem dX2_finishSigns_112 : decode cX2_finishSigns 112 = .ok (.iload_n 3, 1) := by decide +kernel
theorem dX2_finishSigns_113 : decode cX2_finishSigns 113 = .ok (.iaload, 1) := by decide +kernel
theorem dX2_finishSigns_114 : decode cX2_finishSigns 114 = .ok (.invokevirtual 65, 3) := by decide +kernel
theorem om_67c8a23476 : 0 ≤ (0 : Int) ∧ (0 : Int) ≤ 420 := by omega
set_option maxHeartbeats 4000000 in
set_option maxRecDepth 100000 in
theorem c_x_X2_begin (l : Launch) (dC : Nat → ClassId) (dI : Nat → Nat → Nat) (cI cB cZ cJ cR : ClassId) (tb : Nat → Nat) (sz : Nat) (ad : Nat → Nat) (pr : Int32 → Nat) (N : Nat) (L1 L2 : List Nat) (v : MS)   : Met l yX2_begin (Cond.code yX2_begin cX2_begin 1 none :: tw_W) ({ frames := 0, cells := 0, slots := 0, locals := 0 }) (pc_ (dC, dI) (tyS cI cB cZ cJ cR) tb (cW ad pr N cI cR L1 L2 v) sz [.ref (ad 902)]) (qv_ (dC, dI) (cW ad pr N cI cR L1 L2 v) sz (fun (u : MS) => FC [326] [0] v u ∧ (Q_x_X2_begin L1 L2 v u) ∧ (0 ≤ (u.1 0 326).toInt ∧ (u.1 0 326).toInt ≤ 420) ∧ ((u.1 0 326).toInt = 0) ∧ (RS v u)) (fun (u : MS) => (cW ad pr N cI cR L1 L2 u))) 0 0 (va_A (cW ad pr N cI cR L1 L2 v) sz) := by
  refine Met.ofW (cc := cX2_begin) (maxL := 1) (ret := none) (by decide) rfl ?_
  intro p e s m args below meth c s₁ B hml hv
  obtain ⟨rfl, hsz, hP, hKK, hD0, hFx⟩ := hv
  have hK := hKK.1
  have hx := B.exec
  have hb := B.bytes
  have hr := B.returns
  have ht : ∀ w ∈ tw_W, w.before _ s = true := fun w h => atoms_spec (ws := Cond.code yX2_begin cX2_begin 1 none :: tw_W) B.pre w (List.mem_cons_of_mem _ h)
  have hown : s.vm.findClass RX2 = some m.cls := findClass_of_methodNamed B.named
  have hlocks := B.notSynchronized
  subst hsz
  unfold qv_
  have hD := hD0.self (sz := s.heap.size)
  generalize hAe : va_A (cW ad pr N cI cR L1 L2 v) s.heap.size = A at hD hFx ⊢
  have hA : ∀ q : Nat, s.heap.size ≤ q → A q := fun q h => by rw [← hAe]; exact Or.inr h
  have hS : va_S A s.heap s.heap [] := va_S.rf
  have hl := lv_entry ([.ref (ad 902)]) (n := 1) (Nat.le_of_ble_eq_true rfl)
  rw [lg_entry_eq]
  generalize (lg_sl ([.ref (ad 902)]) ++ List.replicate (1 - (lg_sl ([.ref (ad 902)])).length) Slot.unset).toArray = ls at hl ⊢
  have hl : lv_has ls 1 [(0, .ref (ad 902))] := hl
  refine lv_aload_n hx hb dX2_begin_0 rfl (lv_at hl 0 rfl) ?_
  refine lv_iconst (v := 0) hx hb dX2_begin_1 (by decide) ?_
  refine va_put (D := (dC, dI)) (ci := 6) (fs := oF_X2 ad pr v) (v := .int 0) (ty := .int) (C := RX2) (T := TX2) (N := 5) hx hb ht itX2 tyX2 tyX2_ok nmX2 hown hK hP hD hS 2 rfl rfl 4 (by decide) (ht _ tw_495) (fun _ h9 => h9) rfl (by decide +kernel) rfl rfl (Nat.le_of_ble_eq_true rfl) dX2_begin_2 (fun H locs hP hD hS => ?_)
  have hP := cP_ (cw_326 ad pr N cI cR L1 L2 v 0) hP
  have hD := cD_ (cw_326 ad pr N cI cR L1 L2 v 0) hD
  exact W.vret hx hb hr (fun t ht9 hW => ⟨⟨(wA v 0 326 0), rfl, ⟨(FC.f (FC.rf _) 0 (by decide)), rfl, (show 0 ≤ (0 : Int) ∧ (0 : Int) ≤ 420 from om_67c8a23476), (show (0 : Int) = 0 from om_3ff73904e8), (RS.w0 RS.rf (by decide))⟩, by rw [ht9]; exact hP, hD⟩, hS.F ht9⟩) hS.2.2 dX2_begin_5
theorem om_808ad14055 {x0 : Int} (h0 : 0 ≤ x0 ∧ x0 ≤ 420) (h1 : x0 < (0 : Int)) : False := by omega
theorem om_13901d5a47 {x0 : Int} (h0 : 0 ≤ x0 ∧ x0 ≤ 420) (h1 : (420 : Int) ≤ x0) : 0 ≤ x0 ∧ x0 ≤ 420 := by omega
theorem om_6264d31e5a {x0 : Int} : x0 ≤ x0 + 1 := by omega
theorem om_2f1c1afa5d {x0 : Int} (h0 : 0 ≤ x0 ∧ x0 ≤ 420) : 0 ≤ x0 := by omega
theorem om_47a696a4c8 {x0 : Int} (h0 : x0 < (420 : Int)) : x0 < 420 := by omega
theorem om_062c30f893 {x0 : Int} (h0 : 0 ≤ x0 ∧ x0 ≤ 420) : -2147483648 ≤ (x0) + (1 : Int) := by omega
theorem om_c02ee6f475 {x0 : Int} (h0 : 0 ≤ x0 ∧ x0 ≤ 420) : (x0) + (1 : Int) < 2147483648 := by omega
theorem om_68b7498e7c {x0 x1 : Int} (h0 : 0 ≤ x0 ∧ x0 ≤ 420) (h1 : x0 < (420 : Int)) (h2 : x1 = (x0) + (1 : Int)) : 0 ≤ x1 ∧ x1 ≤ 420 := by omega
theorem om_c3c06fac57 {x0 x1 : Int} (h0 : x0 = (x1) + (1 : Int)) : x0 ≤ x1 + 1 := by omega
set_option maxHeartbeats 4000000 in
set_option maxRecDepth 100000 in
theorem c_x_X2_push (l : Launch) (dC : Nat → ClassId) (dI : Nat → Nat → Nat) (cI cB cZ cJ cR : ClassId) (tb : Nat → Nat) (sz : Nat) (ad : Nat → Nat) (pr : Int32 → Nat) (N : Nat) (L1 L2 : List Nat) (v : MS) (pa : Int32) (pb : Int32) (z326 : 0 ≤ (v.1 0 326).toInt ∧ (v.1 0 326).toInt ≤ 420) : Met l yX2_push (Cond.code yX2_push cX2_push 3 none :: tw_W) ({ frames := 0, cells := 0, slots := 0, locals := 0 }) (pc_ (dC, dI) (tyS cI cB cZ cJ cR) tb (cW ad pr N cI cR L1 L2 v) sz [.ref (ad 902), .int pa, .int pb]) (qv_ (dC, dI) (cW ad pr N cI cR L1 L2 v) sz (fun (u : MS) => FC [326] [0, 324, 325] v u ∧ (Q_x_X2_push L1 L2 v pa pb u) ∧ (0 ≤ (u.1 0 326).toInt ∧ (u.1 0 326).toInt ≤ 420) ∧ ((u.1 0 326).toInt ≤ (v.1 0 326).toInt + 1) ∧ (RS v u)) (fun (u : MS) => (cW ad pr N cI cR L1 L2 u))) 0 0 (va_A (cW ad pr N cI cR L1 L2 v) sz) := by
  refine Met.ofW (cc := cX2_push) (maxL := 3) (ret := none) (by decide) rfl ?_
  intro p e s m args below meth c s₁ B hml hv
  obtain ⟨rfl, hsz, hP, hKK, hD0, hFx⟩ := hv
  have hK := hKK.1
  have hx := B.exec
  have hb := B.bytes
  have hr := B.returns
  have ht : ∀ w ∈ tw_W, w.before _ s = true := fun w h => atoms_spec (ws := Cond.code yX2_push cX2_push 3 none :: tw_W) B.pre w (List.mem_cons_of_mem _ h)
  have hown : s.vm.findClass RX2 = some m.cls := findClass_of_methodNamed B.named
  have hlocks := B.notSynchronized
  subst hsz
  unfold qv_
  have hD := hD0.self (sz := s.heap.size)
  generalize hAe : va_A (cW ad pr N cI cR L1 L2 v) s.heap.size = A at hD hFx ⊢
  have hA : ∀ q : Nat, s.heap.size ≤ q → A q := fun q h => by rw [← hAe]; exact Or.inr h
  have hS : va_S A s.heap s.heap [] := va_S.rf
  have hl := lv_entry ([.ref (ad 902), .int pa, .int pb]) (n := 3) (Nat.le_of_ble_eq_true rfl)
  rw [lg_entry_eq]
  generalize (lg_sl ([.ref (ad 902), .int pa, .int pb]) ++ List.replicate (3 - (lg_sl ([.ref (ad 902), .int pa, .int pb])).length) Slot.unset).toArray = ls at hl ⊢
  have hl : lv_has ls 3 [(0, .ref (ad 902)), (1, .int pa), (2, .int pb)] := hl
  refine lv_aload_n hx hb dX2_push_0 rfl (lv_at hl 0 rfl) ?_
  refine va_get (D := (dC, dI)) (ci := 6) (fs := oF_X2 ad pr v) (v := .int (v.1 0 326)) (C := RX2) (T := TX2) (N := 5) hx hb ht itX2 hown hK hP 2 rfl rfl 4 (by decide) (ht _ tw_495) (fun _ h9 => h9) rfl dX2_push_1 ?_
  refine lv_if_lt (tgt := 47) hx hb dX2_push_4 (by decide) (fun h1 => ?_) (fun h1 => ?_)
  · have z2 : (v.1 0 326).toInt < (0 : Int) := lt_z rfl (show (0 : Int32).toInt = (0 : Int) by decide) h1
    exact False.elim (om_808ad14055 z326 z2)
  · have z3 : (0 : Int) ≤ (v.1 0 326).toInt := nlt_z rfl (show (0 : Int32).toInt = (0 : Int) by decide) h1
    refine lv_aload_n hx hb dX2_push_7 rfl (lv_at hl 0 rfl) ?_
    refine va_get (D := (dC, dI)) (ci := 6) (fs := oF_X2 ad pr v) (v := .int (v.1 0 326)) (C := RX2) (T := TX2) (N := 5) hx hb ht itX2 hown hK hP 2 rfl rfl 4 (by decide) (ht _ tw_495) (fun _ h9 => h9) rfl dX2_push_8 ?_
    refine lv_sipush (v := 420) hx hb dX2_push_11 (by decide) ?_
    refine lv_icmp_ge (tgt := 47) hx hb dX2_push_14 (by decide) (fun h4 => ?_) (fun h4 => ?_)
    · have z5 : (420 : Int) ≤ (v.1 0 326).toInt := le_z (show (420 : Int32).toInt = (420 : Int) by decide) rfl h4
      exact W.vret hx hb hr (fun t ht9 hW => ⟨⟨v, rfl, ⟨(FC.rf _), ⟨z326, z3, (Or.inl ⟨z5, rfl⟩)⟩, (show 0 ≤ (v.1 0 326).toInt ∧ (v.1 0 326).toInt ≤ 420 from (om_13901d5a47 z326 z5)), (show (v.1 0 326).toInt ≤ (v.1 0 326).toInt + 1 from om_6264d31e5a), RS.rf⟩, by rw [ht9]; exact hP, hD⟩, hS.F ht9⟩) hS.2.2 dX2_push_47
    · have z6 : (v.1 0 326).toInt < (420 : Int) := nle_z (show (420 : Int32).toInt = (420 : Int) by decide) rfl h4
      refine lv_aload_n hx hb dX2_push_17 rfl (lv_at hl 0 rfl) ?_
      refine va_get (D := (dC, dI)) (ci := 6) (fs := oF_X2 ad pr v) (v := .ref (ad 324)) (C := RX2) (T := TX2) (N := 5) hx hb ht itX2 hown hK hP 2 rfl rfl 2 (by decide) (ht _ tw_496) (fun _ h9 => h9) rfl dX2_push_18 ?_
      refine lv_aload_n hx hb dX2_push_21 rfl (lv_at hl 0 rfl) ?_
      refine va_get (D := (dC, dI)) (ci := 6) (fs := oF_X2 ad pr v) (v := .int (v.1 0 326)) (C := RX2) (T := TX2) (N := 5) hx hb ht itX2 hown hK hP 2 rfl rfl 4 (by decide) (ht _ tw_495) (fun _ h9 => h9) rfl dX2_push_22 ?_
      refine lv_iload_n hx hb dX2_push_25 rfl (lv_at hl 1 rfl) ?_
      refine va_iast (D := (dC, dI)) (f := (v.1 324)) hx hb hK hP hD hS 18 0 rfl rfl (in_y (a := (v.1 0 326).toInt) (b := 420) rfl (om_2f1c1afa5d z326) (om_47a696a4c8 z6) rfl) dX2_push_26 (fun H locs hP hD hS => ?_)
      have hP := cP_ (cq_324 ad pr N cI cR L1 L2 v ((v.1 0 326).toNatClampNeg) pa) hP
      have hD := cD_ (cq_324 ad pr N cI cR L1 L2 v ((v.1 0 326).toNatClampNeg) pa) hD
      refine lv_aload_n hx hb dX2_push_27 rfl (lv_at hl 0 rfl) ?_
      refine va_get (D := (dC, dI)) (ci := 6) (fs := oF_X2 ad pr (wA v 324 ((v.1 0 326).toNatClampNeg) pa)) (v := .ref (ad 325)) (C := RX2) (T := TX2) (N := 5) hx hb ht itX2 hown hK hP 2 rfl rfl 3 (by decide) (ht _ tw_497) (fun _ h9 => h9) rfl dX2_push_28 ?_
      refine lv_aload_n hx hb dX2_push_31 rfl (lv_at hl 0 rfl) ?_
      refine va_get (D := (dC, dI)) (ci := 6) (fs := oF_X2 ad pr (wA v 324 ((v.1 0 326).toNatClampNeg) pa)) (v := .int (v.1 0 326)) (C := RX2) (T := TX2) (N := 5) hx hb ht itX2 hown hK hP 2 rfl rfl 4 (by decide) (ht _ tw_495) (fun _ h9 => h9) rfl dX2_push_32 ?_
      refine lv_iload_n hx hb dX2_push_35 rfl (lv_at hl 2 rfl) ?_
      refine va_iast (D := (dC, dI)) (f := (v.1 325)) hx hb hK hP hD hS 19 0 rfl rfl (in_y (a := (v.1 0 326).toInt) (b := 420) rfl (om_2f1c1afa5d z326) (om_47a696a4c8 z6) rfl) dX2_push_36 (fun H locs hP hD hS => ?_)
      have hP := cP_ (cq_325 ad pr N cI cR L1 L2 (wA v 324 ((v.1 0 326).toNatClampNeg) pa) ((v.1 0 326).toNatClampNeg) pb) hP
      have hD := cD_ (cq_325 ad pr N cI cR L1 L2 (wA v 324 ((v.1 0 326).toNatClampNeg) pa) ((v.1 0 326).toNatClampNeg) pb) hD
      refine lv_aload_n hx hb dX2_push_37 rfl (lv_at hl 0 rfl) ?_
      refine lv_dup hx hb dX2_push_38 rfl ?_
      refine va_get (D := (dC, dI)) (ci := 6) (fs := oF_X2 ad pr (wA (wA v 324 ((v.1 0 326).toNatClampNeg) pa) 325 ((v.1 0 326).toNatClampNeg) pb)) (v := .int (v.1 0 326)) (C := RX2) (T := TX2) (N := 5) hx hb ht itX2 hown hK hP 2 rfl rfl 4 (by decide) (ht _ tw_495) (fun _ h9 => h9) rfl dX2_push_39 ?_
      refine lv_iconst (v := 1) hx hb dX2_push_42 (by decide) ?_
      refine lv_iadd hx hb dX2_push_43 ?_
      have z7 : ((v.1 0 326) + (1 : Int32)).toInt = ((v.1 0 326).toInt) + (1 : Int) := add_z rfl (show (1 : Int32).toInt = (1 : Int) by decide) (om_062c30f893 z326) (om_c02ee6f475 z326)
      refine va_put (D := (dC, dI)) (ci := 6) (fs := oF_X2 ad pr (wA (wA v 324 ((v.1 0 326).toNatClampNeg) pa) 325 ((v.1 0 326).toNatClampNeg) pb)) (v := .int ((v.1 0 326) + (1 : Int32))) (ty := .int) (C := RX2) (T := TX2) (N := 5) hx hb ht itX2 tyX2 tyX2_ok nmX2 hown hK hP hD hS 2 rfl rfl 4 (by decide) (ht _ tw_495) (fun _ h9 => h9) rfl (by decide +kernel) rfl rfl (Nat.le_of_ble_eq_true rfl) dX2_push_44 (fun H locs hP hD hS => ?_)
      have hP := cP_ (cw_326 ad pr N cI cR L1 L2 (wA (wA v 324 ((v.1 0 326).toNatClampNeg) pa) 325 ((v.1 0 326).toNatClampNeg) pb) ((v.1 0 326) + (1 : Int32))) hP
      have hD := cD_ (cw_326 ad pr N cI cR L1 L2 (wA (wA v 324 ((v.1 0 326).toNatClampNeg) pa) 325 ((v.1 0 326).toNatClampNeg) pb) ((v.1 0 326) + (1 : Int32))) hD
      exact W.vret hx hb hr (fun t ht9 hW => ⟨⟨(wA (wA (wA v 324 ((v.1 0 326).toNatClampNeg) pa) 325 ((v.1 0 326).toNatClampNeg) pb) 0 326 ((v.1 0 326) + (1 : Int32))), rfl, ⟨(FC.f (FC.a (FC.a (FC.rf _) ((v.1 0 326).toNatClampNeg) pa (by decide) (by decide)) ((v.1 0 326).toNatClampNeg) pb (by decide) (by decide)) ((v.1 0 326) + (1 : Int32)) (by decide)), ⟨z326, z3, (Or.inr (⟨z6, rfl⟩))⟩, (show 0 ≤ ((v.1 0 326) + (1 : Int32)).toInt ∧ ((v.1 0 326) + (1 : Int32)).toInt ≤ 420 from (om_68b7498e7c z326 z6 z7)), (show ((v.1 0 326) + (1 : Int32)).toInt ≤ (v.1 0 326).toInt + 1 from (om_c3c06fac57 z7)), (RS.w0 (RS.w (RS.w RS.rf (by decide)) (by decide)) (by decide))⟩, by rw [ht9]; exact hP, hD⟩, hS.F ht9⟩) hS.2.2 dX2_push_47
theorem om_e78eec72e1 {x0 : Int} (h0 : 0 ≤ x0 ∧ x0 ≤ 3008) : 0 ≤ x0 ∧ x0 ≤ 3008 := by omega
theorem om_c71a99f749 {x0 x1 x2 : Int} (h0 : 0 ≤ x0 ∧ x0 ≤ 1500) (h1 : 0 ≤ x1 ∧ x1 ≤ 420) (h2 : x2 + x1 - 2 * x0 ≤ 6) : x2 < 3008 := by omega
theorem om_12396814f2 {x0 x1 : Int} (h0 : 0 ≤ x0 ∧ x0 ≤ 3008) (h1 : 0 ≤ x1 ∧ x1 ≤ 3008) (h2 : x1 = x0 + 1) : 0 ≤ x1 ∧ x1 ≤ 3008 := by omega
theorem om_d9a4d8a513 {x0 x1 x2 x3 x4 x5 : Int} (h0 : x0 = x1) (h1 : x2 = x3) (h2 : x4 = x5 + 1) : x4 + x2 - 2 * x0 + (-1) ≤ x5 + x3 - 2 * x1 := by omega
set_option maxHeartbeats 4000000 in
set_option maxRecDepth 100000 in
theorem c_x_X2_read (l : Launch) (dC : Nat → ClassId) (dI : Nat → Nat → Nat) (cI cB cZ cJ cR : ClassId) (tb : Nat → Nat) (sz : Nat) (ad : Nat → Nat) (pr : Int32 → Nat) (N : Nat) (L1 L2 : List Nat) (v : MS) (pa : Int32) (pb : Int32) (ps : Int32) (z305 : 0 ≤ (v.1 0 305).toInt ∧ (v.1 0 305).toInt ≤ 1500) (z326 : 0 ≤ (v.1 0 326).toInt ∧ (v.1 0 326).toInt ≤ 420) (z381 : 0 ≤ (v.1 0 381).toInt ∧ (v.1 0 381).toInt ≤ 3008) (hps : pr ps = ad 908) (es310 : (v.1 0 310) = ps) (zd : (v.1 0 381).toInt + (v.1 0 326).toInt - 2 * (v.1 0 305).toInt ≤ 6) : Met l yX2_read (Cond.code yX2_read cX2_read 3 none :: tw_W) ({ frames := 1, cells := 0, slots := 0, locals := 24 }) (pc_ (dC, dI) (tyS cI cB cZ cJ cR) tb (cW ad pr N cI cR L1 L2 v) sz [.ref (ad 902), .int pa, .int pb]) (qv_ (dC, dI) (cW ad pr N cI cR L1 L2 v) sz (fun (u : MS) => FC [381] [0, 378, 379, 380] v u ∧ (Q_x_X2_read L1 L2 v pa pb u) ∧ (0 ≤ (u.1 0 381).toInt ∧ (u.1 0 381).toInt ≤ 3008) ∧ ((u.1 0 381).toInt + (u.1 0 326).toInt - 2 * (u.1 0 305).toInt + (-1) ≤ (v.1 0 381).toInt + (v.1 0 326).toInt - 2 * (v.1 0 305).toInt) ∧ (RS v u)) (fun (u : MS) => (cW ad pr N cI cR L1 L2 u))) 0 0 (va_A (cW ad pr N cI cR L1 L2 v) sz) := by
  refine Met.ofW (cc := cX2_read) (maxL := 3) (ret := none) (by decide) rfl ?_
  intro p e s m args below meth c s₁ B hml hv
  obtain ⟨rfl, hsz, hP, hKK, hD0, hFx⟩ := hv
  have hK := hKK.1
  have hx := B.exec
  have hb := B.bytes
  have hr := B.returns
  have ht : ∀ w ∈ tw_W, w.before _ s = true := fun w h => atoms_spec (ws := Cond.code yX2_read cX2_read 3 none :: tw_W) B.pre w (List.mem_cons_of_mem _ h)
  have hown : s.vm.findClass RX2 = some m.cls := findClass_of_methodNamed B.named
  have hlocks := B.notSynchronized
  subst hsz
  unfold qv_
  have hD := hD0.self (sz := s.heap.size)
  generalize hAe : va_A (cW ad pr N cI cR L1 L2 v) s.heap.size = A at hD hFx ⊢
  have hA : ∀ q : Nat, s.heap.size ≤ q → A q := fun q h => by rw [← hAe]; exact Or.inr h
  have hS : va_S A s.heap s.heap [] := va_S.rf
  have hl := lv_entry ([.ref (ad 902), .int pa, .int pb]) (n := 3) (Nat.le_of_ble_eq_true rfl)
  rw [lg_entry_eq]
  generalize (lg_sl ([.ref (ad 902), .int pa, .int pb]) ++ List.replicate (3 - (lg_sl ([.ref (ad 902), .int pa, .int pb])).length) Slot.unset).toArray = ls at hl ⊢
  have hl : lv_has ls 3 [(0, .ref (ad 902)), (1, .int pa), (2, .int pb)] := hl
  refine lv_iload_n hx hb dX2_read_0 rfl (lv_at hl 1 rfl) ?_
  refine lv_iconst (v := -1) hx hb dX2_read_1 (by decide) ?_
  refine lv_icmp_eq (tgt := 18) hx hb dX2_read_2 (by decide) (fun h1 => ?_) (fun h1 => ?_)
  · have z2 : pa.toInt = (-1 : Int) := eq_z rfl (show ((-1) : Int32).toInt = (-1 : Int) by decide) h1
    refine lv_aload_n hx hb dX2_read_18 rfl (lv_at hl 0 rfl) ?_
    refine va_get (D := (dC, dI)) (ci := 6) (fs := oF_X2 ad pr v) (v := .ref (ad 901)) (C := RX2) (T := TX2) (N := 5) hx hb ht itX2 hown hK hP 2 rfl rfl 1 (by decide) (ht _ tw_498) (fun _ h9 => h9) rfl dX2_read_19 ?_
    refine lv_iconst (v := 5) hx hb dX2_read_22 (by decide) ?_
    refine lv_iload_n hx hb dX2_read_23 rfl (lv_at hl 2 rfl) ?_
    refine lv_iconst (v := 0) hx hb dX2_read_24 (by decide) ?_
    refine cu_v (rn_Vk (n := 3) (As := [.int 5, .int pb, .int 0]) (rest := []) hx hb hml hown ht hKK hFx hP hD hS hA (c_x_X1_add l dC dI cI cB cZ cJ cR tb s.heap.size ad pr N L1 L2 v (5 : Int32) pb (0 : Int32) ps (show 0 ≤ (v.1 0 381).toInt ∧ (v.1 0 381).toInt ≤ 3008 from (om_e78eec72e1 z381)) (show pr ps = ad 908 from hps) (show (v.1 0 310) = ps from es310) (show (v.1 0 381).toInt < 3008 from (om_c71a99f749 z305 z326 zd))) tw_499 tw_500 (by decide +kernel) rfl rfl ⟨Nat.le_of_ble_eq_true rfl, Nat.le_of_ble_eq_true rfl⟩ (List.range (cW ad pr N cI cR L1 L2 v).length) (rg_map _) (nd_range _) 1 rfl rfl rfl rfl hl.1 rfl (Nat.le_of_ble_eq_true rfl) dX2_read_25 ⟨Nat.le_of_ble_eq_true rfl, Nat.le_of_ble_eq_true rfl⟩) hP hD hS hA (fun u4 H locs hw3 hP hD hS => ?_)
    obtain ⟨fr3, ex3, i3813, pd3, rs3⟩ := hw3
    refine W.widen (k := 0) (n := 0) (Nat.le_refl _) (Nat.le_refl _) ?_
    have q6 : (u4.1 0 305).toInt = (v.1 0 305).toInt := congrArg Int32.toInt ((fr3.2.1 305 (by decide)).trans (show v.1 0 305 = (v.1 0 305) by rfl))
    have q7 : (u4.1 0 326).toInt = (v.1 0 326).toInt := congrArg Int32.toInt ((fr3.2.1 326 (by decide)).trans (show v.1 0 326 = (v.1 0 326) by rfl))
    exact W.vret hx hb hr (fun t ht9 hW => ⟨⟨u4, rfl, ⟨(FC.tr (FC.rf _) (FC.up fr3 (by decide) (by decide))), ⟨z305, z326, z381, zd, (Or.inl ⟨z2, u4, ex3, ⟨fr3, i3813, pd3, rs3⟩, rfl⟩)⟩, (show 0 ≤ (u4.1 0 381).toInt ∧ (u4.1 0 381).toInt ≤ 3008 from (om_12396814f2 z381 i3813 pd3)), (show (u4.1 0 381).toInt + (u4.1 0 326).toInt - 2 * (u4.1 0 305).toInt + (-1) ≤ (v.1 0 381).toInt + (v.1 0 326).toInt - 2 * (v.1 0 305).toInt from (om_d9a4d8a513 q6 q7 pd3)), (RS.tr RS.rf rs3)⟩, by rw [ht9]; exact hP, hD⟩, hS.F ht9⟩) hS.2.2 dX2_read_28
  · have z8 : pa.toInt ≠ (-1 : Int) := ne_z rfl (show ((-1) : Int32).toInt = (-1 : Int) by decide) h1
    refine lv_aload_n hx hb dX2_read_5 rfl (lv_at hl 0 rfl) ?_
    refine va_get (D := (dC, dI)) (ci := 6) (fs := oF_X2 ad pr v) (v := .ref (ad 901)) (C := RX2) (T := TX2) (N := 5) hx hb ht itX2 hown hK hP 2 rfl rfl 1 (by decide) (ht _ tw_498) (fun _ h9 => h9) rfl dX2_read_6 ?_
    refine lv_iconst (v := 3) hx hb dX2_read_9 (by decide) ?_
    refine lv_iload_n hx hb dX2_read_10 rfl (lv_at hl 1 rfl) ?_
    refine lv_iconst (v := 0) hx hb dX2_read_11 (by decide) ?_
    refine cu_v (rn_Vk (n := 3) (As := [.int 3, .int pa, .int 0]) (rest := []) hx hb hml hown ht hKK hFx hP hD hS hA (c_x_X1_add l dC dI cI cB cZ cJ cR tb s.heap.size ad pr N L1 L2 v (3 : Int32) pa (0 : Int32) ps (show 0 ≤ (v.1 0 381).toInt ∧ (v.1 0 381).toInt ≤ 3008 from (om_e78eec72e1 z381)) (show pr ps = ad 908 from hps) (show (v.1 0 310) = ps from es310) (show (v.1 0 381).toInt < 3008 from (om_c71a99f749 z305 z326 zd))) tw_499 tw_500 (by decide +kernel) rfl rfl ⟨Nat.le_of_ble_eq_true rfl, Nat.le_of_ble_eq_true rfl⟩ (List.range (cW ad pr N cI cR L1 L2 v).length) (rg_map _) (nd_range _) 1 rfl rfl rfl rfl hl.1 rfl (Nat.le_of_ble_eq_true rfl) dX2_read_12 ⟨Nat.le_of_ble_eq_true rfl, Nat.le_of_ble_eq_true rfl⟩) hP hD hS hA (fun u10 H locs hw9 hP hD hS => ?_)
    obtain ⟨fr9, ex9, i3819, pd9, rs9⟩ := hw9
    refine W.widen (k := 0) (n := 0) (Nat.le_refl _) (Nat.le_refl _) ?_
    refine lv_goto (tgt := 28) hx hb dX2_read_15 (by decide) ?_
    have q12 : (u10.1 0 305).toInt = (v.1 0 305).toInt := congrArg Int32.toInt ((fr9.2.1 305 (by decide)).trans (show v.1 0 305 = (v.1 0 305) by rfl))
    have q13 : (u10.1 0 326).toInt = (v.1 0 326).toInt := congrArg Int32.toInt ((fr9.2.1 326 (by decide)).trans (show v.1 0 326 = (v.1 0 326) by rfl))
    exact W.vret hx hb hr (fun t ht9 hW => ⟨⟨u10, rfl, ⟨(FC.tr (FC.rf _) (FC.up fr9 (by decide) (by decide))), ⟨z305, z326, z381, zd, (Or.inr (⟨z8, u10, ex9, ⟨fr9, i3819, pd9, rs9⟩, rfl⟩))⟩, (show 0 ≤ (u10.1 0 381).toInt ∧ (u10.1 0 381).toInt ≤ 3008 from (om_12396814f2 z381 i3819 pd9)), (show (u10.1 0 381).toInt + (u10.1 0 326).toInt - 2 * (u10.1 0 305).toInt + (-1) ≤ (v.1 0 381).toInt + (v.1 0 326).toInt - 2 * (v.1 0 305).toInt from (om_d9a4d8a513 q12 q13 pd9)), (RS.tr RS.rf rs9)⟩, by rw [ht9]; exact hP, hD⟩, hS.F ht9⟩) hS.2.2 dX2_read_28
theorem om_e67cbe02fb {x0 x1 : Int} (h0 : 0 ≤ x0 ∧ x0 - 4 * x1 ≤ 12) : 0 ≤ x0 ∧ x0 - 4 * x1 ≤ 16 := by omega
theorem om_697dbe4b69 {x0 : Int} (h0 : x0 = (69 : Int)) (h1 : x0 ≠ (69 : Int)) : False := by omega
theorem om_40566dd32d {x0 x1 x2 x3 : Int} (h0 : 0 ≤ x0 ∧ x0 ≤ 1500) (h1 : 0 ≤ x1 ∧ x1 ≤ 420) (h2 : 0 ≤ x2 ∧ x2 ≤ 3008) (h3 : x2 + x1 - 2 * x0 ≤ 4) (h4 : x3 = x2) : 0 ≤ x3 ∧ x3 ≤ 3008 := by omega
theorem om_00f15394ba {x0 x1 x2 x3 : Int} (h0 : 0 ≤ x0 ∧ x0 ≤ 1500) (h1 : 0 ≤ x1 ∧ x1 ≤ 420) (h2 : x2 + x1 - 2 * x0 ≤ 4) (h3 : x3 = x2) : x3 < 3008 := by omega
theorem om_9591dea625 {x0 x1 x2 : Int} (h0 : 0 ≤ x0 ∧ x0 ≤ 420) (h1 : x1 = x0) (h2 : x2 = x1) : 0 ≤ x2 ∧ x2 ≤ 420 := by omega
theorem om_839d7ed7dd {x0 : Int} (h0 : 0 ≤ x0 ∧ x0 ≤ 420) : 0 ≤ x0 ∧ x0 ≤ 420 := by omega
theorem om_4643ef22b1 {x0 x1 x2 x3 x4 x5 : Int} (h0 : 0 ≤ x0 ∧ x0 ≤ 1500) (h1 : 0 ≤ x1 ∧ x1 ≤ 420) (h2 : 0 ≤ x2 ∧ x2 ≤ 3008) (h3 : x2 + x1 - 2 * x0 ≤ 4) (h4 : x3 = x2) (h5 : x4 = x3 + 1) (h6 : x5 = x4) : 0 ≤ x5 ∧ x5 ≤ 3008 := by omega
theorem om_ccc4ed1b69 {x0 x1 x2 x3 x4 x5 x6 x7 x8 x9 x10 x11 : Int} (h0 : x0 = x1) (h1 : x2 = x3) (h2 : x4 = x5) (h3 : x6 = x0) (h4 : x7 = x2) (h5 : x8 = x4 + 1) (h6 : x9 = x6) (h7 : x10 = x8) (h8 : x11 ≤ x7 + 1) : x10 + x11 - 2 * x9 + (-2) ≤ x5 + x3 - 2 * x1 := by omega
theorem om_27850f7f4b {x0 x1 x2 x3 x4 x5 x6 x7 : Int} (h0 : x0 ≤ x1 ∧ x1 - 4 * x2 ≤ x0 - 4 * x3 + 1) (h1 : x4 = x2) (h2 : x5 = x1) (h3 : x6 = x4) (h4 : x7 = x5) : x0 ≤ x7 ∧ x7 - 4 * x6 ≤ x0 - 4 * x3 + 1 := by omega
theorem om_8c6b1ade0f {x0 x1 x2 x3 x4 x5 x6 x7 : Int} (h0 : x0 = x1) (h1 : x2 = x3) (h2 : x4 = x0) (h3 : x5 = x2) (h4 : x6 = x4) (h5 : x7 = x5) : x3 ≤ x7 ∧ x7 - 4 * x6 ≤ x3 - 4 * x1 + 1 := by omega
theorem om_73002589c1 {x0 x1 : Int} (h0 : 0 ≤ x0 ∧ x0 ≤ 1503) (h1 : x1 = x0) : 0 ≤ x1 ∧ x1 ≤ 1503 := by omega
theorem om_c93ca3468d {x0 x1 : Int} (h0 : 0 ≤ x0 ∧ x0 ≤ 1500) (h1 : x1 = x0) : 0 ≤ x1 ∧ x1 ≤ 1500 := by omega
theorem om_bada9aa148 {x0 : Int} (h0 : x0 = (70 : Int)) (h1 : x0 = (69 : Int)) : False := by omega
set_option maxHeartbeats 4000000 in
set_option maxRecDepth 100000 in
theorem c_x_X2_beginSign (l : Launch) (dC : Nat → ClassId) (dI : Nat → Nat → Nat) (cI cB cZ cJ cR : ClassId) (tb : Nat → Nat) (sz : Nat) (ad : Nat → Nat) (pr : Int32 → Nat) (N : Nat) (L1 L2 : List Nat) (v : MS) (pa : Int32) (ps : Int32) (z304 : 0 ≤ (v.1 0 304).toInt ∧ (v.1 0 304).toInt ≤ 1503) (z305 : 0 ≤ (v.1 0 305).toInt ∧ (v.1 0 305).toInt ≤ 1500) (z312 : 0 ≤ (v.1 0 312).toInt ∧ (v.1 0 312).toInt ≤ 500) (z326 : 0 ≤ (v.1 0 326).toInt ∧ (v.1 0 326).toInt ≤ 420) (z373 : 0 ≤ (v.1 0 373).toInt ∧ (v.1 0 373).toInt ≤ 4000) (z381 : 0 ≤ (v.1 0 381).toInt ∧ (v.1 0 381).toInt ≤ 3008) (hps : pr ps = ad 908) (es300 : (v.1 0 300) = ps) (es310 : (v.1 0 310) = ps) (hst : l.stackTraces = false) (zd : (v.1 0 381).toInt + (v.1 0 326).toInt - 2 * (v.1 0 305).toInt ≤ 4) (zlb : 0 ≤ (v.1 0 317).toInt ∧ (v.1 0 317).toInt - 4 * (v.1 0 305).toInt ≤ 12) : vx_Met l yX2_beginSign (Cond.code yX2_beginSign cX2_beginSign 3 none :: tw_W) ({ frames := 7, cells := 1, slots := 6, locals := 104 }) (pc_ (dC, dI) (tyS cI cB cZ cJ cR) tb (cW ad pr N cI cR L1 L2 v) sz [.ref (ad 902), .int pa]) (qvz_ (dC, dI) (cW ad pr N cI cR L1 L2 v) sz (fun (u : MS) => FC [314, 315, 317, 326, 381] [0, 324, 325, 378, 379, 380] v u ∧ (Q_x_X2_beginSign L1 L2 v pa false u) ∧ (0 ≤ (u.1 0 326).toInt ∧ (u.1 0 326).toInt ≤ 420) ∧ (0 ≤ (u.1 0 381).toInt ∧ (u.1 0 381).toInt ≤ 3008) ∧ ((u.1 0 381).toInt + (u.1 0 326).toInt - 2 * (u.1 0 305).toInt + (-2) ≤ (v.1 0 381).toInt + (v.1 0 326).toInt - 2 * (v.1 0 305).toInt) ∧ ((v.1 0 317).toInt ≤ (u.1 0 317).toInt ∧ (u.1 0 317).toInt - 4 * (u.1 0 305).toInt ≤ (v.1 0 317).toInt - 4 * (v.1 0 305).toInt + 1) ∧ (RS v u)) (fun (u : MS) => (cW ad pr N cI cR L1 L2 u))) (qxc (dC, dI) (cW ad pr N cI cR L1 L2 v) sz (fun (u : MS) => (cW ad pr N cI cR L1 L2 u)) (fun (u : MS) => FC xfl xal v u ∧ (u.1 0 308).toInt ≠ 0 ∧ (Q_x_X2_beginSign L1 L2 v pa true u))) 1 6 (va_A (cW ad pr N cI cR L1 L2 v) sz) := by
  refine vx_ofW (cc := cX2_beginSign) (maxL := 3) (ret := none) (by decide) rfl ?_
  intro p e s m args below meth c s₁ B hml hnt hv
  obtain ⟨rfl, hsz, hP, hKK, hD0, hFx⟩ := hv
  have hK := hKK.1
  have hx := B.exec
  have hb := B.bytes
  have hr := B.returns
  have ht : ∀ w ∈ tw_W, w.before _ s = true := fun w h => atoms_spec (ws := Cond.code yX2_beginSign cX2_beginSign 3 none :: tw_W) B.pre w (List.mem_cons_of_mem _ h)
  have hown : s.vm.findClass RX2 = some m.cls := findClass_of_methodNamed B.named
  have hlocks := B.notSynchronized
  subst hsz
  unfold qvz_ qxc
  have hD := hD0.self (sz := s.heap.size)
  generalize hAe : va_A (cW ad pr N cI cR L1 L2 v) s.heap.size = A at hD hFx ⊢
  have hA : ∀ q : Nat, s.heap.size ≤ q → A q := fun q h => by rw [← hAe]; exact Or.inr h
  have hS : va_S A s.heap s.heap [] := va_S.rf
  have hl := lv_entry ([.ref (ad 902), .int pa]) (n := 3) (Nat.le_of_ble_eq_true rfl)
  rw [lg_entry_eq]
  generalize (lg_sl ([.ref (ad 902), .int pa]) ++ List.replicate (3 - (lg_sl ([.ref (ad 902), .int pa])).length) Slot.unset).toArray = ls at hl ⊢
  have hl : lv_has ls 3 [(0, .ref (ad 902)), (1, .int pa)] := hl
  refine lv_iload_n hx hb dX2_beginSign_0 rfl (lv_at hl 1 rfl) ?_
  refine lv_bipush (v := 69) hx hb dX2_beginSign_1 (by decide) ?_
  refine lv_icmp_eq (tgt := 12) hx hb dX2_beginSign_3 (by decide) (fun h1 => ?_) (fun h1 => ?_)
  · have z2 : pa.toInt = (69 : Int) := eq_z rfl (show (69 : Int32).toInt = (69 : Int) by decide) h1
    refine lv_aload_n hx hb dX2_beginSign_12 rfl (lv_at hl 0 rfl) ?_
    refine va_get (D := (dC, dI)) (ci := 6) (fs := oF_X2 ad pr v) (v := .ref (ad 901)) (C := RX2) (T := TX2) (N := 5) hx hb ht itX2 hown hK hP 2 rfl rfl 1 (by decide) (ht _ tw_498) (fun _ h9 => h9) rfl dX2_beginSign_13 ?_
    refine cu_i (rn_Vk (n := 0) (As := []) (rest := []) hx hb hml hown ht hKK hFx hP hD hS hA (c_x_X1_newLabel l dC dI cI cB cZ cJ cR tb s.heap.size ad pr N L1 L2 v  (show 0 ≤ (v.1 0 305).toInt ∧ (v.1 0 305).toInt ≤ 1500 from (om_7897b4ccef z305)) (show 0 ≤ (v.1 0 317).toInt ∧ (v.1 0 317).toInt - 4 * (v.1 0 305).toInt ≤ 16 from (om_e67cbe02fb zlb))) tw_501 tw_502 (by decide +kernel) rfl rfl ⟨Nat.le_of_ble_eq_true rfl, Nat.le_of_ble_eq_true rfl⟩ (List.range (cW ad pr N cI cR L1 L2 v).length) (rg_map _) (nd_range _) 1 rfl rfl rfl rfl hl.1 rfl (Nat.le_of_ble_eq_true rfl) dX2_beginSign_16 ⟨Nat.le_of_ble_eq_true rfl, Nat.le_of_ble_eq_true rfl⟩) hP hD hS hA (fun r5 u4 H locs hw3 hP hD hS => ?_)
    obtain ⟨fr3, ex3, plb3, rs3⟩ := hw3
    refine W.widen (k := 0) (n := 0) (Nat.le_refl _) (Nat.le_refl _) ?_
    refine lv_istore_n (lv' := [(2, .int r5), (0, .ref (ad 902)), (1, .int pa)]) hx hb dX2_beginSign_19 rfl hl (by decide) rfl (fun ls hl => ?_)
    refine lv_aload_n hx hb dX2_beginSign_20 rfl (lv_at hl 1 rfl) ?_
    refine va_get (D := (dC, dI)) (ci := 6) (fs := oF_X2 ad pr u4) (v := .ref (ad 901)) (C := RX2) (T := TX2) (N := 5) hx hb ht itX2 hown hK hP 2 rfl rfl 1 (by decide) (ht _ tw_498) (fun _ h9 => h9) rfl dX2_beginSign_21 ?_
    refine lv_iload_n hx hb dX2_beginSign_24 rfl (lv_at hl 2 rfl) ?_
    refine lv_bipush (v := 69) hx hb dX2_beginSign_25 (by decide) ?_
    refine lv_icmp_ne (tgt := 35) hx hb dX2_beginSign_27 (by decide) (fun h6 => ?_) (fun h6 => ?_)
    · have z7 : pa.toInt ≠ (69 : Int) := ne_z rfl (show (69 : Int32).toInt = (69 : Int) by decide) h6
      exact False.elim (om_697dbe4b69 z2 z7)
    · have z8 : pa.toInt = (69 : Int) := eq_z rfl (show (69 : Int32).toInt = (69 : Int) by decide) h6
      refine lv_bipush (v := 16) hx hb dX2_beginSign_30 (by decide) ?_
      refine lv_goto (tgt := 37) hx hb dX2_beginSign_32 (by decide) ?_
      refine lv_iload_n hx hb dX2_beginSign_37 rfl (lv_at hl 0 rfl) ?_
      refine lv_iconst (v := 0) hx hb dX2_beginSign_38 (by decide) ?_
      have q10 : (u4.1 0 381).toInt = (v.1 0 381).toInt := congrArg Int32.toInt ((fr3.2.1 381 (by decide)).trans (show v.1 0 381 = (v.1 0 381) by rfl))
      refine cu_v (rn_Vk (n := 3) (As := [.int 16, .int r5, .int 0]) (rest := []) hx hb hml hown ht hKK hFx hP hD hS hA (c_x_X1_add l dC dI cI cB cZ cJ cR tb H.size ad pr N L1 L2 u4 (16 : Int32) r5 (0 : Int32) ps (show 0 ≤ (u4.1 0 381).toInt ∧ (u4.1 0 381).toInt ≤ 3008 from (om_40566dd32d z305 z326 z381 zd q10)) (show pr ps = ad 908 from hps) (show (u4.1 0 310) = ps from (Eq.trans (fr3.2.1 310 (by decide)) es310)) (show (u4.1 0 381).toInt < 3008 from (om_00f15394ba z305 z326 zd q10))) tw_499 tw_500 (by decide +kernel) rfl rfl ⟨Nat.le_of_ble_eq_true rfl, Nat.le_of_ble_eq_true rfl⟩ (List.range (cW ad pr N cI cR L1 L2 u4).length) (rg_map _) (nd_range _) 1 rfl rfl rfl rfl hl.1 rfl (Nat.le_of_ble_eq_true rfl) dX2_beginSign_39 ⟨Nat.le_of_ble_eq_true rfl, Nat.le_of_ble_eq_true rfl⟩) hP hD hS hA (fun u12 H locs hw11 hP hD hS => ?_)
      obtain ⟨fr11, ex11, i38111, pd11, rs11⟩ := hw11
      have i38111 : 0 ≤ (u12.1 0 381).toInt ∧ (u12.1 0 381).toInt ≤ 3008 := i38111
      have pd11 : (u12.1 0 381).toInt = (u4.1 0 381).toInt + 1 := pd11
      have rs11 : RS u4 u12 := rs11
      refine W.widen (k := 0) (n := 0) (Nat.le_refl _) (Nat.le_refl _) ?_
      refine lv_aload_n hx hb dX2_beginSign_42 rfl (lv_at hl 1 rfl) ?_
      refine lv_iload_n hx hb dX2_beginSign_43 rfl (lv_at hl 2 rfl) ?_
      refine lv_iload_n hx hb dX2_beginSign_44 rfl (lv_at hl 0 rfl) ?_
      have q14 : (u4.1 0 326).toInt = (v.1 0 326).toInt := congrArg Int32.toInt ((fr3.2.1 326 (by decide)).trans (show v.1 0 326 = (v.1 0 326) by rfl))
      have q15 : (u12.1 0 326).toInt = (u4.1 0 326).toInt := congrArg Int32.toInt ((fr11.2.1 326 (by decide)).trans (show u4.1 0 326 = (u4.1 0 326) by rfl))
      refine cu_v (rn_Vk (n := 2) (As := [.int pa, .int r5]) (rest := []) hx hb hml hown ht hKK hFx hP hD hS hA (c_x_X2_push l dC dI cI cB cZ cJ cR tb H.size ad pr N L1 L2 u12 pa r5 (show 0 ≤ (u12.1 0 326).toInt ∧ (u12.1 0 326).toInt ≤ 420 from (om_9591dea625 z326 q14 q15))) tw_503 tw_504 (by decide +kernel) rfl rfl ⟨Nat.le_of_ble_eq_true rfl, Nat.le_of_ble_eq_true rfl⟩ (List.range (cW ad pr N cI cR L1 L2 u12).length) (rg_map _) (nd_range _) 2 rfl rfl rfl rfl hl.1 rfl (Nat.le_of_ble_eq_true rfl) dX2_beginSign_45 ⟨Nat.le_of_ble_eq_true rfl, Nat.le_of_ble_eq_true rfl⟩) hP hD hS hA (fun u17 H locs hw16 hP hD hS => ?_)
      obtain ⟨fr16, ex16, i32616, pd16, rs16⟩ := hw16
      have i32616 : 0 ≤ (u17.1 0 326).toInt ∧ (u17.1 0 326).toInt ≤ 420 := i32616
      have pd16 : (u17.1 0 326).toInt ≤ (u12.1 0 326).toInt + 1 := pd16
      have rs16 : RS u12 u17 := rs16
      refine W.widen (k := 0) (n := 0) (Nat.le_refl _) (Nat.le_refl _) ?_
      have q19 : (u17.1 0 381).toInt = (u12.1 0 381).toInt := congrArg Int32.toInt ((fr16.2.1 381 (by decide)).trans (show u12.1 0 381 = (u12.1 0 381) by rfl))
      have q20 : (u4.1 0 305).toInt = (v.1 0 305).toInt := congrArg Int32.toInt ((fr3.2.1 305 (by decide)).trans (show v.1 0 305 = (v.1 0 305) by rfl))
      have q21 : (u12.1 0 305).toInt = (u4.1 0 305).toInt := congrArg Int32.toInt ((fr11.2.1 305 (by decide)).trans (show u4.1 0 305 = (u4.1 0 305) by rfl))
      have q22 : (u17.1 0 305).toInt = (u12.1 0 305).toInt := congrArg Int32.toInt ((fr16.2.1 305 (by decide)).trans (show u12.1 0 305 = (u12.1 0 305) by rfl))
      have q23 : (u12.1 0 317).toInt = (u4.1 0 317).toInt := congrArg Int32.toInt ((fr11.2.1 317 (by decide)).trans (show u4.1 0 317 = (u4.1 0 317) by rfl))
      have q24 : (u17.1 0 317).toInt = (u12.1 0 317).toInt := congrArg Int32.toInt ((fr16.2.1 317 (by decide)).trans (show u12.1 0 317 = (u12.1 0 317) by rfl))
      refine W.sz (fun hz => ?_)
      refine vx_ret ?_
      refine W.widen (k := 1) (n := 6) (Nat.le_of_ble_eq_true rfl) (Nat.le_of_ble_eq_true rfl) ?_
      exact W.vret hx hb hr (fun t ht9 hW => ⟨⟨u17, rfl, ⟨(FC.tr (FC.tr (FC.tr (FC.rf _) (FC.up fr3 (by decide) (by decide))) (FC.up fr11 (by decide) (by decide))) (FC.up fr16 (by decide) (by decide))), ⟨z304, z305, z312, z326, z373, z381, zd, zlb, (Or.inl ⟨z2, r5, u4, ex3, ⟨fr3, plb3, rs3⟩, z8, u12, ex11, ⟨fr11, i38111, pd11, rs11⟩, u17, ex16, ⟨fr16, i32616, pd16, rs16⟩, rfl, rfl⟩)⟩, (show 0 ≤ (u17.1 0 326).toInt ∧ (u17.1 0 326).toInt ≤ 420 from (om_839d7ed7dd i32616)), (show 0 ≤ (u17.1 0 381).toInt ∧ (u17.1 0 381).toInt ≤ 3008 from (om_4643ef22b1 z305 z326 z381 zd q10 pd11 q19)), (show (u17.1 0 381).toInt + (u17.1 0 326).toInt - 2 * (u17.1 0 305).toInt + (-2) ≤ (v.1 0 381).toInt + (v.1 0 326).toInt - 2 * (v.1 0 305).toInt from (om_ccc4ed1b69 q20 q14 q10 q21 q15 pd11 q22 q19 pd16)), (show (v.1 0 317).toInt ≤ (u17.1 0 317).toInt ∧ (u17.1 0 317).toInt - 4 * (u17.1 0 305).toInt ≤ (v.1 0 317).toInt - 4 * (v.1 0 305).toInt + 1 from (om_27850f7f4b plb3 q21 q23 q22 q24)), (RS.tr (RS.tr (RS.tr RS.rf rs3) rs11) rs16)⟩, ⟨by rw [ht9]; exact hP, hD⟩, by rw [ht9]; exact hz⟩, hS.F ht9⟩) hS.2.2 dX2_beginSign_48
  · have z25 : pa.toInt ≠ (69 : Int) := ne_z rfl (show (69 : Int32).toInt = (69 : Int) by decide) h1
    refine lv_iload_n hx hb dX2_beginSign_6 rfl (lv_at hl 1 rfl) ?_
    refine lv_bipush (v := 70) hx hb dX2_beginSign_7 (by decide) ?_
    refine lv_icmp_ne (tgt := 49) hx hb dX2_beginSign_9 (by decide) (fun h26 => ?_) (fun h26 => ?_)
    · have z27 : pa.toInt ≠ (70 : Int) := ne_z rfl (show (70 : Int32).toInt = (70 : Int) by decide) h26
      refine lv_aload_n hx hb dX2_beginSign_49 rfl (lv_at hl 0 rfl) ?_
      refine va_get (D := (dC, dI)) (ci := 6) (fs := oF_X2 ad pr v) (v := .ref (ad 901)) (C := RX2) (T := TX2) (N := 5) hx hb ht itX2 hown hK hP 2 rfl rfl 1 (by decide) (ht _ tw_498) (fun _ h9 => h9) rfl dX2_beginSign_50 ?_
      refine cu_i (rn_Vk (n := 0) (As := []) (rest := []) hx hb hml hown ht hKK hFx hP hD hS hA (c_x_X1_nextSlot l dC dI cI cB cZ cJ cR tb s.heap.size ad pr N L1 L2 v  (show 0 ≤ (v.1 0 312).toInt ∧ (v.1 0 312).toInt ≤ 500 from (om_9861e69da5 z312))) tw_505 tw_506 (by decide +kernel) rfl rfl ⟨Nat.le_of_ble_eq_true rfl, Nat.le_of_ble_eq_true rfl⟩ (List.range (cW ad pr N cI cR L1 L2 v).length) (rg_map _) (nd_range _) 1 rfl rfl rfl rfl hl.1 rfl (Nat.le_of_ble_eq_true rfl) dX2_beginSign_53 ⟨Nat.le_of_ble_eq_true rfl, Nat.le_of_ble_eq_true rfl⟩) hP hD hS hA (fun r30 u29 H locs hw28 hP hD hS => ?_)
      obtain ⟨rfl, ex28⟩ := hw28
      refine W.widen (k := 0) (n := 0) (Nat.le_refl _) (Nat.le_refl _) ?_
      refine lv_istore_n (lv' := [(2, .int r30), (0, .ref (ad 902)), (1, .int pa)]) hx hb dX2_beginSign_56 rfl hl (by decide) rfl (fun ls hl => ?_)
      refine lv_aload_n hx hb dX2_beginSign_57 rfl (lv_at hl 1 rfl) ?_
      refine va_get (D := (dC, dI)) (ci := 6) (fs := oF_X2 ad pr v) (v := .ref (ad 901)) (C := RX2) (T := TX2) (N := 5) hx hb ht itX2 hown hK hP 2 rfl rfl 1 (by decide) (ht _ tw_498) (fun _ h9 => h9) rfl dX2_beginSign_58 ?_
      refine lv_iconst (v := 1) hx hb dX2_beginSign_61 (by decide) ?_
      refine cu_i (rn_Vk (n := 1) (As := [.int 1]) (rest := []) hx hb hml hown ht hKK hFx hP hD hS hA (c_x_X1_wantSlots l dC dI cI cB cZ cJ cR tb H.size ad pr N L1 L2 v (1 : Int32) (show 0 ≤ (v.1 0 312).toInt ∧ (v.1 0 312).toInt ≤ 500 from (om_9861e69da5 z312))) tw_507 tw_508 (by decide +kernel) rfl rfl ⟨Nat.le_of_ble_eq_true rfl, Nat.le_of_ble_eq_true rfl⟩ (List.range (cW ad pr N cI cR L1 L2 v).length) (rg_map _) (nd_range _) 1 rfl rfl rfl rfl hl.1 rfl (Nat.le_of_ble_eq_true rfl) dX2_beginSign_62 ⟨Nat.le_of_ble_eq_true rfl, Nat.le_of_ble_eq_true rfl⟩) hP hD hS hA (fun r33 u32 H locs hw31 hP hD hS => ?_)
      obtain ⟨fr31, ex31, rs31, bz31⟩ := hw31
      refine W.widen (k := 0) (n := 0) (Nat.le_refl _) (Nat.le_refl _) ?_
      refine lv_if_ne (tgt := 83) hx hb dX2_beginSign_65 (by decide) (fun h34 => ?_) (fun h34 => ?_)
      · have z35 : r33.toInt ≠ (0 : Int) := ne_z rfl (show (0 : Int32).toInt = (0 : Int) by decide) h34
        refine lv_aload_n hx hb dX2_beginSign_83 rfl (lv_at hl 1 rfl) ?_
        refine va_get (D := (dC, dI)) (ci := 6) (fs := oF_X2 ad pr u32) (v := .ref (ad 901)) (C := RX2) (T := TX2) (N := 5) hx hb ht itX2 hown hK hP 2 rfl rfl 1 (by decide) (ht _ tw_498) (fun _ h9 => h9) rfl dX2_beginSign_84 ?_
        refine lv_iconst (v := 4) hx hb dX2_beginSign_87 (by decide) ?_
        refine lv_iload_n hx hb dX2_beginSign_88 rfl (lv_at hl 0 rfl) ?_
        refine lv_iconst (v := 0) hx hb dX2_beginSign_89 (by decide) ?_
        have q36 : (u32.1 0 381).toInt = (v.1 0 381).toInt := congrArg Int32.toInt ((fr31.2.1 381 (by decide)).trans (show v.1 0 381 = (v.1 0 381) by rfl))
        refine cu_v (rn_Vk (n := 3) (As := [.int 4, .int r30, .int 0]) (rest := []) hx hb hml hown ht hKK hFx hP hD hS hA (c_x_X1_add l dC dI cI cB cZ cJ cR tb H.size ad pr N L1 L2 u32 (4 : Int32) r30 (0 : Int32) ps (show 0 ≤ (u32.1 0 381).toInt ∧ (u32.1 0 381).toInt ≤ 3008 from (om_40566dd32d z305 z326 z381 zd q36)) (show pr ps = ad 908 from hps) (show (u32.1 0 310) = ps from (Eq.trans (fr31.2.1 310 (by decide)) es310)) (show (u32.1 0 381).toInt < 3008 from (om_00f15394ba z305 z326 zd q36))) tw_499 tw_500 (by decide +kernel) rfl rfl ⟨Nat.le_of_ble_eq_true rfl, Nat.le_of_ble_eq_true rfl⟩ (List.range (cW ad pr N cI cR L1 L2 u32).length) (rg_map _) (nd_range _) 1 rfl rfl rfl rfl hl.1 rfl (Nat.le_of_ble_eq_true rfl) dX2_beginSign_90 ⟨Nat.le_of_ble_eq_true rfl, Nat.le_of_ble_eq_true rfl⟩) hP hD hS hA (fun u38 H locs hw37 hP hD hS => ?_)
        obtain ⟨fr37, ex37, i38137, pd37, rs37⟩ := hw37
        have i38137 : 0 ≤ (u38.1 0 381).toInt ∧ (u38.1 0 381).toInt ≤ 3008 := i38137
        have pd37 : (u38.1 0 381).toInt = (u32.1 0 381).toInt + 1 := pd37
        have rs37 : RS u32 u38 := rs37
        refine W.widen (k := 0) (n := 0) (Nat.le_refl _) (Nat.le_refl _) ?_
        refine lv_aload_n hx hb dX2_beginSign_93 rfl (lv_at hl 1 rfl) ?_
        refine va_get (D := (dC, dI)) (ci := 6) (fs := oF_X2 ad pr u38) (v := .ref (ad 901)) (C := RX2) (T := TX2) (N := 5) hx hb ht itX2 hown hK hP 2 rfl rfl 1 (by decide) (ht _ tw_498) (fun _ h9 => h9) rfl dX2_beginSign_94 ?_
        refine lv_dup hx hb dX2_beginSign_97 rfl ?_
        refine va_getN (D := (dC, dI)) (ci := 5) (fs := oF_X1 ad pr u38) (v := .int (u38.1 0 314)) (C := RX1) (T := TX1) (N := 12) hx hb ht itX1 hown hK hP 1 rfl rfl 4 (by decide) (hKK.fl2 6 rfl) (fun _ h9 => h9) rfl dX2_beginSign_98 ?_
        refine lv_iconst (v := 1) hx hb dX2_beginSign_101 (by decide) ?_
        refine lv_iadd hx hb dX2_beginSign_102 ?_
        refine va_putN (D := (dC, dI)) (ci := 5) (fs := oF_X1 ad pr u38) (v := .int ((u38.1 0 314) + (1 : Int32))) (ty := .int) (C := RX1) (T := TX1) (N := 12) hx hb ht itX1 tyX1 tyX1_ok nmX1 hown hK hP hD hS 1 rfl rfl 4 (by decide) (hKK.fl2 6 rfl) (fun _ h9 => h9) rfl (by decide +kernel) rfl rfl (Nat.le_of_ble_eq_true rfl) dX2_beginSign_103 (fun H locs hP hD hS => ?_)
        have hP := cP_ (cw_314 ad pr N cI cR L1 L2 u38 ((u38.1 0 314) + (1 : Int32))) hP
        have hD := cD_ (cw_314 ad pr N cI cR L1 L2 u38 ((u38.1 0 314) + (1 : Int32))) hD
        refine lv_aload_n hx hb dX2_beginSign_106 rfl (lv_at hl 1 rfl) ?_
        refine lv_iload_n hx hb dX2_beginSign_107 rfl (lv_at hl 2 rfl) ?_
        refine lv_iload_n hx hb dX2_beginSign_108 rfl (lv_at hl 0 rfl) ?_
        have q40 : (u32.1 0 326).toInt = (v.1 0 326).toInt := congrArg Int32.toInt ((fr31.2.1 326 (by decide)).trans (show v.1 0 326 = (v.1 0 326) by rfl))
        have q41 : (u38.1 0 326).toInt = (u32.1 0 326).toInt := congrArg Int32.toInt ((fr37.2.1 326 (by decide)).trans (show u32.1 0 326 = (u32.1 0 326) by rfl))
        refine cu_v (rn_Vk (n := 2) (As := [.int pa, .int r30]) (rest := []) hx hb hml hown ht hKK hFx hP hD hS hA (c_x_X2_push l dC dI cI cB cZ cJ cR tb H.size ad pr N L1 L2 (wA u38 0 314 ((u38.1 0 314) + (1 : Int32))) pa r30 (show 0 ≤ (u38.1 0 326).toInt ∧ (u38.1 0 326).toInt ≤ 420 from (om_9591dea625 z326 q40 q41))) tw_503 tw_504 (by decide +kernel) rfl rfl ⟨Nat.le_of_ble_eq_true rfl, Nat.le_of_ble_eq_true rfl⟩ (List.range (cW ad pr N cI cR L1 L2 (wA u38 0 314 ((u38.1 0 314) + (1 : Int32)))).length) (rg_map _) (nd_range _) 2 rfl rfl rfl rfl hl.1 rfl (Nat.le_of_ble_eq_true rfl) dX2_beginSign_109 ⟨Nat.le_of_ble_eq_true rfl, Nat.le_of_ble_eq_true rfl⟩) hP hD hS hA (fun u43 H locs hw42 hP hD hS => ?_)
        obtain ⟨fr42, ex42, i32642, pd42, rs42⟩ := hw42
        have i32642 : 0 ≤ (u43.1 0 326).toInt ∧ (u43.1 0 326).toInt ≤ 420 := i32642
        have pd42 : (u43.1 0 326).toInt ≤ (u38.1 0 326).toInt + 1 := pd42
        have rs42 : RS (wA u38 0 314 ((u38.1 0 314) + (1 : Int32))) u43 := rs42
        refine W.widen (k := 0) (n := 0) (Nat.le_refl _) (Nat.le_refl _) ?_
        have q45 : (u43.1 0 381).toInt = (u38.1 0 381).toInt := congrArg Int32.toInt ((fr42.2.1 381 (by decide)).trans (show (wA u38 0 314 ((u38.1 0 314) + (1 : Int32))).1 0 381 = (u38.1 0 381) by rfl))
        have q46 : (u32.1 0 305).toInt = (v.1 0 305).toInt := congrArg Int32.toInt ((fr31.2.1 305 (by decide)).trans (show v.1 0 305 = (v.1 0 305) by rfl))
        have q47 : (u38.1 0 305).toInt = (u32.1 0 305).toInt := congrArg Int32.toInt ((fr37.2.1 305 (by decide)).trans (show u32.1 0 305 = (u32.1 0 305) by rfl))
        have q48 : (u43.1 0 305).toInt = (u38.1 0 305).toInt := congrArg Int32.toInt ((fr42.2.1 305 (by decide)).trans (show (wA u38 0 314 ((u38.1 0 314) + (1 : Int32))).1 0 305 = (u38.1 0 305) by rfl))
        have q49 : (u32.1 0 317).toInt = (v.1 0 317).toInt := congrArg Int32.toInt ((fr31.2.1 317 (by decide)).trans (show v.1 0 317 = (v.1 0 317) by rfl))
        have q50 : (u38.1 0 317).toInt = (u32.1 0 317).toInt := congrArg Int32.toInt ((fr37.2.1 317 (by decide)).trans (show u32.1 0 317 = (u32.1 0 317) by rfl))
        have q51 : (u43.1 0 317).toInt = (u38.1 0 317).toInt := congrArg Int32.toInt ((fr42.2.1 317 (by decide)).trans (show (wA u38 0 314 ((u38.1 0 314) + (1 : Int32))).1 0 317 = (u38.1 0 317) by rfl))
        refine W.sz (fun hz => ?_)
        refine vx_ret ?_
        refine W.widen (k := 1) (n := 6) (Nat.le_of_ble_eq_true rfl) (Nat.le_of_ble_eq_true rfl) ?_
        exact W.vret hx hb hr (fun t ht9 hW => ⟨⟨u43, rfl, ⟨(FC.tr (FC.f (FC.tr (FC.tr (FC.rf _) (FC.up fr31 (by decide) (by decide))) (FC.up fr37 (by decide) (by decide))) ((u38.1 0 314) + (1 : Int32)) (by decide)) (FC.up fr42 (by decide) (by decide))), ⟨z304, z305, z312, z326, z373, z381, zd, zlb, (Or.inr (⟨z25, (Or.inl ⟨z27, r30, ex28, r33, u32, ex31, ⟨fr31, rs31⟩, (Or.inl ⟨z35, u38, ex37, ⟨fr37, i38137, pd37, rs37⟩, u43, ex42, ⟨fr42, i32642, pd42, rs42⟩, rfl, rfl⟩)⟩)⟩))⟩, (show 0 ≤ (u43.1 0 326).toInt ∧ (u43.1 0 326).toInt ≤ 420 from (om_839d7ed7dd i32642)), (show 0 ≤ (u43.1 0 381).toInt ∧ (u43.1 0 381).toInt ≤ 3008 from (om_4643ef22b1 z305 z326 z381 zd q36 pd37 q45)), (show (u43.1 0 381).toInt + (u43.1 0 326).toInt - 2 * (u43.1 0 305).toInt + (-2) ≤ (v.1 0 381).toInt + (v.1 0 326).toInt - 2 * (v.1 0 305).toInt from (om_ccc4ed1b69 q46 q40 q36 q47 q41 pd37 q48 q45 pd42)), (show (v.1 0 317).toInt ≤ (u43.1 0 317).toInt ∧ (u43.1 0 317).toInt - 4 * (u43.1 0 305).toInt ≤ (v.1 0 317).toInt - 4 * (v.1 0 305).toInt + 1 from (om_8c6b1ade0f q46 q49 q47 q50 q48 q51)), (RS.tr (RS.w0 (RS.tr (RS.tr RS.rf rs31) rs37) (by decide)) rs42)⟩, ⟨by rw [ht9]; exact hP, hD⟩, by rw [ht9]; exact hz⟩, hS.F ht9⟩) hS.2.2 dX2_beginSign_112
      · have z52 : r33.toInt = (0 : Int) := eq_z rfl (show (0 : Int32).toInt = (0 : Int) by decide) h34
        refine lv_aload_n hx hb dX2_beginSign_68 rfl (lv_at hl 1 rfl) ?_
        refine va_get (D := (dC, dI)) (ci := 6) (fs := oF_X2 ad pr u32) (v := .ref (ad 900)) (C := RX2) (T := TX2) (N := 5) hx hb ht itX2 hown hK hP 2 rfl rfl 0 (by decide) (ht _ tw_509) (fun _ h9 => h9) rfl dX2_beginSign_69 ?_
        refine lv_iconst (v := 5) hx hb dX2_beginSign_72 (by decide) ?_
        refine lv_aload_n hx hb dX2_beginSign_73 rfl (lv_at hl 1 rfl) ?_
        refine va_get (D := (dC, dI)) (ci := 6) (fs := oF_X2 ad pr u32) (v := .ref (ad 900)) (C := RX2) (T := TX2) (N := 5) hx hb ht itX2 hown hK hP 2 rfl rfl 0 (by decide) (ht _ tw_509) (fun _ h9 => h9) rfl dX2_beginSign_74 ?_
        have q53 : (u32.1 0 304).toInt = (v.1 0 304).toInt := congrArg Int32.toInt ((fr31.2.1 304 (by decide)).trans (show v.1 0 304 = (v.1 0 304) by rfl))
        have q54 : (u32.1 0 305).toInt = (v.1 0 305).toInt := congrArg Int32.toInt ((fr31.2.1 305 (by decide)).trans (show v.1 0 305 = (v.1 0 305) by rfl))
        have q55 : (u32.1 0 373).toInt = (v.1 0 373).toInt := congrArg Int32.toInt ((fr31.2.1 373 (by decide)).trans (show v.1 0 373 = (v.1 0 373) by rfl))
        refine cu_i (rn_Vk (n := 0) (As := []) (rest := [.int 5, .ref (ad 900)]) hx hb hml hown ht hKK hFx hP hD hS hA (c_x_X9_place l dC dI cI cB cZ cJ cR tb H.size ad pr N L1 L2 u32 ps (show 0 ≤ (u32.1 0 304).toInt ∧ (u32.1 0 304).toInt ≤ 1503 from (om_73002589c1 z304 q53)) (show 0 ≤ (u32.1 0 305).toInt ∧ (u32.1 0 305).toInt ≤ 1500 from (om_c93ca3468d z305 q54)) (show 0 ≤ (u32.1 0 373).toInt ∧ (u32.1 0 373).toInt ≤ 4000 from (om_9084c127ed z373 q55)) (show pr ps = ad 908 from hps) (show (u32.1 0 300) = ps from (Eq.trans (fr31.2.1 300 (by decide)) es300))) tw_457 tw_510 (by decide +kernel) rfl rfl ⟨Nat.le_of_ble_eq_true rfl, Nat.le_of_ble_eq_true rfl⟩ (List.range (cW ad pr N cI cR L1 L2 u32).length) (rg_map _) (nd_range _) 0 rfl rfl rfl rfl hl.1 rfl (Nat.le_of_ble_eq_true rfl) dX2_beginSign_77 ⟨Nat.le_of_ble_eq_true rfl, Nat.le_of_ble_eq_true rfl⟩) hP hD hS hA (fun r58 u57 H locs hw56 hP hD hS => ?_)
        obtain ⟨rfl, ex56⟩ := hw56
        refine W.widen (k := 0) (n := 0) (Nat.le_refl _) (Nat.le_refl _) ?_
        refine W.sz (fun hz9 => ?_)
        refine czx_v (rx_Vk (n := 2) (As := [.int 5, .int r58]) (rest := []) hx hb hml hown ht hKK hFx hP hD hS hA (c_x_X9_refuse l dC dI cI cB cZ cJ cR tb H.size ad pr N L1 L2 u32 (5 : Int32) r58 (show l.stackTraces = false from hst) (show (5 : Int) ≠ 0 from om_5e02973d50)) tw_459 tw_511 (by decide +kernel) rfl rfl ⟨Nat.le_of_ble_eq_true rfl, Nat.le_of_ble_eq_true rfl⟩ (List.range (cW ad pr N cI cR L1 L2 u32).length) (rg_map _) (nd_range _) 0 rfl rfl rfl rfl hl.1 rfl (Nat.le_of_ble_eq_true rfl) dX2_beginSign_80 ⟨Nat.le_of_ble_eq_true rfl, Nat.le_of_ble_eq_true rfl⟩) hP hD hS hA (fun u9 ce9 q9 H locs hx9 hP hD hS hc9 hv9 hf9 => ?_) (fun u60 H locs hw59 hP hD hS hz8 => ?_)
        · exact vx_out (fun x h9 => (hnt x h9).elim) hlocks hc9 hv9 hf9 (fun t9 ht9 hv8 => ⟨u9, ⟨FC.tr (FC.tr (FC.rf _) (FC.up fr31 (by decide) (by decide))) hx9.1, hx9.2.1, ⟨z304, z305, z312, z326, z373, z381, zd, zlb, (Or.inr (⟨z25, (Or.inl ⟨z27, r30, ex28, r33, u32, ex31, ⟨fr31, rs31⟩, (Or.inr (⟨z52, r58, ex56, u9, hx9.2.2, rfl, rfl⟩))⟩)⟩))⟩⟩, ⟨rfl, by rw [ht9]; exact hP, hD⟩, hS.F ht9⟩) hS.2.2 (Nat.le_refl _) (Nat.le_refl _)
        refine W.shrink (hz8.trans hz9) ?_
        obtain ⟨fr59, ex59, no59, rs59⟩ := hw59
        have no59 : False := no59
        have rs59 : RS u32 u60 := rs59
        exact no59.elim
    · have z62 : pa.toInt = (70 : Int) := eq_z rfl (show (70 : Int32).toInt = (70 : Int) by decide) h26
      refine lv_aload_n hx hb dX2_beginSign_12 rfl (lv_at hl 0 rfl) ?_
      refine va_get (D := (dC, dI)) (ci := 6) (fs := oF_X2 ad pr v) (v := .ref (ad 901)) (C := RX2) (T := TX2) (N := 5) hx hb ht itX2 hown hK hP 2 rfl rfl 1 (by decide) (ht _ tw_498) (fun _ h9 => h9) rfl dX2_beginSign_13 ?_
      refine cu_i (rn_Vk (n := 0) (As := []) (rest := []) hx hb hml hown ht hKK hFx hP hD hS hA (c_x_X1_newLabel l dC dI cI cB cZ cJ cR tb s.heap.size ad pr N L1 L2 v  (show 0 ≤ (v.1 0 305).toInt ∧ (v.1 0 305).toInt ≤ 1500 from (om_7897b4ccef z305)) (show 0 ≤ (v.1 0 317).toInt ∧ (v.1 0 317).toInt - 4 * (v.1 0 305).toInt ≤ 16 from (om_e67cbe02fb zlb))) tw_501 tw_502 (by decide +kernel) rfl rfl ⟨Nat.le_of_ble_eq_true rfl, Nat.le_of_ble_eq_true rfl⟩ (List.range (cW ad pr N cI cR L1 L2 v).length) (rg_map _) (nd_range _) 1 rfl rfl rfl rfl hl.1 rfl (Nat.le_of_ble_eq_true rfl) dX2_beginSign_16 ⟨Nat.le_of_ble_eq_true rfl, Nat.le_of_ble_eq_true rfl⟩) hP hD hS hA (fun r65 u64 H locs hw63 hP hD hS => ?_)
      obtain ⟨fr63, ex63, plb63, rs63⟩ := hw63
      refine W.widen (k := 0) (n := 0) (Nat.le_refl _) (Nat.le_refl _) ?_
      refine lv_istore_n (lv' := [(2, .int r65), (0, .ref (ad 902)), (1, .int pa)]) hx hb dX2_beginSign_19 rfl hl (by decide) rfl (fun ls hl => ?_)
      refine lv_aload_n hx hb dX2_beginSign_20 rfl (lv_at hl 1 rfl) ?_
      refine va_get (D := (dC, dI)) (ci := 6) (fs := oF_X2 ad pr u64) (v := .ref (ad 901)) (C := RX2) (T := TX2) (N := 5) hx hb ht itX2 hown hK hP 2 rfl rfl 1 (by decide) (ht _ tw_498) (fun _ h9 => h9) rfl dX2_beginSign_21 ?_
      refine lv_iload_n hx hb dX2_beginSign_24 rfl (lv_at hl 2 rfl) ?_
      refine lv_bipush (v := 69) hx hb dX2_beginSign_25 (by decide) ?_
      refine lv_icmp_ne (tgt := 35) hx hb dX2_beginSign_27 (by decide) (fun h66 => ?_) (fun h66 => ?_)
      · have z67 : pa.toInt ≠ (69 : Int) := ne_z rfl (show (69 : Int32).toInt = (69 : Int) by decide) h66
        refine lv_bipush (v := 18) hx hb dX2_beginSign_35 (by decide) ?_
        refine lv_iload_n hx hb dX2_beginSign_37 rfl (lv_at hl 0 rfl) ?_
        refine lv_iconst (v := 0) hx hb dX2_beginSign_38 (by decide) ?_
        have q68 : (u64.1 0 381).toInt = (v.1 0 381).toInt := congrArg Int32.toInt ((fr63.2.1 381 (by decide)).trans (show v.1 0 381 = (v.1 0 381) by rfl))
        refine cu_v (rn_Vk (n := 3) (As := [.int 18, .int r65, .int 0]) (rest := []) hx hb hml hown ht hKK hFx hP hD hS hA (c_x_X1_add l dC dI cI cB cZ cJ cR tb H.size ad pr N L1 L2 u64 (18 : Int32) r65 (0 : Int32) ps (show 0 ≤ (u64.1 0 381).toInt ∧ (u64.1 0 381).toInt ≤ 3008 from (om_40566dd32d z305 z326 z381 zd q68)) (show pr ps = ad 908 from hps) (show (u64.1 0 310) = ps from (Eq.trans (fr63.2.1 310 (by decide)) es310)) (show (u64.1 0 381).toInt < 3008 from (om_00f15394ba z305 z326 zd q68))) tw_499 tw_500 (by decide +kernel) rfl rfl ⟨Nat.le_of_ble_eq_true rfl, Nat.le_of_ble_eq_true rfl⟩ (List.range (cW ad pr N cI cR L1 L2 u64).length) (rg_map _) (nd_range _) 1 rfl rfl rfl rfl hl.1 rfl (Nat.le_of_ble_eq_true rfl) dX2_beginSign_39 ⟨Nat.le_of_ble_eq_true rfl, Nat.le_of_ble_eq_true rfl⟩) hP hD hS hA (fun u70 H locs hw69 hP hD hS => ?_)
        obtain ⟨fr69, ex69, i38169, pd69, rs69⟩ := hw69
        have i38169 : 0 ≤ (u70.1 0 381).toInt ∧ (u70.1 0 381).toInt ≤ 3008 := i38169
        have pd69 : (u70.1 0 381).toInt = (u64.1 0 381).toInt + 1 := pd69
        have rs69 : RS u64 u70 := rs69
        refine W.widen (k := 0) (n := 0) (Nat.le_refl _) (Nat.le_refl _) ?_
        refine lv_aload_n hx hb dX2_beginSign_42 rfl (lv_at hl 1 rfl) ?_
        refine lv_iload_n hx hb dX2_beginSign_43 rfl (lv_at hl 2 rfl) ?_
        refine lv_iload_n hx hb dX2_beginSign_44 rfl (lv_at hl 0 rfl) ?_
        have q72 : (u64.1 0 326).toInt = (v.1 0 326).toInt := congrArg Int32.toInt ((fr63.2.1 326 (by decide)).trans (show v.1 0 326 = (v.1 0 326) by rfl))
        have q73 : (u70.1 0 326).toInt = (u64.1 0 326).toInt := congrArg Int32.toInt ((fr69.2.1 326 (by decide)).trans (show u64.1 0 326 = (u64.1 0 326) by rfl))
        refine cu_v (rn_Vk (n := 2) (As := [.int pa, .int r65]) (rest := []) hx hb hml hown ht hKK hFx hP hD hS hA (c_x_X2_push l dC dI cI cB cZ cJ cR tb H.size ad pr N L1 L2 u70 pa r65 (show 0 ≤ (u70.1 0 326).toInt ∧ (u70.1 0 326).toInt ≤ 420 from (om_9591dea625 z326 q72 q73))) tw_503 tw_504 (by decide +kernel) rfl rfl ⟨Nat.le_of_ble_eq_true rfl, Nat.le_of_ble_eq_true rfl⟩ (List.range (cW ad pr N cI cR L1 L2 u70).length) (rg_map _) (nd_range _) 2 rfl rfl rfl rfl hl.1 rfl (Nat.le_of_ble_eq_true rfl) dX2_beginSign_45 ⟨Nat.le_of_ble_eq_true rfl, Nat.le_of_ble_eq_true rfl⟩) hP hD hS hA (fun u75 H locs hw74 hP hD hS => ?_)
        obtain ⟨fr74, ex74, i32674, pd74, rs74⟩ := hw74
        have i32674 : 0 ≤ (u75.1 0 326).toInt ∧ (u75.1 0 326).toInt ≤ 420 := i32674
        have pd74 : (u75.1 0 326).toInt ≤ (u70.1 0 326).toInt + 1 := pd74
        have rs74 : RS u70 u75 := rs74
        refine W.widen (k := 0) (n := 0) (Nat.le_refl _) (Nat.le_refl _) ?_
        have q77 : (u75.1 0 381).toInt = (u70.1 0 381).toInt := congrArg Int32.toInt ((fr74.2.1 381 (by decide)).trans (show u70.1 0 381 = (u70.1 0 381) by rfl))
        have q78 : (u64.1 0 305).toInt = (v.1 0 305).toInt := congrArg Int32.toInt ((fr63.2.1 305 (by decide)).trans (show v.1 0 305 = (v.1 0 305) by rfl))
        have q79 : (u70.1 0 305).toInt = (u64.1 0 305).toInt := congrArg Int32.toInt ((fr69.2.1 305 (by decide)).trans (show u64.1 0 305 = (u64.1 0 305) by rfl))
        have q80 : (u75.1 0 305).toInt = (u70.1 0 305).toInt := congrArg Int32.toInt ((fr74.2.1 305 (by decide)).trans (show u70.1 0 305 = (u70.1 0 305) by rfl))
        have q81 : (u70.1 0 317).toInt = (u64.1 0 317).toInt := congrArg Int32.toInt ((fr69.2.1 317 (by decide)).trans (show u64.1 0 317 = (u64.1 0 317) by rfl))
        have q82 : (u75.1 0 317).toInt = (u70.1 0 317).toInt := congrArg Int32.toInt ((fr74.2.1 317 (by decide)).trans (show u70.1 0 317 = (u70.1 0 317) by rfl))
        refine W.sz (fun hz => ?_)
        refine vx_ret ?_
        refine W.widen (k := 1) (n := 6) (Nat.le_of_ble_eq_true rfl) (Nat.le_of_ble_eq_true rfl) ?_
        exact W.vret hx hb hr (fun t ht9 hW => ⟨⟨u75, rfl, ⟨(FC.tr (FC.tr (FC.tr (FC.rf _) (FC.up fr63 (by decide) (by decide))) (FC.up fr69 (by decide) (by decide))) (FC.up fr74 (by decide) (by decide))), ⟨z304, z305, z312, z326, z373, z381, zd, zlb, (Or.inr (⟨z25, (Or.inr (⟨z62, r65, u64, ex63, ⟨fr63, plb63, rs63⟩, z67, u70, ex69, ⟨fr69, i38169, pd69, rs69⟩, u75, ex74, ⟨fr74, i32674, pd74, rs74⟩, rfl, rfl⟩))⟩))⟩, (show 0 ≤ (u75.1 0 326).toInt ∧ (u75.1 0 326).toInt ≤ 420 from (om_839d7ed7dd i32674)), (show 0 ≤ (u75.1 0 381).toInt ∧ (u75.1 0 381).toInt ≤ 3008 from (om_4643ef22b1 z305 z326 z381 zd q68 pd69 q77)), (show (u75.1 0 381).toInt + (u75.1 0 326).toInt - 2 * (u75.1 0 305).toInt + (-2) ≤ (v.1 0 381).toInt + (v.1 0 326).toInt - 2 * (v.1 0 305).toInt from (om_ccc4ed1b69 q78 q72 q68 q79 q73 pd69 q80 q77 pd74)), (show (v.1 0 317).toInt ≤ (u75.1 0 317).toInt ∧ (u75.1 0 317).toInt - 4 * (u75.1 0 305).toInt ≤ (v.1 0 317).toInt - 4 * (v.1 0 305).toInt + 1 from (om_27850f7f4b plb63 q79 q81 q80 q82)), (RS.tr (RS.tr (RS.tr RS.rf rs63) rs69) rs74)⟩, ⟨by rw [ht9]; exact hP, hD⟩, by rw [ht9]; exact hz⟩, hS.F ht9⟩) hS.2.2 dX2_beginSign_48
      · have z83 : pa.toInt = (69 : Int) := eq_z rfl (show (69 : Int32).toInt = (69 : Int) by decide) h66
        exact False.elim (om_bada9aa148 z62 z83)
theorem om_623ea132ca {x0 : Int} (h0 : 0 ≤ x0 ∧ x0 ≤ 420) : -2147483648 ≤ (x0) - (1 : Int) := by omega
theorem om_069f513d31 {x0 : Int} (h0 : 0 ≤ x0 ∧ x0 ≤ 420) : (x0) - (1 : Int) < 2147483648 := by omega
theorem om_bc6599c2f6 {x0 x1 : Int} (h0 : 0 ≤ x0 ∧ x0 ≤ 420) (h1 : x1 = (x0) - (1 : Int)) : -1 ≤ x1 ∧ x1 ≤ 419 := by omega
theorem om_27b9bf5448 {x0 x1 : Int} (h0 : x0 = (x1) - (1 : Int)) : x1 = x0 + 1 := by omega
theorem om_45fe7e6688 {x0 x1 x2 : Int} : x0 + x1 - 2 * x2 + (0) ≤ x0 + x1 - 2 * x2 := by omega
theorem om_6bdfac9769 {x0 x1 x2 x3 x4 x5 : Int} (h0 : x0 + x1 - 2 * x2 + (0) ≤ x3 + x4 - 2 * x5) : x0 + x1 - 2 * x2 + (0) ≤ x3 + x4 - 2 * x5 := by omega
theorem om_08ec0ca094 {x0 x1 : Int} (h0 : 0 ≤ x0 ∧ x0 ≤ 420) (h1 : x0 = x1 + 1) (h2 : x1 < (0 : Int)) : 0 ≤ x0 ∧ x0 ≤ 420 := by omega
theorem om_e0e2ce0924 {x0 : Int} (h0 : -1 ≤ x0 ∧ x0 ≤ 419) : x0 < 420 := by omega
theorem om_6b55aa2ead {x0 x1 : Int} (h0 : 0 ≤ x0 ∧ x0 ≤ 420) (h1 : x0 = x1 + 1) (h2 : (0 : Int) ≤ x1) : 0 ≤ x0 ∧ x0 ≤ 420 := by omega
theorem om_d66624bfe3 {x0 x1 x2 x3 x4 x5 x6 : Int} (h0 : 0 ≤ x0 ∧ x0 ≤ 1500) (h1 : x1 + x2 - 2 * x0 ≤ 6) (h2 : x3 = x4 + 1) (h3 : x5 + x3 - 2 * x6 + (0) ≤ x1 + x2 - 2 * x0) (h4 : x6 = x0) (h5 : (0 : Int) ≤ x4) : x5 < 3008 := by omega
theorem om_777dc65435 {x0 : Int} (h0 : -1 ≤ x0 ∧ x0 ≤ 419) : -2147483648 ≤ x0 + (-1 : Int) := by omega
theorem om_4bcfc6b2cc {x0 : Int} (h0 : -1 ≤ x0 ∧ x0 ≤ 419) : x0 + (-1 : Int) < 2147483648 := by omega
theorem om_ca0b32cdc5 {x0 x1 x2 : Int} (h0 : -1 ≤ x0 ∧ x0 ≤ 419) (h1 : (0 : Int) ≤ x0) (h2 : x1 = x0) (h3 : x2 = x1) : 0 ≤ x2 ∧ x2 ≤ 420 := by omega
theorem om_52b6c7fdec {x0 x1 x2 : Int} (h0 : 0 ≤ x0 ∧ x0 ≤ 3008) (h1 : 0 ≤ x1 ∧ x1 ≤ 3008) (h2 : x1 = x0 + 1) (h3 : x2 = x1) : 0 ≤ x2 ∧ x2 ≤ 3008 := by omega
theorem om_c0a70928e2 {x0 x1 : Int} (h0 : -1 ≤ x0 ∧ x0 ≤ 419) (h1 : (0 : Int) ≤ x0) (h2 : x1 = x0 + (-1 : Int)) : -1 ≤ x1 ∧ x1 ≤ 419 := by omega
theorem om_b598ccf247 {x0 x1 x2 x3 : Int} (h0 : x0 = x1) (h1 : x2 = x0) (h2 : x3 = x1 + (-1 : Int)) : x2 = x3 + 1 := by omega
theorem om_4d5f6f9a8b {x0 x1 x2 x3 x4 x5 x6 x7 x8 x9 x10 x11 x12 : Int} (h0 : x0 = x1 + 1) (h1 : x2 + x0 - 2 * x3 + (0) ≤ x4 + x5 - 2 * x6) (h2 : x7 = x3) (h3 : x8 = x1) (h4 : x9 = x2 + 1) (h5 : x10 = x7) (h6 : x11 = x8) (h7 : x12 = x9) : x12 + x11 - 2 * x10 + (0) ≤ x4 + x5 - 2 * x6 := by omega
theorem om_4654e19c9b {x0 x1 : Int} (h0 : -1 ≤ x0 ∧ x0 ≤ 419) (h1 : (0 : Int) ≤ x0) (h2 : x1 = x0) : 0 ≤ x1 ∧ x1 ≤ 420 := by omega
theorem om_8ea573f12d {x0 x1 x2 : Int} (h0 : x0 = x1) (h1 : x2 = x1 + (-1 : Int)) : x0 = x2 + 1 := by omega
theorem om_cb8ba916d9 {x0 x1 x2 x3 x4 x5 x6 x7 x8 x9 : Int} (h0 : x0 = x1 + 1) (h1 : x2 + x0 - 2 * x3 + (0) ≤ x4 + x5 - 2 * x6) (h2 : x7 = x3) (h3 : x8 = x1) (h4 : x9 = x2 + 1) : x9 + x8 - 2 * x7 + (0) ≤ x4 + x5 - 2 * x6 := by omega
set_option maxHeartbeats 4000000 in
set_option maxRecDepth 100000 in
theorem c_x_X2_finishSigns (l : Launch) (dC : Nat → ClassId) (dI : Nat → Nat → Nat) (cI cB cZ cJ cR : ClassId) (tb : Nat → Nat) (sz : Nat) (ad : Nat → Nat) (pr : Int32 → Nat) (N : Nat) (L1 L2 : List Nat) (v : MS) (pa : Int32) (pb : Int32) (ps : Int32) (z305 : 0 ≤ (v.1 0 305).toInt ∧ (v.1 0 305).toInt ≤ 1500) (z326 : 0 ≤ (v.1 0 326).toInt ∧ (v.1 0 326).toInt ≤ 420) (z381 : 0 ≤ (v.1 0 381).toInt ∧ (v.1 0 381).toInt ≤ 3008) (hps : pr ps = ad 908) (es310 : (v.1 0 310) = ps) (zd : (v.1 0 381).toInt + (v.1 0 326).toInt - 2 * (v.1 0 305).toInt ≤ 6) : Met l yX2_finishSigns (Cond.code yX2_finishSigns cX2_finishSigns 4 none :: tw_W) ({ frames := 1, cells := 0, slots := 0, locals := 24 }) (pc_ (dC, dI) (tyS cI cB cZ cJ cR) tb (cW ad pr N cI cR L1 L2 v) sz [.ref (ad 902), .int pa, .int pb]) (qv_ (dC, dI) (cW ad pr N cI cR L1 L2 v) sz (fun (u : MS) => FC [314, 326, 381] [0, 316, 378, 379, 380] v u ∧ (Q_x_X2_finishSigns L1 L2 v pa pb u) ∧ (0 ≤ (u.1 0 326).toInt ∧ (u.1 0 326).toInt ≤ 420) ∧ (0 ≤ (u.1 0 381).toInt ∧ (u.1 0 381).toInt ≤ 3008) ∧ ((u.1 0 381).toInt + (u.1 0 326).toInt - 2 * (u.1 0 305).toInt + (0) ≤ (v.1 0 381).toInt + (v.1 0 326).toInt - 2 * (v.1 0 305).toInt) ∧ (RS v u)) (fun (u : MS) => (cW ad pr N cI cR L1 L2 u))) 0 0 (va_A (cW ad pr N cI cR L1 L2 v) sz) := by
  refine Met.ofW (cc := cX2_finishSigns) (maxL := 4) (ret := none) (by decide) rfl ?_
  intro p e s m args below meth c s₁ B hml hv
  obtain ⟨rfl, hsz, hP, hKK, hD0, hFx⟩ := hv
  have hK := hKK.1
  have hx := B.exec
  have hb := B.bytes
  have hr := B.returns
  have ht : ∀ w ∈ tw_W, w.before _ s = true := fun w h => atoms_spec (ws := Cond.code yX2_finishSigns cX2_finishSigns 4 none :: tw_W) B.pre w (List.mem_cons_of_mem _ h)
  have hown : s.vm.findClass RX2 = some m.cls := findClass_of_methodNamed B.named
  have hlocks := B.notSynchronized
  subst hsz
  unfold qv_
  have hD := hD0.self (sz := s.heap.size)
  generalize hAe : va_A (cW ad pr N cI cR L1 L2 v) s.heap.size = A at hD hFx ⊢
  have hA : ∀ q : Nat, s.heap.size ≤ q → A q := fun q h => by rw [← hAe]; exact Or.inr h
  have hS : va_S A s.heap s.heap [] := va_S.rf
  have hl := lv_entry ([.ref (ad 902), .int pa, .int pb]) (n := 4) (Nat.le_of_ble_eq_true rfl)
  rw [lg_entry_eq]
  generalize (lg_sl ([.ref (ad 902), .int pa, .int pb]) ++ List.replicate (4 - (lg_sl ([.ref (ad 902), .int pa, .int pb])).length) Slot.unset).toArray = ls at hl ⊢
  have hl : lv_has ls 4 [(0, .ref (ad 902)), (1, .int pa), (2, .int pb)] := hl
  refine lv_aload_n hx hb dX2_finishSigns_0 rfl (lv_at hl 0 rfl) ?_
  refine va_get (D := (dC, dI)) (ci := 6) (fs := oF_X2 ad pr v) (v := .int (v.1 0 326)) (C := RX2) (T := TX2) (N := 5) hx hb ht itX2 hown hK hP 2 rfl rfl 4 (by decide) (ht _ tw_495) (fun _ h9 => h9) rfl dX2_finishSigns_1 ?_
  refine lv_iconst (v := 1) hx hb dX2_finishSigns_4 (by decide) ?_
  refine lv_isub hx hb dX2_finishSigns_5 ?_
  have z1 : ((v.1 0 326) - (1 : Int32)).toInt = ((v.1 0 326).toInt) - (1 : Int) := sub_z rfl (show (1 : Int32).toInt = (1 : Int) by decide) (om_623ea132ca z326) (om_069f513d31 z326)
  refine lv_istore_n (lv' := [(3, .int ((v.1 0 326) - (1 : Int32))), (0, .ref (ad 902)), (1, .int pa), (2, .int pb)]) hx hb dX2_finishSigns_6 rfl hl (by decide) rfl (fun ls hl => ?_)
  refine lpm_ (X := Int32 × MS) (P := (fun (x9 : Int32 × MS) (H : Heap) (locs : List Loc) (ls : Array Slot) => (FC [314, 326, 381] [0, 316, 378, 379, 380] v x9.2) ∧ (0 ≤ (x9.2.1 0 326).toInt ∧ (x9.2.1 0 326).toInt ≤ 420) ∧ (0 ≤ (x9.2.1 0 381).toInt ∧ (x9.2.1 0 381).toInt ≤ 3008) ∧ (-1 ≤ x9.1.toInt ∧ x9.1.toInt ≤ 419) ∧ ((x9.2.1 0 326).toInt = x9.1.toInt + 1) ∧ (RS v x9.2) ∧ ((x9.2.1 0 381).toInt + (x9.2.1 0 326).toInt - 2 * (x9.2.1 0 305).toInt + (0) ≤ (v.1 0 381).toInt + (v.1 0 326).toInt - 2 * (v.1 0 305).toInt) ∧ (RT (Q_x_X2_finishSigns_L0 L1 L2 v pa pb) (((v.1 0 326) - (1 : Int32)), v) (x9.1, x9.2)) ∧ va_P (dC, dI) vwCl (cW ad pr N cI cR L1 L2 x9.2) H ∧ va_D A (cW ad pr N cI cR L1 L2 x9.2) ∧ va_S A s.heap H locs ∧ lv_has ls 4 [(3, .int x9.1), (0, .ref (ad 902)), (1, .int pa), (2, .int pb)])) (fun x9 => (x9.1.toInt + 1).toNat) 7 (fun x9 H locs ls hh ih7 => ?_) (((v.1 0 326) - (1 : Int32)), v) _ _ _ ⟨(show FC [314, 326, 381] [0, 316, 378, 379, 380] v v from (FC.rf _)), (show 0 ≤ (v.1 0 326).toInt ∧ (v.1 0 326).toInt ≤ 420 from (om_839d7ed7dd z326)), (show 0 ≤ (v.1 0 381).toInt ∧ (v.1 0 381).toInt ≤ 3008 from (om_e78eec72e1 z381)), (show -1 ≤ ((v.1 0 326) - (1 : Int32)).toInt ∧ ((v.1 0 326) - (1 : Int32)).toInt ≤ 419 from (om_bc6599c2f6 z326 z1)), (show (v.1 0 326).toInt = ((v.1 0 326) - (1 : Int32)).toInt + 1 from (om_27b9bf5448 z1)), (show RS v v from RS.rf), (show (v.1 0 381).toInt + (v.1 0 326).toInt - 2 * (v.1 0 305).toInt + (0) ≤ (v.1 0 381).toInt + (v.1 0 326).toInt - 2 * (v.1 0 305).toInt from om_45fe7e6688), RT.rf, hP, hD, hS, lv_sub hl [0, 1, 2, 3] rfl⟩
  obtain ⟨ka, w7⟩ := x9
  obtain ⟨fwL7, i326L7, i381L7, f1L7, f2L7, rsL7, pdL7, exL7, hP, hD, hS, hl⟩ := hh
  have fwL7 : FC [314, 326, 381] [0, 316, 378, 379, 380] v w7 := fwL7
  have i326L7 : 0 ≤ (w7.1 0 326).toInt ∧ (w7.1 0 326).toInt ≤ 420 := i326L7
  have i381L7 : 0 ≤ (w7.1 0 381).toInt ∧ (w7.1 0 381).toInt ≤ 3008 := i381L7
  have f1L7 : -1 ≤ ka.toInt ∧ ka.toInt ≤ 419 := f1L7
  have f2L7 : (w7.1 0 326).toInt = ka.toInt + 1 := f2L7
  have rsL7 : RS v w7 := rsL7
  have pdL7 : (w7.1 0 381).toInt + (w7.1 0 326).toInt - 2 * (w7.1 0 305).toInt + (0) ≤ (v.1 0 381).toInt + (v.1 0 326).toInt - 2 * (v.1 0 305).toInt := pdL7
  have hP : va_P (dC, dI) vwCl (cW ad pr N cI cR L1 L2 w7) H := hP
  have hD : va_D A (cW ad pr N cI cR L1 L2 w7) := hD
  have hl : lv_has ls 4 [(3, .int ka), (0, .ref (ad 902)), (1, .int pa), (2, .int pb)] := hl
  refine lv_iload_n hx hb dX2_finishSigns_7 rfl (lv_at hl 0 rfl) ?_
  refine lv_iload_n hx hb dX2_finishSigns_8 rfl (lv_at hl 2 rfl) ?_
  refine lv_icmp_lt (tgt := 123) hx hb dX2_finishSigns_9 (by decide) (fun h2 => ?_) (fun h2 => ?_)
  · have z3 : ka.toInt < pa.toInt := lt_z rfl rfl h2
    exact W.vret hx hb hr (fun t ht9 hW => ⟨⟨w7, rfl, ⟨(FC.tr (FC.rf _) (FC.up fwL7 (by decide) (by decide))), ⟨z305, z326, z381, zd, ka, w7, exL7, fwL7, i326L7, i381L7, f1L7, f2L7, rsL7, pdL7, (Or.inl ⟨z3, rfl⟩)⟩, (show 0 ≤ (w7.1 0 326).toInt ∧ (w7.1 0 326).toInt ≤ 420 from (om_839d7ed7dd i326L7)), (show 0 ≤ (w7.1 0 381).toInt ∧ (w7.1 0 381).toInt ≤ 3008 from (om_e78eec72e1 i381L7)), (show (w7.1 0 381).toInt + (w7.1 0 326).toInt - 2 * (w7.1 0 305).toInt + (0) ≤ (v.1 0 381).toInt + (v.1 0 326).toInt - 2 * (v.1 0 305).toInt from (om_6bdfac9769 pdL7)), (RS.tr RS.rf rsL7)⟩, by rw [ht9]; exact hP, hD⟩, hS.F ht9⟩) hS.2.2 dX2_finishSigns_123
  · have z4 : pa.toInt ≤ ka.toInt := nlt_z rfl rfl h2
    refine lv_iload_n hx hb dX2_finishSigns_12 rfl (lv_at hl 0 rfl) ?_
    refine lv_if_lt (tgt := 123) hx hb dX2_finishSigns_13 (by decide) (fun h5 => ?_) (fun h5 => ?_)
    · have z6 : ka.toInt < (0 : Int) := lt_z rfl (show (0 : Int32).toInt = (0 : Int) by decide) h5
      exact W.vret hx hb hr (fun t ht9 hW => ⟨⟨w7, rfl, ⟨(FC.tr (FC.rf _) (FC.up fwL7 (by decide) (by decide))), ⟨z305, z326, z381, zd, ka, w7, exL7, fwL7, i326L7, i381L7, f1L7, f2L7, rsL7, pdL7, (Or.inr (⟨z4, (Or.inl ⟨z6, rfl⟩)⟩))⟩, (show 0 ≤ (w7.1 0 326).toInt ∧ (w7.1 0 326).toInt ≤ 420 from (om_08ec0ca094 i326L7 f2L7 z6)), (show 0 ≤ (w7.1 0 381).toInt ∧ (w7.1 0 381).toInt ≤ 3008 from (om_e78eec72e1 i381L7)), (show (w7.1 0 381).toInt + (w7.1 0 326).toInt - 2 * (w7.1 0 305).toInt + (0) ≤ (v.1 0 381).toInt + (v.1 0 326).toInt - 2 * (v.1 0 305).toInt from (om_6bdfac9769 pdL7)), (RS.tr RS.rf rsL7)⟩, by rw [ht9]; exact hP, hD⟩, hS.F ht9⟩) hS.2.2 dX2_finishSigns_123
    · have z7 : (0 : Int) ≤ ka.toInt := nlt_z rfl (show (0 : Int32).toInt = (0 : Int) by decide) h5
      refine lv_aload_n hx hb dX2_finishSigns_16 rfl (lv_at hl 1 rfl) ?_
      refine va_get (D := (dC, dI)) (ci := 6) (fs := oF_X2 ad pr w7) (v := .ref (ad 324)) (C := RX2) (T := TX2) (N := 5) hx hb ht itX2 hown hK hP 2 rfl rfl 2 (by decide) (ht _ tw_496) (fun _ h9 => h9) rfl dX2_finishSigns_17 ?_
      refine lv_iload_n hx hb dX2_finishSigns_20 rfl (lv_at hl 0 rfl) ?_
      refine va_iald (D := (dC, dI)) (f := (w7.1 324)) hx hb hK hP 18 0 rfl rfl (in_y (a := ka.toInt) (b := 420) rfl (om_51058f7f87 z7) (om_e0e2ce0924 f1L7) rfl) dX2_finishSigns_21 ?_
      refine cu_s (nd_range _) (rn_S (n := 1) (As := [.int ((w7.1 324) ka.toNatClampNeg)]) (rest := []) hx hb hml hown ht hKK hFx hP hD hS hA (c_x_X9_strength l dC dI cI cB cZ cJ cR tb H.size ((w7.1 324) ka.toNatClampNeg) ) tw_512 tw_513 (by decide +kernel) rfl rfl ⟨Nat.le_of_ble_eq_true rfl, Nat.le_of_ble_eq_true rfl⟩ [] rfl rfl rfl hl.1 rfl (Nat.le_of_ble_eq_true rfl) dX2_finishSigns_22 ⟨Nat.le_of_ble_eq_true rfl, Nat.le_of_ble_eq_true rfl⟩) hP hD hS hA (fun r11 H locs hw8 hP hD hS => ?_)
      obtain ⟨ex8, c8⟩ := hw8
      have c8 : (0 ≤ r11.toInt ∧ r11.toInt ≤ 40) := c8
      refine W.widen (k := 0) (n := 0) (Nat.le_refl _) (Nat.le_refl _) ?_
      refine lv_iload_n hx hb dX2_finishSigns_25 rfl (lv_at hl 3 rfl) ?_
      refine lv_icmp_lt (tgt := 123) hx hb dX2_finishSigns_26 (by decide) (fun h12 => ?_) (fun h12 => ?_)
      · have z13 : r11.toInt < pb.toInt := lt_z rfl rfl h12
        exact W.vret hx hb hr (fun t ht9 hW => ⟨⟨w7, rfl, ⟨(FC.tr (FC.rf _) (FC.up fwL7 (by decide) (by decide))), ⟨z305, z326, z381, zd, ka, w7, exL7, fwL7, i326L7, i381L7, f1L7, f2L7, rsL7, pdL7, (Or.inr (⟨z4, (Or.inr (⟨z7, r11, ex8, c8, z13, rfl⟩))⟩))⟩, (show 0 ≤ (w7.1 0 326).toInt ∧ (w7.1 0 326).toInt ≤ 420 from (om_6b55aa2ead i326L7 f2L7 z7)), (show 0 ≤ (w7.1 0 381).toInt ∧ (w7.1 0 381).toInt ≤ 3008 from (om_e78eec72e1 i381L7)), (show (w7.1 0 381).toInt + (w7.1 0 326).toInt - 2 * (w7.1 0 305).toInt + (0) ≤ (v.1 0 381).toInt + (v.1 0 326).toInt - 2 * (v.1 0 305).toInt from (om_6bdfac9769 pdL7)), (RS.tr RS.rf rsL7)⟩, by rw [ht9]; exact hP, hD⟩, hS.F ht9⟩) hS.2.2 dX2_finishSigns_123
      · have z14 : pb.toInt ≤ r11.toInt := nlt_z rfl rfl h12
        refine lv_aload_n hx hb dX2_finishSigns_29 rfl (lv_at hl 1 rfl) ?_
        refine lv_iload_n hx hb dX2_finishSigns_30 rfl (lv_at hl 0 rfl) ?_
        refine va_put (D := (dC, dI)) (ci := 6) (fs := oF_X2 ad pr w7) (v := .int ka) (ty := .int) (C := RX2) (T := TX2) (N := 5) hx hb ht itX2 tyX2 tyX2_ok nmX2 hown hK hP hD hS 2 rfl rfl 4 (by decide) (ht _ tw_495) (fun _ h9 => h9) rfl (by decide +kernel) rfl rfl (Nat.le_of_ble_eq_true rfl) dX2_finishSigns_31 (fun H locs hP hD hS => ?_)
        have hP := cP_ (cw_326 ad pr N cI cR L1 L2 w7 ka) hP
        have hD := cD_ (cw_326 ad pr N cI cR L1 L2 w7 ka) hD
        refine lv_aload_n hx hb dX2_finishSigns_34 rfl (lv_at hl 1 rfl) ?_
        refine va_get (D := (dC, dI)) (ci := 6) (fs := oF_X2 ad pr (wA w7 0 326 ka)) (v := .ref (ad 324)) (C := RX2) (T := TX2) (N := 5) hx hb ht itX2 hown hK hP 2 rfl rfl 2 (by decide) (ht _ tw_496) (fun _ h9 => h9) rfl dX2_finishSigns_35 ?_
        refine lv_iload_n hx hb dX2_finishSigns_38 rfl (lv_at hl 0 rfl) ?_
        refine va_iald (D := (dC, dI)) (f := (w7.1 324)) hx hb hK hP 18 0 rfl rfl (in_y (a := ka.toInt) (b := 420) rfl (om_51058f7f87 z7) (om_e0e2ce0924 f1L7) rfl) dX2_finishSigns_39 ?_
        refine lv_bipush (v := 69) hx hb dX2_finishSigns_40 (by decide) ?_
        refine lv_icmp_eq (tgt := 56) hx hb dX2_finishSigns_42 (by decide) (fun h15 => ?_) (fun h15 => ?_)
        · have z16 : ((w7.1 324) ka.toNatClampNeg).toInt = (69 : Int) := eq_z rfl (show (69 : Int32).toInt = (69 : Int) by decide) h15
          refine lv_aload_n hx hb dX2_finishSigns_56 rfl (lv_at hl 1 rfl) ?_
          refine va_get (D := (dC, dI)) (ci := 6) (fs := oF_X2 ad pr (wA w7 0 326 ka)) (v := .ref (ad 901)) (C := RX2) (T := TX2) (N := 5) hx hb ht itX2 hown hK hP 2 rfl rfl 1 (by decide) (ht _ tw_498) (fun _ h9 => h9) rfl dX2_finishSigns_57 ?_
          refine lv_bipush (v := 15) hx hb dX2_finishSigns_60 (by decide) ?_
          refine lv_iconst (v := 0) hx hb dX2_finishSigns_62 (by decide) ?_
          refine lv_iconst (v := 0) hx hb dX2_finishSigns_63 (by decide) ?_
          have q17 : (w7.1 0 305).toInt = (v.1 0 305).toInt := congrArg Int32.toInt ((fwL7.2.1 305 (by decide)).trans (show v.1 0 305 = (v.1 0 305) by rfl))
          refine cu_v (rn_Vk (n := 3) (As := [.int 15, .int 0, .int 0]) (rest := []) hx hb hml hown ht hKK hFx hP hD hS hA (c_x_X1_add l dC dI cI cB cZ cJ cR tb H.size ad pr N L1 L2 (wA w7 0 326 ka) (15 : Int32) (0 : Int32) (0 : Int32) ps (show 0 ≤ (w7.1 0 381).toInt ∧ (w7.1 0 381).toInt ≤ 3008 from (om_e78eec72e1 i381L7)) (show pr ps = ad 908 from hps) (show (w7.1 0 310) = ps from (Eq.trans (fwL7.2.1 310 (by decide)) es310)) (show (w7.1 0 381).toInt < 3008 from (om_d66624bfe3 z305 zd f2L7 pdL7 q17 z7))) tw_499 tw_500 (by decide +kernel) rfl rfl ⟨Nat.le_of_ble_eq_true rfl, Nat.le_of_ble_eq_true rfl⟩ (List.range (cW ad pr N cI cR L1 L2 (wA w7 0 326 ka)).length) (rg_map _) (nd_range _) 1 rfl rfl rfl rfl hl.1 rfl (Nat.le_of_ble_eq_true rfl) dX2_finishSigns_64 ⟨Nat.le_of_ble_eq_true rfl, Nat.le_of_ble_eq_true rfl⟩) hP hD hS hA (fun u19 H locs hw18 hP hD hS => ?_)
          obtain ⟨fr18, ex18, i38118, pd18, rs18⟩ := hw18
          have i38118 : 0 ≤ (u19.1 0 381).toInt ∧ (u19.1 0 381).toInt ≤ 3008 := i38118
          have pd18 : (u19.1 0 381).toInt = (w7.1 0 381).toInt + 1 := pd18
          have rs18 : RS (wA w7 0 326 ka) u19 := rs18
          refine W.widen (k := 0) (n := 0) (Nat.le_refl _) (Nat.le_refl _) ?_
          refine lv_aload_n hx hb dX2_finishSigns_67 rfl (lv_at hl 1 rfl) ?_
          refine va_get (D := (dC, dI)) (ci := 6) (fs := oF_X2 ad pr u19) (v := .ref (ad 901)) (C := RX2) (T := TX2) (N := 5) hx hb ht itX2 hown hK hP 2 rfl rfl 1 (by decide) (ht _ tw_498) (fun _ h9 => h9) rfl dX2_finishSigns_68 ?_
          refine lv_aload_n hx hb dX2_finishSigns_71 rfl (lv_at hl 1 rfl) ?_
          refine va_get (D := (dC, dI)) (ci := 6) (fs := oF_X2 ad pr u19) (v := .ref (ad 325)) (C := RX2) (T := TX2) (N := 5) hx hb ht itX2 hown hK hP 2 rfl rfl 3 (by decide) (ht _ tw_497) (fun _ h9 => h9) rfl dX2_finishSigns_72 ?_
          refine lv_iload_n hx hb dX2_finishSigns_75 rfl (lv_at hl 0 rfl) ?_
          refine va_iald (D := (dC, dI)) (f := (u19.1 325)) hx hb hK hP 19 0 rfl rfl (in_y (a := ka.toInt) (b := 420) rfl (om_51058f7f87 z7) (om_e0e2ce0924 f1L7) rfl) dX2_finishSigns_76 ?_
          refine cu_v (rn_Vk (n := 1) (As := [.int ((u19.1 325) ka.toNatClampNeg)]) (rest := []) hx hb hml hown ht hKK hFx hP hD hS hA (c_x_X1_setLabel l dC dI cI cB cZ cJ cR tb H.size ad pr N L1 L2 u19 ((u19.1 325) ka.toNatClampNeg) ps (show 0 ≤ (u19.1 0 381).toInt ∧ (u19.1 0 381).toInt ≤ 3008 from (om_12396814f2 i381L7 i38118 pd18)) (show pr ps = ad 908 from hps) (show (u19.1 0 310) = ps from (Eq.trans (fr18.2.1 310 (by decide)) (Eq.trans (fwL7.2.1 310 (by decide)) es310)))) tw_514 tw_515 (by decide +kernel) rfl rfl ⟨Nat.le_of_ble_eq_true rfl, Nat.le_of_ble_eq_true rfl⟩ (List.range (cW ad pr N cI cR L1 L2 u19).length) (rg_map _) (nd_range _) 1 rfl rfl rfl rfl hl.1 rfl (Nat.le_of_ble_eq_true rfl) dX2_finishSigns_77 ⟨Nat.le_of_ble_eq_true rfl, Nat.le_of_ble_eq_true rfl⟩) hP hD hS hA (fun u22 H locs hw21 hP hD hS => ?_)
          obtain ⟨fr21, ex21, rs21⟩ := hw21
          have rs21 : RS u19 u22 := rs21
          refine W.widen (k := 0) (n := 0) (Nat.le_refl _) (Nat.le_refl _) ?_
          refine lv_goto (tgt := 117) hx hb dX2_finishSigns_80 (by decide) ?_
          refine lv_iinc (v := (ka + (-1 : Int32))) (lv' := [(3, .int (ka + (-1 : Int32))), (0, .ref (ad 902)), (1, .int pa), (2, .int pb)]) hx hb dX2_finishSigns_117 hl (k := 0) rfl (rfl) (by decide) rfl (fun ls hl => ?_)
          have z24 : (ka + (-1 : Int32)).toInt = ka.toInt + (-1 : Int) := add_z rfl (show ((-1) : Int32).toInt = (-1 : Int) by decide) (om_777dc65435 f1L7) (om_4bcfc6b2cc f1L7)
          refine lv_goto (tgt := 7) hx hb dX2_finishSigns_120 (by decide) ?_
          have q25 : (u19.1 0 326).toInt = ka.toInt := congrArg Int32.toInt ((fr18.2.1 326 (by decide)).trans (show (wA w7 0 326 ka).1 0 326 = ka by rfl))
          have q26 : (u22.1 0 326).toInt = (u19.1 0 326).toInt := congrArg Int32.toInt ((fr21.2.1 326 (by decide)).trans (show u19.1 0 326 = (u19.1 0 326) by rfl))
          have q27 : (u22.1 0 381).toInt = (u19.1 0 381).toInt := congrArg Int32.toInt ((fr21.2.1 381 (by decide)).trans (show u19.1 0 381 = (u19.1 0 381) by rfl))
          have q28 : (u19.1 0 305).toInt = (w7.1 0 305).toInt := congrArg Int32.toInt ((fr18.2.1 305 (by decide)).trans (show (wA w7 0 326 ka).1 0 305 = (w7.1 0 305) by rfl))
          have q29 : (u22.1 0 305).toInt = (u19.1 0 305).toInt := congrArg Int32.toInt ((fr21.2.1 305 (by decide)).trans (show u19.1 0 305 = (u19.1 0 305) by rfl))
          exact ih7 ((ka + (-1 : Int32)), u22) _ _ _ (show ((ka + (-1 : Int32)).toInt + 1).toNat < (ka.toInt + 1).toNat from tn_z (om_3e134d9ec9 z24) (om_ff03e7c988 z7)) ⟨(show FC [314, 326, 381] [0, 316, 378, 379, 380] v u22 from (FC.tr (FC.tr (FC.f (FC.tr (FC.rf _) (FC.up fwL7 (by decide) (by decide))) ka (by decide)) (FC.up fr18 (by decide) (by decide))) (FC.up fr21 (by decide) (by decide)))), (show 0 ≤ (u22.1 0 326).toInt ∧ (u22.1 0 326).toInt ≤ 420 from (om_ca0b32cdc5 f1L7 z7 q25 q26)), (show 0 ≤ (u22.1 0 381).toInt ∧ (u22.1 0 381).toInt ≤ 3008 from (om_52b6c7fdec i381L7 i38118 pd18 q27)), (show -1 ≤ (ka + (-1 : Int32)).toInt ∧ (ka + (-1 : Int32)).toInt ≤ 419 from (om_c0a70928e2 f1L7 z7 z24)), (show (u22.1 0 326).toInt = (ka + (-1 : Int32)).toInt + 1 from (om_b598ccf247 q25 q26 z24)), (show RS v u22 from (RS.tr (RS.tr (RS.w0 (RS.tr RS.rf rsL7) (by decide)) rs18) rs21)), (show (u22.1 0 381).toInt + (u22.1 0 326).toInt - 2 * (u22.1 0 305).toInt + (0) ≤ (v.1 0 381).toInt + (v.1 0 326).toInt - 2 * (v.1 0 305).toInt from (om_4d5f6f9a8b f2L7 pdL7 q28 q25 pd18 q29 q26 q27)), (RT.st exL7 ⟨fwL7, i326L7, i381L7, f1L7, f2L7, rsL7, pdL7, z4, z7, r11, ex8, c8, z14, (Or.inl ⟨z16, u19, ex18, ⟨fr18, i38118, pd18, rs18⟩, u22, ex21, ⟨fr21, rs21⟩, rfl⟩)⟩), hP, hD, hS, lv_sub hl [0, 1, 2, 3] rfl⟩
        · have z30 : ((w7.1 324) ka.toNatClampNeg).toInt ≠ (69 : Int) := ne_z rfl (show (69 : Int32).toInt = (69 : Int) by decide) h15
          refine lv_aload_n hx hb dX2_finishSigns_45 rfl (lv_at hl 1 rfl) ?_
          refine va_get (D := (dC, dI)) (ci := 6) (fs := oF_X2 ad pr (wA w7 0 326 ka)) (v := .ref (ad 324)) (C := RX2) (T := TX2) (N := 5) hx hb ht itX2 hown hK hP 2 rfl rfl 2 (by decide) (ht _ tw_496) (fun _ h9 => h9) rfl dX2_finishSigns_46 ?_
          refine lv_iload_n hx hb dX2_finishSigns_49 rfl (lv_at hl 0 rfl) ?_
          refine va_iald (D := (dC, dI)) (f := (w7.1 324)) hx hb hK hP 18 0 rfl rfl (in_y (a := ka.toInt) (b := 420) rfl (om_51058f7f87 z7) (om_e0e2ce0924 f1L7) rfl) dX2_finishSigns_50 ?_
          refine lv_bipush (v := 70) hx hb dX2_finishSigns_51 (by decide) ?_
          refine lv_icmp_ne (tgt := 83) hx hb dX2_finishSigns_53 (by decide) (fun h31 => ?_) (fun h31 => ?_)
          · have z32 : ((w7.1 324) ka.toNatClampNeg).toInt ≠ (70 : Int) := ne_z rfl (show (70 : Int32).toInt = (70 : Int) by decide) h31
            refine lv_aload_n hx hb dX2_finishSigns_83 rfl (lv_at hl 1 rfl) ?_
            refine va_get (D := (dC, dI)) (ci := 6) (fs := oF_X2 ad pr (wA w7 0 326 ka)) (v := .ref (ad 901)) (C := RX2) (T := TX2) (N := 5) hx hb ht itX2 hown hK hP 2 rfl rfl 1 (by decide) (ht _ tw_498) (fun _ h9 => h9) rfl dX2_finishSigns_84 ?_
            refine lv_dup hx hb dX2_finishSigns_87 rfl ?_
            refine va_getN (D := (dC, dI)) (ci := 5) (fs := oF_X1 ad pr (wA w7 0 326 ka)) (v := .int (w7.1 0 314)) (C := RX1) (T := TX1) (N := 12) hx hb ht itX1 hown hK hP 1 rfl rfl 4 (by decide) (hKK.fl2 6 rfl) (fun _ h9 => h9) rfl dX2_finishSigns_88 ?_
            refine lv_iconst (v := 1) hx hb dX2_finishSigns_91 (by decide) ?_
            refine lv_isub hx hb dX2_finishSigns_92 ?_
            refine va_putN (D := (dC, dI)) (ci := 5) (fs := oF_X1 ad pr (wA w7 0 326 ka)) (v := .int ((w7.1 0 314) - (1 : Int32))) (ty := .int) (C := RX1) (T := TX1) (N := 12) hx hb ht itX1 tyX1 tyX1_ok nmX1 hown hK hP hD hS 1 rfl rfl 4 (by decide) (hKK.fl2 6 rfl) (fun _ h9 => h9) rfl (by decide +kernel) rfl rfl (Nat.le_of_ble_eq_true rfl) dX2_finishSigns_93 (fun H locs hP hD hS => ?_)
            have hP := cP_ (cw_314 ad pr N cI cR L1 L2 (wA w7 0 326 ka) ((w7.1 0 314) - (1 : Int32))) hP
            have hD := cD_ (cw_314 ad pr N cI cR L1 L2 (wA w7 0 326 ka) ((w7.1 0 314) - (1 : Int32))) hD
            refine lv_aload_n hx hb dX2_finishSigns_96 rfl (lv_at hl 1 rfl) ?_
            refine va_get (D := (dC, dI)) (ci := 6) (fs := oF_X2 ad pr (wA (wA w7 0 326 ka) 0 314 ((w7.1 0 314) - (1 : Int32)))) (v := .ref (ad 901)) (C := RX2) (T := TX2) (N := 5) hx hb ht itX2 hown hK hP 2 rfl rfl 1 (by decide) (ht _ tw_498) (fun _ h9 => h9) rfl dX2_finishSigns_97 ?_
            refine lv_bipush (v := 20) hx hb dX2_finishSigns_100 (by decide) ?_
            refine lv_aload_n hx hb dX2_finishSigns_102 rfl (lv_at hl 1 rfl) ?_
            refine va_get (D := (dC, dI)) (ci := 6) (fs := oF_X2 ad pr (wA (wA w7 0 326 ka) 0 314 ((w7.1 0 314) - (1 : Int32)))) (v := .ref (ad 324)) (C := RX2) (T := TX2) (N := 5) hx hb ht itX2 hown hK hP 2 rfl rfl 2 (by decide) (ht _ tw_496) (fun _ h9 => h9) rfl dX2_finishSigns_103 ?_
            refine lv_iload_n hx hb dX2_finishSigns_106 rfl (lv_at hl 0 rfl) ?_
            refine va_iald (D := (dC, dI)) (f := (w7.1 324)) hx hb hK hP 18 0 rfl rfl (in_y (a := ka.toInt) (b := 420) rfl (om_51058f7f87 z7) (om_e0e2ce0924 f1L7) rfl) dX2_finishSigns_107 ?_
            refine lv_aload_n hx hb dX2_finishSigns_108 rfl (lv_at hl 1 rfl) ?_
            refine va_get (D := (dC, dI)) (ci := 6) (fs := oF_X2 ad pr (wA (wA w7 0 326 ka) 0 314 ((w7.1 0 314) - (1 : Int32)))) (v := .ref (ad 325)) (C := RX2) (T := TX2) (N := 5) hx hb ht itX2 hown hK hP 2 rfl rfl 3 (by decide) (ht _ tw_497) (fun _ h9 => h9) rfl dX2_finishSigns_109 ?_
            refine lv_iload_n hx hb dX2_finishSigns_112 rfl (lv_at hl 0 rfl) ?_
            refine va_iald (D := (dC, dI)) (f := (w7.1 325)) hx hb hK hP 19 0 rfl rfl (in_y (a := ka.toInt) (b := 420) rfl (om_51058f7f87 z7) (om_e0e2ce0924 f1L7) rfl) dX2_finishSigns_113 ?_
            have q33 : (w7.1 0 305).toInt = (v.1 0 305).toInt := congrArg Int32.toInt ((fwL7.2.1 305 (by decide)).trans (show v.1 0 305 = (v.1 0 305) by rfl))
            refine cu_v (rn_Vk (n := 3) (As := [.int 20, .int ((w7.1 324) ka.toNatClampNeg), .int ((w7.1 325) ka.toNatClampNeg)]) (rest := []) hx hb hml hown ht hKK hFx hP hD hS hA (c_x_X1_add l dC dI cI cB cZ cJ cR tb H.size ad pr N L1 L2 (wA (wA w7 0 326 ka) 0 314 ((w7.1 0 314) - (1 : Int32))) (20 : Int32) ((w7.1 324) ka.toNatClampNeg) ((w7.1 325) ka.toNatClampNeg) ps (show 0 ≤ (w7.1 0 381).toInt ∧ (w7.1 0 381).toInt ≤ 3008 from (om_e78eec72e1 i381L7)) (show pr ps = ad 908 from hps) (show (w7.1 0 310) = ps from (Eq.trans (fwL7.2.1 310 (by decide)) es310)) (show (w7.1 0 381).toInt < 3008 from (om_d66624bfe3 z305 zd f2L7 pdL7 q33 z7))) tw_499 tw_500 (by decide +kernel) rfl rfl ⟨Nat.le_of_ble_eq_true rfl, Nat.le_of_ble_eq_true rfl⟩ (List.range (cW ad pr N cI cR L1 L2 (wA (wA w7 0 326 ka) 0 314 ((w7.1 0 314) - (1 : Int32)))).length) (rg_map _) (nd_range _) 1 rfl rfl rfl rfl hl.1 rfl (Nat.le_of_ble_eq_true rfl) dX2_finishSigns_114 ⟨Nat.le_of_ble_eq_true rfl, Nat.le_of_ble_eq_true rfl⟩) hP hD hS hA (fun u35 H locs hw34 hP hD hS => ?_)
            obtain ⟨fr34, ex34, i38134, pd34, rs34⟩ := hw34
            have i38134 : 0 ≤ (u35.1 0 381).toInt ∧ (u35.1 0 381).toInt ≤ 3008 := i38134
            have pd34 : (u35.1 0 381).toInt = (w7.1 0 381).toInt + 1 := pd34
            have rs34 : RS (wA (wA w7 0 326 ka) 0 314 ((w7.1 0 314) - (1 : Int32))) u35 := rs34
            refine W.widen (k := 0) (n := 0) (Nat.le_refl _) (Nat.le_refl _) ?_
            refine lv_iinc (v := (ka + (-1 : Int32))) (lv' := [(3, .int (ka + (-1 : Int32))), (0, .ref (ad 902)), (1, .int pa), (2, .int pb)]) hx hb dX2_finishSigns_117 hl (k := 0) rfl (rfl) (by decide) rfl (fun ls hl => ?_)
            have z37 : (ka + (-1 : Int32)).toInt = ka.toInt + (-1 : Int) := add_z rfl (show ((-1) : Int32).toInt = (-1 : Int) by decide) (om_777dc65435 f1L7) (om_4bcfc6b2cc f1L7)
            refine lv_goto (tgt := 7) hx hb dX2_finishSigns_120 (by decide) ?_
            have q38 : (u35.1 0 326).toInt = ka.toInt := congrArg Int32.toInt ((fr34.2.1 326 (by decide)).trans (show (wA (wA w7 0 326 ka) 0 314 ((w7.1 0 314) - (1 : Int32))).1 0 326 = ka by rfl))
            have q39 : (u35.1 0 305).toInt = (w7.1 0 305).toInt := congrArg Int32.toInt ((fr34.2.1 305 (by decide)).trans (show (wA (wA w7 0 326 ka) 0 314 ((w7.1 0 314) - (1 : Int32))).1 0 305 = (w7.1 0 305) by rfl))
            exact ih7 ((ka + (-1 : Int32)), u35) _ _ _ (show ((ka + (-1 : Int32)).toInt + 1).toNat < (ka.toInt + 1).toNat from tn_z (om_3e134d9ec9 z37) (om_ff03e7c988 z7)) ⟨(show FC [314, 326, 381] [0, 316, 378, 379, 380] v u35 from (FC.tr (FC.f (FC.f (FC.tr (FC.rf _) (FC.up fwL7 (by decide) (by decide))) ka (by decide)) ((w7.1 0 314) - (1 : Int32)) (by decide)) (FC.up fr34 (by decide) (by decide)))), (show 0 ≤ (u35.1 0 326).toInt ∧ (u35.1 0 326).toInt ≤ 420 from (om_4654e19c9b f1L7 z7 q38)), (show 0 ≤ (u35.1 0 381).toInt ∧ (u35.1 0 381).toInt ≤ 3008 from (om_12396814f2 i381L7 i38134 pd34)), (show -1 ≤ (ka + (-1 : Int32)).toInt ∧ (ka + (-1 : Int32)).toInt ≤ 419 from (om_c0a70928e2 f1L7 z7 z37)), (show (u35.1 0 326).toInt = (ka + (-1 : Int32)).toInt + 1 from (om_8ea573f12d q38 z37)), (show RS v u35 from (RS.tr (RS.w0 (RS.w0 (RS.tr RS.rf rsL7) (by decide)) (by decide)) rs34)), (show (u35.1 0 381).toInt + (u35.1 0 326).toInt - 2 * (u35.1 0 305).toInt + (0) ≤ (v.1 0 381).toInt + (v.1 0 326).toInt - 2 * (v.1 0 305).toInt from (om_cb8ba916d9 f2L7 pdL7 q39 q38 pd34)), (RT.st exL7 ⟨fwL7, i326L7, i381L7, f1L7, f2L7, rsL7, pdL7, z4, z7, r11, ex8, c8, z14, (Or.inr (⟨z30, (Or.inl ⟨z32, u35, ex34, ⟨fr34, i38134, pd34, rs34⟩, rfl⟩)⟩))⟩), hP, hD, hS, lv_sub hl [0, 1, 2, 3] rfl⟩
          · have z40 : ((w7.1 324) ka.toNatClampNeg).toInt = (70 : Int) := eq_z rfl (show (70 : Int32).toInt = (70 : Int) by decide) h31
            refine lv_aload_n hx hb dX2_finishSigns_56 rfl (lv_at hl 1 rfl) ?_
            refine va_get (D := (dC, dI)) (ci := 6) (fs := oF_X2 ad pr (wA w7 0 326 ka)) (v := .ref (ad 901)) (C := RX2) (T := TX2) (N := 5) hx hb ht itX2 hown hK hP 2 rfl rfl 1 (by decide) (ht _ tw_498) (fun _ h9 => h9) rfl dX2_finishSigns_57 ?_
            refine lv_bipush (v := 15) hx hb dX2_finishSigns_60 (by decide) ?_
            refine lv_iconst (v := 0) hx hb dX2_finishSigns_62 (by decide) ?_
            refine lv_iconst (v := 0) hx hb dX2_finishSigns_63 (by decide) ?_
            have q41 : (w7.1 0 305).toInt = (v.1 0 305).toInt := congrArg Int32.toInt ((fwL7.2.1 305 (by decide)).trans (show v.1 0 305 = (v.1 0 305) by rfl))
            refine cu_v (rn_Vk (n := 3) (As := [.int 15, .int 0, .int 0]) (rest := []) hx hb hml hown ht hKK hFx hP hD hS hA (c_x_X1_add l dC dI cI cB cZ cJ cR tb H.size ad pr N L1 L2 (wA w7 0 326 ka) (15 : Int32) (0 : Int32) (0 : Int32) ps (show 0 ≤ (w7.1 0 381).toInt ∧ (w7.1 0 381).toInt ≤ 3008 from (om_e78eec72e1 i381L7)) (show pr ps = ad 908 from hps) (show (w7.1 0 310) = ps from (Eq.trans (fwL7.2.1 310 (by decide)) es310)) (show (w7.1 0 381).toInt < 3008 from (om_d66624bfe3 z305 zd f2L7 pdL7 q41 z7))) tw_499 tw_500 (by decide +kernel) rfl rfl ⟨Nat.le_of_ble_eq_true rfl, Nat.le_of_ble_eq_true rfl⟩ (List.range (cW ad pr N cI cR L1 L2 (wA w7 0 326 ka)).length) (rg_map _) (nd_range _) 1 rfl rfl rfl rfl hl.1 rfl (Nat.le_of_ble_eq_true rfl) dX2_finishSigns_64 ⟨Nat.le_of_ble_eq_true rfl, Nat.le_of_ble_eq_true rfl⟩) hP hD hS hA (fun u43 H locs hw42 hP hD hS => ?_)
            obtain ⟨fr42, ex42, i38142, pd42, rs42⟩ := hw42
            have i38142 : 0 ≤ (u43.1 0 381).toInt ∧ (u43.1 0 381).toInt ≤ 3008 := i38142
            have pd42 : (u43.1 0 381).toInt = (w7.1 0 381).toInt + 1 := pd42
            have rs42 : RS (wA w7 0 326 ka) u43 := rs42
            refine W.widen (k := 0) (n := 0) (Nat.le_refl _) (Nat.le_refl _) ?_
            refine lv_aload_n hx hb dX2_finishSigns_67 rfl (lv_at hl 1 rfl) ?_
            refine va_get (D := (dC, dI)) (ci := 6) (fs := oF_X2 ad pr u43) (v := .ref (ad 901)) (C := RX2) (T := TX2) (N := 5) hx hb ht itX2 hown hK hP 2 rfl rfl 1 (by decide) (ht _ tw_498) (fun _ h9 => h9) rfl dX2_finishSigns_68 ?_
            refine lv_aload_n hx hb dX2_finishSigns_71 rfl (lv_at hl 1 rfl) ?_
            refine va_get (D := (dC, dI)) (ci := 6) (fs := oF_X2 ad pr u43) (v := .ref (ad 325)) (C := RX2) (T := TX2) (N := 5) hx hb ht itX2 hown hK hP 2 rfl rfl 3 (by decide) (ht _ tw_497) (fun _ h9 => h9) rfl dX2_finishSigns_72 ?_
            refine lv_iload_n hx hb dX2_finishSigns_75 rfl (lv_at hl 0 rfl) ?_
            refine va_iald (D := (dC, dI)) (f := (u43.1 325)) hx hb hK hP 19 0 rfl rfl (in_y (a := ka.toInt) (b := 420) rfl (om_51058f7f87 z7) (om_e0e2ce0924 f1L7) rfl) dX2_finishSigns_76 ?_
            refine cu_v (rn_Vk (n := 1) (As := [.int ((u43.1 325) ka.toNatClampNeg)]) (rest := []) hx hb hml hown ht hKK hFx hP hD hS hA (c_x_X1_setLabel l dC dI cI cB cZ cJ cR tb H.size ad pr N L1 L2 u43 ((u43.1 325) ka.toNatClampNeg) ps (show 0 ≤ (u43.1 0 381).toInt ∧ (u43.1 0 381).toInt ≤ 3008 from (om_12396814f2 i381L7 i38142 pd42)) (show pr ps = ad 908 from hps) (show (u43.1 0 310) = ps from (Eq.trans (fr42.2.1 310 (by decide)) (Eq.trans (fwL7.2.1 310 (by decide)) es310)))) tw_514 tw_515 (by decide +kernel) rfl rfl ⟨Nat.le_of_ble_eq_true rfl, Nat.le_of_ble_eq_true rfl⟩ (List.range (cW ad pr N cI cR L1 L2 u43).length) (rg_map _) (nd_range _) 1 rfl rfl rfl rfl hl.1 rfl (Nat.le_of_ble_eq_true rfl) dX2_finishSigns_77 ⟨Nat.le_of_ble_eq_true rfl, Nat.le_of_ble_eq_true rfl⟩) hP hD hS hA (fun u46 H locs hw45 hP hD hS => ?_)
            obtain ⟨fr45, ex45, rs45⟩ := hw45
            have rs45 : RS u43 u46 := rs45
            refine W.widen (k := 0) (n := 0) (Nat.le_refl _) (Nat.le_refl _) ?_
            refine lv_goto (tgt := 117) hx hb dX2_finishSigns_80 (by decide) ?_
            refine lv_iinc (v := (ka + (-1 : Int32))) (lv' := [(3, .int (ka + (-1 : Int32))), (0, .ref (ad 902)), (1, .int pa), (2, .int pb)]) hx hb dX2_finishSigns_117 hl (k := 0) rfl (rfl) (by decide) rfl (fun ls hl => ?_)
            have z48 : (ka + (-1 : Int32)).toInt = ka.toInt + (-1 : Int) := add_z rfl (show ((-1) : Int32).toInt = (-1 : Int) by decide) (om_777dc65435 f1L7) (om_4bcfc6b2cc f1L7)
            refine lv_goto (tgt := 7) hx hb dX2_finishSigns_120 (by decide) ?_
            have q49 : (u43.1 0 326).toInt = ka.toInt := congrArg Int32.toInt ((fr42.2.1 326 (by decide)).trans (show (wA w7 0 326 ka).1 0 326 = ka by rfl))
            have q50 : (u46.1 0 326).toInt = (u43.1 0 326).toInt := congrArg Int32.toInt ((fr45.2.1 326 (by decide)).trans (show u43.1 0 326 = (u43.1 0 326) by rfl))
            have q51 : (u46.1 0 381).toInt = (u43.1 0 381).toInt := congrArg Int32.toInt ((fr45.2.1 381 (by decide)).trans (show u43.1 0 381 = (u43.1 0 381) by rfl))
            have q52 : (u43.1 0 305).toInt = (w7.1 0 305).toInt := congrArg Int32.toInt ((fr42.2.1 305 (by decide)).trans (show (wA w7 0 326 ka).1 0 305 = (w7.1 0 305) by rfl))
            have q53 : (u46.1 0 305).toInt = (u43.1 0 305).toInt := congrArg Int32.toInt ((fr45.2.1 305 (by decide)).trans (show u43.1 0 305 = (u43.1 0 305) by rfl))
            exact ih7 ((ka + (-1 : Int32)), u46) _ _ _ (show ((ka + (-1 : Int32)).toInt + 1).toNat < (ka.toInt + 1).toNat from tn_z (om_3e134d9ec9 z48) (om_ff03e7c988 z7)) ⟨(show FC [314, 326, 381] [0, 316, 378, 379, 380] v u46 from (FC.tr (FC.tr (FC.f (FC.tr (FC.rf _) (FC.up fwL7 (by decide) (by decide))) ka (by decide)) (FC.up fr42 (by decide) (by decide))) (FC.up fr45 (by decide) (by decide)))), (show 0 ≤ (u46.1 0 326).toInt ∧ (u46.1 0 326).toInt ≤ 420 from (om_ca0b32cdc5 f1L7 z7 q49 q50)), (show 0 ≤ (u46.1 0 381).toInt ∧ (u46.1 0 381).toInt ≤ 3008 from (om_52b6c7fdec i381L7 i38142 pd42 q51)), (show -1 ≤ (ka + (-1 : Int32)).toInt ∧ (ka + (-1 : Int32)).toInt ≤ 419 from (om_c0a70928e2 f1L7 z7 z48)), (show (u46.1 0 326).toInt = (ka + (-1 : Int32)).toInt + 1 from (om_b598ccf247 q49 q50 z48)), (show RS v u46 from (RS.tr (RS.tr (RS.w0 (RS.tr RS.rf rsL7) (by decide)) rs42) rs45)), (show (u46.1 0 381).toInt + (u46.1 0 326).toInt - 2 * (u46.1 0 305).toInt + (0) ≤ (v.1 0 381).toInt + (v.1 0 326).toInt - 2 * (v.1 0 305).toInt from (om_4d5f6f9a8b f2L7 pdL7 q52 q49 pd42 q53 q50 q51)), (RT.st exL7 ⟨fwL7, i326L7, i381L7, f1L7, f2L7, rsL7, pdL7, z4, z7, r11, ex8, c8, z14, (Or.inr (⟨z30, (Or.inr (⟨z40, u43, ex42, ⟨fr42, i38142, pd42, rs42⟩, u46, ex45, ⟨fr45, rs45⟩, rfl⟩))⟩))⟩), hP, hD, hS, lv_sub hl [0, 1, 2, 3] rfl⟩
