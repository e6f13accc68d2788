theorem dX1_begin_0 : decode cX1_begin 0 = .ok (.aload_n 0, 1) := by decide +kernel
theorem dX1_begin_1 : decode cX1_begin 1 = .ok (.aload_n 1, 1) := by decide +kernel
theorem dX1_begin_2 : decode cX1_begin 2 = .ok (.putfield 27, 3) := by decide +kernel
theorem tw_463 : (.fieldLink RX1 27 "PocketCompiler$Builder" "program" "LPocketCompiler$Program;" : Cond) ∈ tw_W := tw_in (t8_1 (List.mem_of_getElem? (i := 230) rfl)) rfl
theorem itX1 : ∀ w ∈ wsX10, w ∈ tw_W := tw_all (by decide +kernel)
theorem dX1_begin_5 : decode cX1_begin 5 = .ok (.aload_n 0, 1) := by decide +kernel
theorem dX1_begin_6 : decode cX1_begin 6 = .ok (.getfield 27, 3) := by decide +kernel
theorem dX1_begin_9 : decode cX1_begin 9 = .ok (.invokevirtual 31, 3) := by decide +kernel
theorem tw_464 : (.code yX7_clear cX7_clear 1 none : Cond) ∈ tw_W := tw_in (t8_3 (List.mem_of_getElem? (i := 98) rfl)) rfl
theorem tw_465 : ∀ w ∈ ([.methodLink RX1 31 yX7_clear, .instanceMethod yX7_clear, .selects RX7 yX7_clear yX7_clear, .initialized RX7] : List Cond), w ∈ tw_W := al_c (tw_in (t8_3 (List.mem_of_getElem? (i := 95) rfl)) rfl) (al_c (tw_in (t8_3 (List.mem_of_getElem? (i := 96) rfl)) rfl) (al_c (tw_in (t8_3 (List.mem_of_getElem? (i := 97) rfl)) rfl) (al_c (tw_in (t8_1 (List.mem_of_getElem? (i := 8) rfl)) rfl) al_n)))
theorem dX1_begin_12 : decode cX1_begin 12 = .ok (.aload_n 0, 1) := by decide +kernel
theorem dX1_begin_13 : decode cX1_begin 13 = .ok (.iconst 0, 1) := by decide +kernel
theorem dX1_begin_14 : decode cX1_begin 14 = .ok (.putfield 36, 3) := by decide +kernel
theorem tw_466 : (.fieldLink RX1 36 "PocketCompiler$Builder" "labelCount" "I" : Cond) ∈ tw_W := tw_in (t8_2 (List.mem_of_getElem? (i := 1) rfl)) rfl
theorem dX1_begin_17 : decode cX1_begin 17 = .ok (.aload_n 0, 1) := by decide +kernel
theorem dX1_begin_18 : decode cX1_begin 18 = .ok (.iconst 0, 1) := by decide +kernel
theorem dX1_begin_19 : decode cX1_begin 19 = .ok (.putfield 40, 3) := by decide +kernel
theorem tw_467 : (.fieldLink RX1 40 "PocketCompiler$Builder" "callCount" "I" : Cond) ∈ tw_W := tw_in (t8_2 (List.mem_of_getElem? (i := 5) rfl)) rfl
theorem dX1_begin_22 : decode cX1_begin 22 = .ok (.return_, 1) := by decide +kernel
theorem dX1_beginFunction_0 : decode cX1_beginFunction 0 = .ok (.aload_n 0, 1) := by decide +kernel
theorem dX1_beginFunction_1 : decode cX1_beginFunction 1 = .ok (.iconst 0, 1) := by decide +kernel
theorem dX1_beginFunction_2 : decode cX1_beginFunction 2 = .ok (.putfield 43, 3) := by decide +kernel
theorem tw_468 : (.fieldLink RX1 43 "PocketCompiler$Builder" "knownCount" "I" : Cond) ∈ tw_W := tw_in (t8_1 (List.mem_of_getElem? (i := 233) rfl)) rfl
theorem dX1_beginFunction_5 : decode cX1_beginFunction 5 = .ok (.aload_n 0, 1) := by decide +kernel
theorem dX1_beginFunction_6 : decode cX1_beginFunction 6 = .ok (.iconst 0, 1) := by decide +kernel
theorem dX1_beginFunction_7 : decode cX1_beginFunction 7 = .ok (.putfield 46, 3) := by decide +kernel
theorem tw_469 : (.fieldLink RX1 46 "PocketCompiler$Builder" "blockStart" "I" : Cond) ∈ tw_W := tw_in (t8_1 (List.mem_of_getElem? (i := 235) rfl)) rfl
theorem dX1_beginFunction_10 : decode cX1_beginFunction 10 = .ok (.aload_n 0, 1) := by decide +kernel
theorem dX1_beginFunction_11 : decode cX1_beginFunction 11 = .ok (.iconst 0, 1) := by decide +kernel
theorem dX1_beginFunction_12 : decode cX1_beginFunction 12 = .ok (.putfield 49, 3) := by decide +kernel
theorem tw_470 : (.fieldLink RX1 49 "PocketCompiler$Builder" "putBy" "I" : Cond) ∈ tw_W := tw_in (t8_1 (List.mem_of_getElem? (i := 237) rfl)) rfl
theorem dX1_beginFunction_15 : decode cX1_beginFunction 15 = .ok (.aload_n 0, 1) := by decide +kernel
theorem dX1_beginFunction_16 : decode cX1_beginFunction 16 = .ok (.iconst 0, 1) := by decide +kernel
theorem dX1_beginFunction_17 : decode cX1_beginFunction 17 = .ok (.putfield 52, 3) := by decide +kernel
theorem tw_471 : (.fieldLink RX1 52 "PocketCompiler$Builder" "mostSlots" "I" : Cond) ∈ tw_W := tw_in (t8_1 (List.mem_of_getElem? (i := 239) rfl)) rfl
theorem dX1_beginFunction_20 : decode cX1_beginFunction 20 = .ok (.return_, 1) := by decide +kernel
theorem dX1_frame_0 : decode cX1_frame 0 = .ok (.bipush 8, 2) := by decide +kernel
theorem dX1_frame_2 : decode cX1_frame 2 = .ok (.iconst 4, 1) := by decide +kernel
theorem dX1_frame_3 : decode cX1_frame 3 = .ok (.aload_n 0, 1) := by decide +kernel
theorem dX1_frame_4 : decode cX1_frame 4 = .ok (.getfield 52, 3) := by decide +kernel
theorem dX1_frame_7 : decode cX1_frame 7 = .ok (.imul, 1) := by decide +kernel
theorem dX1_frame_8 : decode cX1_frame 8 = .ok (.iadd, 1) := by decide +kernel
theorem dX1_frame_9 : decode cX1_frame 9 = .ok (.ireturn, 1) := by decide +kernel
theorem dX1_nextSlot_0 : decode cX1_nextSlot 0 = .ok (.aload_n 0, 1) := by decide +kernel
theorem dX1_nextSlot_1 : decode cX1_nextSlot 1 = .ok (.getfield 43, 3) := by decide +kernel
theorem dX1_nextSlot_4 : decode cX1_nextSlot 4 = .ok (.aload_n 0, 1) := by decide +kernel
theorem dX1_nextSlot_5 : decode cX1_nextSlot 5 = .ok (.getfield 49, 3) := by decide +kernel
theorem dX1_nextSlot_8 : decode cX1_nextSlot 8 = .ok (.iadd, 1) := by decide +kernel
theorem dX1_nextSlot_9 : decode cX1_nextSlot 9 = .ok (.ireturn, 1) := by decide +kernel
theorem dX1_slotNamed_0 : decode cX1_slotNamed 0 = .ok (.aload_n 0, 1) := by decide +kernel
theorem dX1_slotNamed_1 : decode cX1_slotNamed 1 = .ok (.getfield 43, 3) := by decide +kernel
theorem dX1_slotNamed_4 : decode cX1_slotNamed 4 = .ok (.sipush 500, 3) := by decide +kernel
theorem dX1_slotNamed_7 : decode cX1_slotNamed 7 = .ok (.invokestatic 59, 3) := by decide +kernel
theorem tw_472 : (.methodLink RX1 59 Lib.Math.min.name : Cond) ∈ tw_W := tw_in (t8_4 (List.mem_of_getElem? (i := 29) rfl)) rfl
theorem tw_473 : (.static Lib.Math.min.name : Cond) ∈ tw_W := tw_in (t8_4 (List.mem_of_getElem? (i := 30) rfl)) rfl
theorem tw_474 : (.initialized "java/lang/Math" : Cond) ∈ tw_W := tw_in (t8_1 (List.mem_of_getElem? (i := 22) rfl)) rfl
theorem tw_475 : (.code Lib.Math.min.name Lib.Math.min.code 2 (some .int) : Cond) ∈ tw_W := tw_in (by decide +kernel) (by decide +kernel)
theorem dX1_slotNamed_10 : decode cX1_slotNamed 10 = .ok (.iconst 1, 1) := by decide +kernel
theorem dX1_slotNamed_11 : decode cX1_slotNamed 11 = .ok (.isub, 1) := by decide +kernel
theorem dX1_slotNamed_12 : decode cX1_slotNamed 12 = .ok (.istore_n 2, 1) := by decide +kernel
theorem dX1_slotNamed_13 : decode cX1_slotNamed 13 = .ok (.iload_n 2, 1) := by decide +kernel
theorem dX1_slotNamed_14 : decode cX1_slotNamed 14 = .ok (.ifCond .lt 21, 3) := by decide +kernel
theorem dX1_slotNamed_35 : decode cX1_slotNamed 35 = .ok (.iconst (-1), 1) := by decide +kernel
theorem dX1_slotNamed_36 : decode cX1_slotNamed 36 = .ok (.ireturn, 1) := by decide +kernel
theorem dX1_slotNamed_17 : decode cX1_slotNamed 17 = .ok (.aload_n 0, 1) := by decide +kernel
theorem dX1_slotNamed_18 : decode cX1_slotNamed 18 = .ok (.getfield 9, 3) := by decide +kernel
theorem tw_476 : (.fieldLink RX1 9 "PocketCompiler$Builder" "known" "[I" : Cond) ∈ tw_W := tw_in (t8_1 (List.mem_of_getElem? (i := 232) rfl)) rfl
theorem dX1_slotNamed_21 : decode cX1_slotNamed 21 = .ok (.iload_n 2, 1) := by decide +kernel
theorem dX1_slotNamed_22 : decode cX1_slotNamed 22 = .ok (.iaload, 1) := by decide +kernel
theorem dX1_slotNamed_23 : decode cX1_slotNamed 23 = .ok (.iload_n 1, 1) := by decide +kernel
theorem dX1_slotNamed_24 : decode cX1_slotNamed 24 = .ok (.if_icmp .ne 5, 3) := by decide +kernel
theorem dX1_slotNamed_29 : decode cX1_slotNamed 29 = .ok (.iinc 2 (-1), 3) := by decide +kernel
theorem dX1_slotNamed_32 : decode cX1_slotNamed 32 = .ok (.goto (-19), 3) := by decide +kernel
theorem dX1_slotNamed_27 : decode cX1_slotNamed 27 = .ok (.iload_n 2, 1) := by decide +kernel
theorem dX1_slotNamed_28 : decode cX1_slotNamed 28 = .ok (.ireturn, 1) := by decide +kernel
theorem dX1_add_0 : decode cX1_add 0 = .ok (.aload_n 0, 1) := by decide +kernel
theorem dX1_add_1 : decode cX1_add 1 = .ok (.getfield 27, 3) := by decide +kernel
theorem dX1_add_4 : decode cX1_add 4 = .ok (.getfield 68, 3) := by decide +kernel
theorem tw_477 : (.fieldLink RX1 68 "PocketCompiler$Program" "deedCount" "I" : Cond) ∈ tw_W := tw_in (t8_1 (List.mem_of_getElem? (i := 140) rfl)) rfl
theorem dX1_add_7 : decode cX1_add 7 = .ok (.istore 4, 2) := by decide +kernel
theorem dX1_add_9 : decode cX1_add 9 = .ok (.iload 4, 2) := by decide +kernel
theorem dX1_add_11 : decode cX1_add 11 = .ok (.ifCond .lt 55, 3) := by decide +kernel
theorem dX1_add_14 : decode cX1_add 14 = .ok (.iload 4, 2) := by decide +kernel
theorem dX1_add_16 : decode cX1_add 16 = .ok (.sipush 3008, 3) := by decide +kernel
theorem dX1_add_19 : decode cX1_add 19 = .ok (.if_icmp .ge 47, 3) := by decide +kernel
theorem dX1_add_22 : decode cX1_add 22 = .ok (.aload_n 0, 1) := by decide +kernel
theorem dX1_add_23 : decode cX1_add 23 = .ok (.getfield 27, 3) := by decide +kernel
theorem dX1_add_26 : decode cX1_add 26 = .ok (.getfield 71, 3) := by decide +kernel
theorem tw_478 : (.fieldLink RX1 71 "PocketCompiler$Program" "deeds" "[I" : Cond) ∈ tw_W := tw_in (t8_1 (List.mem_of_getElem? (i := 127) rfl)) rfl
theorem dX1_add_29 : decode cX1_add 29 = .ok (.iload 4, 2) := by decide +kernel
theorem dX1_add_31 : decode cX1_add 31 = .ok (.iload_n 1, 1) := by decide +kernel
theorem dX1_add_32 : decode cX1_add 32 = .ok (.iastore, 1) := by decide +kernel
theorem dX1_add_33 : decode cX1_add 33 = .ok (.aload_n 0, 1) := by decide +kernel
theorem dX1_add_34 : decode cX1_add 34 = .ok (.getfield 27, 3) := by decide +kernel
theorem dX1_add_37 : decode cX1_add 37 = .ok (.getfield 74, 3) := by decide +kernel
theorem tw_479 : (.fieldLink RX1 74 "PocketCompiler$Program" "xs" "[I" : Cond) ∈ tw_W := tw_in (t8_1 (List.mem_of_getElem? (i := 131) rfl)) rfl
theorem dX1_add_40 : decode cX1_add 40 = .ok (.iload 4, 2) := by decide +kernel
theorem dX1_add_42 : decode cX1_add 42 = .ok (.iload_n 2, 1) := by decide +kernel
theorem dX1_add_43 : decode cX1_add 43 = .ok (.iastore, 1) := by decide +kernel
theorem dX1_add_44 : decode cX1_add 44 = .ok (.aload_n 0, 1) := by decide +kernel
theorem dX1_add_45 : decode cX1_add 45 = .ok (.getfield 27, 3) := by decide +kernel
theorem dX1_add_48 : decode cX1_add 48 = .ok (.getfield 77, 3) := by decide +kernel
theorem tw_480 : (.fieldLink RX1 77 "PocketCompiler$Program" "ys" "[I" : Cond) ∈ tw_W := tw_in (t8_1 (List.mem_of_getElem? (i := 135) rfl)) rfl
theorem dX1_add_51 : decode cX1_add 51 = .ok (.iload 4, 2) := by decide +kernel
theorem dX1_add_53 : decode cX1_add 53 = .ok (.iload_n 3, 1) := by decide +kernel
theorem dX1_add_54 : decode cX1_add 54 = .ok (.iastore, 1) := by decide +kernel
theorem dX1_add_55 : decode cX1_add 55 = .ok (.aload_n 0, 1) := by decide +kernel
theorem dX1_add_56 : decode cX1_add 56 = .ok (.getfield 27, 3) := by decide +kernel
theorem dX1_add_59 : decode cX1_add 59 = .ok (.iload 4, 2) := by decide +kernel
theorem dX1_add_61 : decode cX1_add 61 = .ok (.iconst 1, 1) := by decide +kernel
theorem dX1_add_62 : decode cX1_add 62 = .ok (.iadd, 1) := by decide +kernel
theorem dX1_add_63 : decode cX1_add 63 = .ok (.putfield 68, 3) := by decide +kernel
theorem dX1_add_66 : decode cX1_add 66 = .ok (.return_, 1) := by decide +kernel
theorem dX1_isToldInBlock_0 : decode cX1_isToldInBlock 0 = .ok (.aload_n 0, 1) := by decide +kernel
theorem dX1_isToldInBlock_1 : decode cX1_isToldInBlock 1 = .ok (.iload_n 1, 1) := by decide +kernel
theorem dX1_isToldInBlock_2 : decode cX1_isToldInBlock 2 = .ok (.invokevirtual 55, 3) := by decide +kernel
theorem tw_481 : (.code yX1_slotNamed cX1_slotNamed 3 (some .int) : Cond) ∈ tw_W := tw_in (t8_4 (List.mem_of_getElem? (i := 28) rfl)) rfl
theorem tw_482 : ∀ w ∈ ([.methodLink RX1 55 yX1_slotNamed, .instanceMethod yX1_slotNamed, .selects RX1 yX1_slotNamed yX1_slotNamed, .initialized RX1] : List Cond), w ∈ tw_W := al_c (tw_in (t8_4 (List.mem_of_getElem? (i := 25) rfl)) rfl) (al_c (tw_in (t8_4 (List.mem_of_getElem? (i := 26) rfl)) rfl) (al_c (tw_in (t8_4 (List.mem_of_getElem? (i := 27) rfl)) rfl) (al_c (tw_in (t8_1 (List.mem_of_getElem? (i := 11) rfl)) rfl) al_n)))
theorem dX1_isToldInBlock_5 : decode cX1_isToldInBlock 5 = .ok (.aload_n 0, 1) := by decide +kernel
theorem dX1_isToldInBlock_6 : decode cX1_isToldInBlock 6 = .ok (.getfield 46, 3) := by decide +kernel
theorem dX1_isToldInBlock_9 : decode cX1_isToldInBlock 9 = .ok (.if_icmp .lt 7, 3) := by decide +kernel
theorem dX1_isToldInBlock_16 : decode cX1_isToldInBlock 16 = .ok (.iconst 0, 1) := by decide +kernel
theorem dX1_isToldInBlock_17 : decode cX1_isToldInBlock 17 = .ok (.ireturn, 1) := by decide +kernel
theorem dX1_isToldInBlock_12 : decode cX1_isToldInBlock 12 = .ok (.iconst 1, 1) := by decide +kernel
theorem dX1_isToldInBlock_13 : decode cX1_isToldInBlock 13 = .ok (.goto 4, 3) := by decide +kernel
theorem dX1_learn_0 : decode cX1_learn 0 = .ok (.aload_n 0, 1) := by decide +kernel
theorem dX1_learn_1 : decode cX1_learn 1 = .ok (.getfield 43, 3) := by decide +kernel
theorem dX1_learn_4 : decode cX1_learn 4 = .ok (.sipush 500, 3) := by decide +kernel
theorem dX1_learn_7 : decode cX1_learn 7 = .ok (.if_icmp .ge 23, 3) := by decide +kernel
theorem dX1_learn_30 : decode cX1_learn 30 = .ok (.return_, 1) := by decide +kernel
theorem dX1_learn_10 : decode cX1_learn 10 = .ok (.aload_n 0, 1) := by decide +kernel
theorem dX1_learn_11 : decode cX1_learn 11 = .ok (.getfield 9, 3) := by decide +kernel
theorem dX1_learn_14 : decode cX1_learn 14 = .ok (.aload_n 0, 1) := by decide +kernel
theorem dX1_learn_15 : decode cX1_learn 15 = .ok (.getfield 43, 3) := by decide +kernel
theorem dX1_learn_18 : decode cX1_learn 18 = .ok (.iload_n 1, 1) := by decide +kernel
theorem dX1_learn_19 : decode cX1_learn 19 = .ok (.iastore, 1) := by decide +kernel
theorem dX1_learn_20 : decode cX1_learn 20 = .ok (.aload_n 0, 1) := by decide +kernel
theorem dX1_learn_21 : decode cX1_learn 21 = .ok (.dup, 1) := by decide +kernel
theorem dX1_learn_22 : decode cX1_learn 22 = .ok (.getfield 43, 3) := by decide +kernel
theorem dX1_learn_25 : decode cX1_learn 25 = .ok (.iconst 1, 1) := by decide +kernel
theorem dX1_learn_26 : decode cX1_learn 26 = .ok (.iadd, 1) := by decide +kernel
theorem dX1_learn_27 : decode cX1_learn 27 = .ok (.putfield 43, 3) := by decide +kernel
theorem dX1_wantSlots_0 : decode cX1_wantSlots 0 = .ok (.aload_n 0, 1) := by decide +kernel
theorem dX1_wantSlots_1 : decode cX1_wantSlots 1 = .ok (.getfield 43, 3) := by decide +kernel
theorem dX1_wantSlots_4 : decode cX1_wantSlots 4 = .ok (.aload_n 0, 1) := by decide +kernel
theorem dX1_wantSlots_5 : decode cX1_wantSlots 5 = .ok (.getfield 49, 3) := by decide +kernel
theorem dX1_wantSlots_8 : decode cX1_wantSlots 8 = .ok (.iadd, 1) := by decide +kernel
theorem dX1_wantSlots_9 : decode cX1_wantSlots 9 = .ok (.iload_n 1, 1) := by decide +kernel
theorem dX1_wantSlots_10 : decode cX1_wantSlots 10 = .ok (.iadd, 1) := by decide +kernel
theorem dX1_wantSlots_11 : decode cX1_wantSlots 11 = .ok (.istore_n 2, 1) := by decide +kernel
theorem dX1_wantSlots_12 : decode cX1_wantSlots 12 = .ok (.aload_n 0, 1) := by decide +kernel
theorem dX1_wantSlots_13 : decode cX1_wantSlots 13 = .ok (.aload_n 0, 1) := by decide +kernel
theorem dX1_wantSlots_14 : decode cX1_wantSlots 14 = .ok (.getfield 52, 3) := by decide +kernel
theorem dX1_wantSlots_17 : decode cX1_wantSlots 17 = .ok (.iload_n 2, 1) := by decide +kernel
theorem dX1_wantSlots_18 : decode cX1_wantSlots 18 = .ok (.invokestatic 65, 3) := by decide +kernel
theorem tw_483 : (.methodLink RX1 65 Lib.Math.max.name : Cond) ∈ tw_W := tw_in (t8_4 (List.mem_of_getElem? (i := 40) rfl)) rfl
theorem tw_484 : (.static Lib.Math.max.name : Cond) ∈ tw_W := tw_in (t8_4 (List.mem_of_getElem? (i := 41) rfl)) rfl
theorem tw_485 : (.code Lib.Math.max.name Lib.Math.max.code 2 (some .int) : Cond) ∈ tw_W := tw_in (by decide +kernel) (by decide +kernel)
theorem dX1_wantSlots_21 : decode cX1_wantSlots 21 = .ok (.putfield 52, 3) := by decide +kernel
theorem dX1_wantSlots_24 : decode cX1_wantSlots 24 = .ok (.iload_n 2, 1) := by decide +kernel
theorem dX1_wantSlots_25 : decode cX1_wantSlots 25 = .ok (.sipush 500, 3) := by decide +kernel
theorem dX1_wantSlots_28 : decode cX1_wantSlots 28 = .ok (.if_icmp .gt 7, 3) := by decide +kernel
theorem dX1_wantSlots_35 : decode cX1_wantSlots 35 = .ok (.iconst 0, 1) := by decide +kernel
theorem dX1_wantSlots_36 : decode cX1_wantSlots 36 = .ok (.ireturn, 1) := by decide +kernel
theorem dX1_wantSlots_31 : decode cX1_wantSlots 31 = .ok (.iconst 1, 1) := by decide +kernel
theorem dX1_wantSlots_32 : decode cX1_wantSlots 32 = .ok (.goto 4, 3) := by decide +kernel
theorem dX1_newLabel_0 : decode cX1_newLabel 0 = .ok (.aload_n 0, 1) := by decide +kernel
theorem dX1_newLabel_1 : decode cX1_newLabel 1 = .ok (.dup, 1) := by decide +kernel
theorem dX1_newLabel_2 : decode cX1_newLabel 2 = .ok (.getfield 36, 3) := by decide +kernel
theorem dX1_newLabel_5 : decode cX1_newLabel 5 = .ok (.iconst 1, 1) := by decide +kernel
theorem dX1_newLabel_6 : decode cX1_newLabel 6 = .ok (.iadd, 1) := by decide +kernel
theorem dX1_newLabel_7 : decode cX1_newLabel 7 = .ok (.putfield 36, 3) := by decide +kernel
theorem dX1_newLabel_10 : decode cX1_newLabel 10 = .ok (.aload_n 0, 1) := by decide +kernel
theorem dX1_newLabel_11 : decode cX1_newLabel 11 = .ok (.getfield 36, 3) := by decide +kernel
theorem dX1_newLabel_14 : decode cX1_newLabel 14 = .ok (.iconst 1, 1) := by decide +kernel
theorem dX1_newLabel_15 : decode cX1_newLabel 15 = .ok (.isub, 1) := by decide +kernel
theorem dX1_newLabel_16 : decode cX1_newLabel 16 = .ok (.ireturn, 1) := by decide +kernel
theorem dX1_setLabel_0 : decode cX1_setLabel 0 = .ok (.iload_n 1, 1) := by decide +kernel
theorem dX1_setLabel_1 : decode cX1_setLabel 1 = .ok (.ifCond .lt 25, 3) := by decide +kernel
theorem dX1_setLabel_26 : decode cX1_setLabel 26 = .ok (.return_, 1) := by decide +kernel
theorem dX1_setLabel_4 : decode cX1_setLabel 4 = .ok (.iload_n 1, 1) := by decide +kernel
theorem dX1_setLabel_5 : decode cX1_setLabel 5 = .ok (.aload_n 0, 1) := by decide +kernel
theorem dX1_setLabel_6 : decode cX1_setLabel 6 = .ok (.getfield 15, 3) := by decide +kernel
theorem tw_486 : (.fieldLink RX1 15 "PocketCompiler$Builder" "labels" "[I" : Cond) ∈ tw_W := tw_in (t8_2 (List.mem_of_getElem? (i := 0) rfl)) rfl
theorem dX1_setLabel_9 : decode cX1_setLabel 9 = .ok (.arraylength, 1) := by decide +kernel
theorem dX1_setLabel_10 : decode cX1_setLabel 10 = .ok (.if_icmp .ge 16, 3) := by decide +kernel
theorem dX1_setLabel_13 : decode cX1_setLabel 13 = .ok (.aload_n 0, 1) := by decide +kernel
theorem dX1_setLabel_14 : decode cX1_setLabel 14 = .ok (.getfield 15, 3) := by decide +kernel
theorem dX1_setLabel_17 : decode cX1_setLabel 17 = .ok (.iload_n 1, 1) := by decide +kernel
theorem dX1_setLabel_18 : decode cX1_setLabel 18 = .ok (.aload_n 0, 1) := by decide +kernel
theorem dX1_setLabel_19 : decode cX1_setLabel 19 = .ok (.getfield 27, 3) := by decide +kernel
theorem dX1_setLabel_22 : decode cX1_setLabel 22 = .ok (.getfield 68, 3) := by decide +kernel
theorem dX1_setLabel_25 : decode cX1_setLabel 25 = .ok (.iastore, 1) := by decide +kernel
theorem dX1_addCall_0 : decode cX1_addCall 0 = .ok (.aload_n 0, 1) := by decide +kernel
theorem dX1_addCall_1 : decode cX1_addCall 1 = .ok (.getfield 40, 3) := by decide +kernel
theorem dX1_addCall_4 : decode cX1_addCall 4 = .ok (.sipush 501, 3) := by decide +kernel
theorem dX1_addCall_7 : decode cX1_addCall 7 = .ok (.if_icmp .ge 43, 3) := by decide +kernel
theorem dX1_addCall_50 : decode cX1_addCall 50 = .ok (.aload_n 0, 1) := by decide +kernel
theorem dX1_addCall_51 : decode cX1_addCall 51 = .ok (.getfield 40, 3) := by decide +kernel
theorem dX1_addCall_54 : decode cX1_addCall 54 = .ok (.iconst 1, 1) := by decide +kernel
theorem dX1_addCall_55 : decode cX1_addCall 55 = .ok (.isub, 1) := by decide +kernel
theorem dX1_addCall_56 : decode cX1_addCall 56 = .ok (.ireturn, 1) := by decide +kernel
theorem dX1_addCall_10 : decode cX1_addCall 10 = .ok (.aload_n 0, 1) := by decide +kernel
theorem dX1_addCall_11 : decode cX1_addCall 11 = .ok (.getfield 18, 3) := by decide +kernel
theorem tw_487 : (.fieldLink RX1 18 "PocketCompiler$Builder" "callNames" "[I" : Cond) ∈ tw_W := tw_in (t8_2 (List.mem_of_getElem? (i := 2) rfl)) rfl
theorem dX1_addCall_14 : decode cX1_addCall 14 = .ok (.aload_n 0, 1) := by decide +kernel
theorem dX1_addCall_15 : decode cX1_addCall 15 = .ok (.getfield 40, 3) := by decide +kernel
theorem dX1_addCall_18 : decode cX1_addCall 18 = .ok (.iload_n 1, 1) := by decide +kernel
theorem dX1_addCall_19 : decode cX1_addCall 19 = .ok (.iastore, 1) := by decide +kernel
theorem dX1_addCall_20 : decode cX1_addCall 20 = .ok (.aload_n 0, 1) := by decide +kernel
theorem dX1_addCall_21 : decode cX1_addCall 21 = .ok (.getfield 21, 3) := by decide +kernel
theorem tw_488 : (.fieldLink RX1 21 "PocketCompiler$Builder" "callPlaces" "[I" : Cond) ∈ tw_W := tw_in (t8_2 (List.mem_of_getElem? (i := 3) rfl)) rfl
theorem dX1_addCall_24 : decode cX1_addCall 24 = .ok (.aload_n 0, 1) := by decide +kernel
theorem dX1_addCall_25 : decode cX1_addCall 25 = .ok (.getfield 40, 3) := by decide +kernel
theorem dX1_addCall_28 : decode cX1_addCall 28 = .ok (.iload_n 2, 1) := by decide +kernel
theorem dX1_addCall_29 : decode cX1_addCall 29 = .ok (.iastore, 1) := by decide +kernel
theorem dX1_addCall_30 : decode cX1_addCall 30 = .ok (.aload_n 0, 1) := by decide +kernel
theorem dX1_addCall_31 : decode cX1_addCall 31 = .ok (.getfield 24, 3) := by decide +kernel
theorem tw_489 : (.fieldLink RX1 24 "PocketCompiler$Builder" "callArguments" "[I" : Cond) ∈ tw_W := tw_in (t8_2 (List.mem_of_getElem? (i := 4) rfl)) rfl
theorem dX1_addCall_34 : decode cX1_addCall 34 = .ok (.aload_n 0, 1) := by decide +kernel
theorem dX1_addCall_35 : decode cX1_addCall 35 = .ok (.getfield 40, 3) := by decide +kernel
theorem dX1_addCall_38 : decode cX1_addCall 38 = .ok (.iconst 0, 1) := by decide +kernel
theorem dX1_addCall_39 : decode cX1_addCall 39 = .ok (.iastore, 1) := by decide +kernel
theorem dX1_addCall_40 : decode cX1_addCall 40 = .ok (.aload_n 0, 1) := by decide +kernel
theorem dX1_addCall_41 : decode cX1_addCall 41 = .ok (.dup, 1) := by decide +kernel
theorem dX1_addCall_42 : decode cX1_addCall 42 = .ok (.getfield 40, 3) := by decide +kernel
theorem dX1_addCall_45 : decode cX1_addCall 45 = .ok (.iconst 1, 1) := by decide +kernel
theorem dX1_addCall_46 : decode cX1_addCall 46 = .ok (.iadd, 1) := by decide +kernel
theorem dX1_addCall_47 : decode cX1_addCall 47 = .ok (.putfield 40, 3) := by decide +kernel
theorem dX1_addArgument_0 : decode cX1_addArgument 0 = .ok (.iload_n 1, 1) := by decide +kernel
theorem dX1_addArgument_1 : decode cX1_addArgument 1 = .ok (.ifCond .lt 20, 3) := by decide +kernel
theorem dX1_addArgument_21 : decode cX1_addArgument 21 = .ok (.return_, 1) := by decide +kernel
theorem dX1_addArgument_4 : decode cX1_addArgument 4 = .ok (.iload_n 1, 1) := by decide +kernel
theorem dX1_addArgument_5 : decode cX1_addArgument 5 = .ok (.sipush 501, 3) := by decide +kernel
theorem dX1_addArgument_8 : decode cX1_addArgument 8 = .ok (.if_icmp .ge 13, 3) := by decide +kernel
theorem dX1_addArgument_11 : decode cX1_addArgument 11 = .ok (.aload_n 0, 1) := by decide +kernel
theorem dX1_addArgument_12 : decode cX1_addArgument 12 = .ok (.getfield 24, 3) := by decide +kernel
theorem dX1_addArgument_15 : decode cX1_addArgument 15 = .ok (.iload_n 1, 1) := by decide +kernel
theorem dX1_addArgument_16 : decode cX1_addArgument 16 = .ok (.dup2, 1) := by decide +kernel
theorem dX1_addArgument_17 : decode cX1_addArgument 17 = .ok (.iaload, 1) := by decide +kernel
theorem dX1_addArgument_18 : decode cX1_addArgument 18 = .ok (.iconst 1, 1) := by decide +kernel
theorem dX1_addArgument_19 : decode cX1_addArgument 19 = .ok (.iadd, 1) := by decide +kernel
theorem dX1_addArgument_20 : decode cX1_addArgument 20 = .ok (.iastore, 1) := by decide +kernel
theorem dX1_functionOfCall_0 : decode cX1_functionOfCall 0 = .ok (.iload_n 1, 1) := by decide +kernel
theorem dX1_functionOfCall_1 : decode cX1_functionOfCall 1 = .ok (.ifCond .lt 27, 3) := by decide +kernel
theorem dX1_functionOfCall_28 : decode cX1_functionOfCall 28 = .ok (.iconst (-1), 1) := by decide +kernel
theorem dX1_functionOfCall_29 : decode cX1_functionOfCall 29 = .ok (.ireturn, 1) := by decide +kernel
theorem dX1_functionOfCall_4 : decode cX1_functionOfCall 4 = .ok (.iload_n 1, 1) := by decide +kernel
theorem dX1_functionOfCall_5 : decode cX1_functionOfCall 5 = .ok (.aload_n 0, 1) := by decide +kernel
theorem dX1_functionOfCall_6 : decode cX1_functionOfCall 6 = .ok (.getfield 40, 3) := by decide +kernel
theorem dX1_functionOfCall_9 : decode cX1_functionOfCall 9 = .ok (.if_icmp .ge 19, 3) := by decide +kernel
theorem dX1_functionOfCall_12 : decode cX1_functionOfCall 12 = .ok (.aload_n 0, 1) := by decide +kernel
theorem dX1_functionOfCall_13 : decode cX1_functionOfCall 13 = .ok (.getfield 27, 3) := by decide +kernel
theorem dX1_functionOfCall_16 : decode cX1_functionOfCall 16 = .ok (.aload_n 0, 1) := by decide +kernel
theorem dX1_functionOfCall_17 : decode cX1_functionOfCall 17 = .ok (.getfield 18, 3) := by decide +kernel
theorem dX1_functionOfCall_20 : decode cX1_functionOfCall 20 = .ok (.iload_n 1, 1) := by decide +kernel
theorem dX1_functionOfCall_21 : decode cX1_functionOfCall 21 = .ok (.iaload, 1) := by decide +kernel
theorem dX1_functionOfCall_22 : decode cX1_functionOfCall 22 = .ok (.invokevirtual 80, 3) := by decide +kernel
theorem tw_490 : (.code yX7_functionNamed cX7_functionNamed 3 (some .int) : Cond) ∈ tw_W := tw_in (t8_3 (List.mem_of_getElem? (i := 210) rfl)) rfl
theorem tw_491 : ∀ w ∈ ([.methodLink RX1 80 yX7_functionNamed, .instanceMethod yX7_functionNamed, .selects RX7 yX7_functionNamed yX7_functionNamed, .initialized RX7] : List Cond), w ∈ tw_W := al_c (tw_in (t8_5 (List.mem_of_getElem? (i := 6) rfl)) rfl) (al_c (tw_in (t8_3 (List.mem_of_getElem? (i := 208) rfl)) rfl) (al_c (tw_in (t8_3 (List.mem_of_getElem? (i := 209) rfl)) rfl) (al_c (tw_in (t8_1 (List.mem_of_getElem? (i := 8) rfl)) rfl) al_n)))
theorem dX1_functionOfCall_25 : decode cX1_functionOfCall 25 = .ok (.goto 4, 3) := by decide +kernel
theorem dX1_hasItsArguments_0 : decode cX1_hasItsArguments 0 = .ok (.aload_n 0, 1) := by decide +kernel
theorem dX1_hasItsArguments_1 : decode cX1_hasItsArguments 1 = .ok (.getfield 27, 3) := by decide +kernel
theorem dX1_hasItsArguments_4 : decode cX1_hasItsArguments 4 = .ok (.aload_n 0, 1) := by decide +kernel
theorem dX1_hasItsArguments_5 : decode cX1_hasItsArguments 5 = .ok (.iload_n 1, 1) := by decide +kernel
theorem dX1_hasItsArguments_6 : decode cX1_hasItsArguments 6 = .ok (.invokevirtual 83, 3) := by decide +kernel
theorem tw_492 : (.code yX1_functionOfCall cX1_functionOfCall 2 (some .int) : Cond) ∈ tw_W := tw_in (t8_5 (List.mem_of_getElem? (i := 5) rfl)) rfl
theorem tw_493 : ∀ w ∈ ([.methodLink RX1 83 yX1_functionOfCall, .instanceMethod yX1_functionOfCall, .selects RX1 yX1_functionOfCall yX1_functionOfCall, .initialized RX1] : List Cond), w ∈ tw_W := al_c (tw_in (t8_5 (List.mem_of_getElem? (i := 15) rfl)) rfl) (al_c (tw_in (t8_5 (List.mem_of_getElem? (i := 3) rfl)) rfl) (al_c (tw_in (t8_5 (List.mem_of_getElem? (i := 4) rfl)) rfl) (al_c (tw_in (t8_1 (List.mem_of_getElem? (i := 11) rfl)) rfl) al_n)))
theorem dX1_hasItsArguments_9 : decode cX1_hasItsArguments 9 = .ok (.iconst 0, 1) := by decide +kernel
theorem dX1_hasItsArguments_10 : decode cX1_hasItsArguments 10 = .ok (.invokevirtual 86, 3) := by decide +kernel
theorem tw_494 : ∀ w ∈ ([.methodLink RX1 86 yX7_functionFact, .instanceMethod yX7_functionFact, .selects RX7 yX7_functionFact yX7_functionFact, .initialized RX7] : List Cond), w ∈ tw_W := al_c (tw_in (t8_5 (List.mem_of_getElem? (i := 16) rfl)) rfl) (al_c (tw_in (t8_3 (List.mem_of_getElem? (i := 212) rfl)) rfl) (al_c (tw_in (t8_3 (List.mem_of_getElem? (i := 213) rfl)) rfl) (al_c (tw_in (t8_1 (List.mem_of_getElem? (i := 8) rfl)) rfl) al_n)))
theorem dX1_hasItsArguments_13 : decode cX1_hasItsArguments 13 = .ok (.istore_n 2, 1) := by decide +kernel
theorem dX1_hasItsArguments_14 : decode cX1_hasItsArguments 14 = .ok (.iload_n 1, 1) := by decide +kernel
theorem dX1_hasItsArguments_15 : decode cX1_hasItsArguments 15 = .ok (.ifCond .lt 25, 3) := by decide +kernel
theorem dX1_hasItsArguments_40 : decode cX1_hasItsArguments 40 = .ok (.iconst 0, 1) := by decide +kernel
theorem dX1_hasItsArguments_41 : decode cX1_hasItsArguments 41 = .ok (.ireturn, 1) := by decide +kernel
theorem dX1_hasItsArguments_18 : decode cX1_hasItsArguments 18 = .ok (.iload_n 1, 1) := by decide +kernel
theorem dX1_hasItsArguments_19 : decode cX1_hasItsArguments 19 = .ok (.aload_n 0, 1) := by decide +kernel
theorem dX1_hasItsArguments_20 : decode cX1_hasItsArguments 20 = .ok (.getfield 40, 3) := by decide +kernel
theorem dX1_hasItsArguments_23 : decode cX1_hasItsArguments 23 = .ok (.if_icmp .ge 17, 3) := by decide +kernel
theorem dX1_hasItsArguments_26 : decode cX1_hasItsArguments 26 = .ok (.aload_n 0, 1) := by decide +kernel
theorem dX1_hasItsArguments_27 : decode cX1_hasItsArguments 27 = .ok (.getfield 24, 3) := by decide +kernel
theorem dX1_hasItsArguments_30 : decode cX1_hasItsArguments 30 = .ok (.iload_n 1, 1) := by decide +kernel
theorem dX1_hasItsArguments_31 : decode cX1_hasItsArguments 31 = .ok (.iaload, 1) := by decide +kernel
theorem dX1_hasItsArguments_32 : decode cX1_hasItsArguments 32 = .ok (.iload_n 2, 1) := by decide +kernel
theorem dX1_hasItsArguments_33 : decode cX1_hasItsArguments 33 = .ok (.if_icmp .ne 7, 3) := by decide +kernel
theorem dX1_hasItsArguments_36 : decode cX1_hasItsArguments 36 = .ok (.iconst 1, 1) := by decide +kernel
theorem dX1_hasItsArguments_37 : decode cX1_hasItsArguments 37 = .ok (.goto 4, 3) := by decide +kernel
theorem dX1_placeOfCall_0 : decode cX1_placeOfCall 0 = .ok (.iload_n 1, 1) := by decide +kernel
theorem dX1_placeOfCall_1 : decode cX1_placeOfCall 1 = .ok (.ifCond .lt 20, 3) := by decide +kernel
theorem dX1_placeOfCall_21 : decode cX1_placeOfCall 21 = .ok (.iconst (-1), 1) := by decide +kernel
theorem dX1_placeOfCall_22 : decode cX1_placeOfCall 22 = .ok (.ireturn, 1) := by decide +kernel
theorem dX1_placeOfCall_4 : decode cX1_placeOfCall 4 = .ok (.iload_n 1, 1) := by decide +kernel
theorem dX1_placeOfCall_5 : decode cX1_placeOfCall 5 = .ok (.aload_n 0, 1) := by decide +kernel
theorem dX1_placeOfCall_6 : decode cX1_placeOfCall 6 = .ok (.getfield 40, 3) := by decide +kernel
theorem dX1_placeOfCall_9 : decode cX1_placeOfCall 9 = .ok (.if_icmp .ge 12, 3) := by decide +kernel
theorem dX1_placeOfCall_12 : decode cX1_placeOfCall 12 = .ok (.aload_n 0, 1) := by decide +kernel
theorem dX1_placeOfCall_13 : decode cX1_placeOfCall 13 = .ok (.getfield 21, 3) := by decide +kernel
theorem dX1_placeOfCall_16 : decode cX1_placeOfCall 16 = .ok (.iload_n 1, 1) := by decide +kernel
theorem dX1_placeOfCall_17 : decode cX1_placeOfCall 17 = .ok (.iaload, 1) := by decide +kernel
theorem dX1_placeOfCall_18 : decode cX1_placeOfCall 18 = .ok (.goto 4, 3) := by decide +kernel
theorem dX1_link_0 : decode cX1_link 0 = .ok (.iconst 0, 1) := by decide +kernel
theorem dX1_link_1 : decode cX1_link 1 = .ok (.istore_n 1, 1) := by decide +kernel
theorem dX1_link_2 : decode cX1_link 2 = .ok (.iload_n 1, 1) := by decide +kernel
theorem dX1_link_3 : decode cX1_link 3 = .ok (.aload_n 0, 1) := by decide +kernel
theorem dX1_link_4 : decode cX1_link 4 = .ok (.getfield 27, 3) := by decide +kernel
theorem dX1_link_7 : decode cX1_link 7 = .ok (.getfield 68, 3) := by decide +kernel
theorem dX1_link_10 : decode cX1_link 10 = .ok (.if_icmp .ge 96, 3) := by decide +kernel
theorem dX1_link_106 : decode cX1_link 106 = .ok (.return_, 1) := by decide +kernel
theorem dX1_link_13 : decode cX1_link 13 = .ok (.aload_n 0, 1) := by decide +kernel
theorem dX1_link_14 : decode cX1_link 14 = .ok (.getfield 27, 3) := by decide +kernel
theorem dX1_link_17 : decode cX1_link 17 = .ok (.getfield 71, 3) := by decide +kernel
theorem dX1_link_20 : decode cX1_link 20 = .ok (.iload_n 1, 1) := by decide +kernel
theorem dX1_link_21 : decode cX1_link 21 = .ok (.iaload, 1) := by decide +kernel
theorem dX1_link_22 : decode cX1_link 22 = .ok (.istore_n 2, 1) := by decide +kernel
theorem dX1_link_23 : decode cX1_link 23 = .ok (.aload_n 0, 1) := by decide +kernel
theorem dX1_link_24 : decode cX1_link 24 = .ok (.getfield 27, 3) := by decide +kernel
theorem dX1_link_27 : decode cX1_link 27 = .ok (.getfield 74, 3) := by decide +kernel
theorem dX1_link_30 : decode cX1_link 30 = .ok (.iload_n 1, 1) := by decide +kernel
theorem dX1_link_31 : decode cX1_link 31 = .ok (.iaload, 1) := by decide +kernel
theorem dX1_link_32 : decode cX1_link 32 = .ok (.istore_n 3, 1) := by decide +kernel
theorem dX1_link_33 : decode cX1_link 33 = .ok (.iload_n 2, 1) := by decide +kernel
theorem dX1_link_34 : decode cX1_link 34 = .ok (.bipush 16, 2) := by decide +kernel
theorem dX1_link_36 : decode cX1_link 36 = .ok (.if_icmp .lt 44, 3) := by decide +kernel
theorem dX1_link_80 : decode cX1_link 80 = .ok (.iload_n 2, 1) := by decide +kernel
theorem dX1_link_81 : decode cX1_link 81 = .ok (.bipush 21, 2) := by decide +kernel
theorem dX1_link_83 : decode cX1_link 83 = .ok (.if_icmp .ne 17, 3) := by decide +kernel
theorem dX1_link_100 : decode cX1_link 100 = .ok (.iinc 1 1, 3) := by decide +kernel
theorem dX1_link_103 : decode cX1_link 103 = .ok (.goto (-101), 3) := by decide +kernel
theorem dX1_link_39 : decode cX1_link 39 = .ok (.iload_n 2, 1) := by decide +kernel
theorem dX1_link_40 : decode cX1_link 40 = .ok (.bipush 19, 2) := by decide +kernel
theorem dX1_link_42 : decode cX1_link 42 = .ok (.if_icmp .gt 38, 3) := by decide +kernel
theorem dX1_link_86 : decode cX1_link 86 = .ok (.aload_n 0, 1) := by decide +kernel
theorem dX1_link_87 : decode cX1_link 87 = .ok (.getfield 27, 3) := by decide +kernel
theorem dX1_link_90 : decode cX1_link 90 = .ok (.getfield 74, 3) := by decide +kernel
theorem dX1_link_93 : decode cX1_link 93 = .ok (.iload_n 1, 1) := by decide +kernel
theorem dX1_link_94 : decode cX1_link 94 = .ok (.aload_n 0, 1) := by decide +kernel
theorem dX1_link_95 : decode cX1_link 95 = .ok (.iload_n 3, 1) := by decide +kernel
theorem dX1_link_96 : decode cX1_link 96 = .ok (.invokevirtual 83, 3) := by decide +kernel
theorem dX1_link_99 : decode cX1_link 99 = .ok (.iastore, 1) := by decide +kernel
theorem dX1_link_45 : decode cX1_link 45 = .ok (.aload_n 0, 1) := by decide +kernel
theorem dX1_link_46 : decode cX1_link 46 = .ok (.getfield 27, 3) := by decide +kernel
theorem dX1_link_49 : decode cX1_link 49 = .ok (.getfield 74, 3) := by decide +kernel
theorem dX1_link_52 : decode cX1_link 52 = .ok (.iload_n 1, 1) := by decide +kernel
theorem dX1_link_53 : decode cX1_link 53 = .ok (.iload_n 3, 1) := by decide +kernel
theorem dX1_link_54 : decode cX1_link 54 = .ok (.ifCond .lt 21, 3) := by decide +kernel
theorem dX1_link_75 : decode cX1_link 75 = .ok (.iconst 0, 1) := by decide +kernel
theorem dX1_link_76 : decode cX1_link 76 = .ok (.iastore, 1) := by decide +kernel
theorem dX1_link_77 : decode cX1_link 77 = .ok (.goto 23, 3) := by decide +kernel
theorem dX1_link_57 : decode cX1_link 57 = .ok (.iload_n 3, 1) := by decide +kernel
theorem dX1_link_58 : decode cX1_link 58 = .ok (.aload_n 0, 1) := by decide +kernel
theorem dX1_link_59 : decode cX1_link 59 = .ok (.getfield 15, 3) := by decide +kernel
theorem dX1_link_62 : decode cX1_link 62 = .ok (.arraylength, 1) := by decide +kernel
theorem dX1_link_63 : decode cX1_link 63 = .ok (.if_icmp .ge 12, 3) := by decide +kernel
theorem dX1_link_66 : decode cX1_link 66 = .ok (.aload_n 0, 1) := by decide +kernel
theorem dX1_link_67 : decode cX1_link 67 = .ok (.getfield 15, 3) := by decide +kernel
theorem dX1_link_70 : decode cX1_link 70 = .ok (.iload_n 3, 1) := by decide +kernel
theorem dX1_link_71 : decode cX1_link 71 = .ok (.iaload, 1) := by decide +kernel
theorem dX1_link_72 : decode cX1_link 72 = .ok (.goto 4, 3) := by decide +kernel
theorem om_6f14a58586 : 0 ≤ (0 : Int) ∧ (0 : Int) ≤ 501 := by omega
theorem om_2745cf8b1e {x0 : Int} (h0 : 0 ≤ x0 ∧ x0 ≤ 3008) (h1 : x0 = 0) : 0 ≤ x0 ∧ x0 ≤ 3008 := by omega
theorem om_ed0e4a93a4 {x0 : Int} (h0 : 0 ≤ x0 ∧ x0 ≤ 3008) (h1 : x0 = 0) : x0 = 0 := by omega
set_option maxHeartbeats 4000000 in
set_option maxRecDepth 100000 in
theorem c_x_X1_begin (l : Launch) (dC : Nat → ClassId) (dI : Nat → Nat → Nat) (cI cB cZ cJ cR : ClassId) (tb : Nat → Nat) (sz : Nat) (ad : Nat → Nat) (pr : Int32 → Nat) (N : Nat) (L1 L2 : List Nat) (v : MS) (ps : Int32) (hps : pr ps = ad 908) : Met l yX1_begin (Cond.code yX1_begin cX1_begin 2 none :: tw_W) ({ frames := 1, cells := 0, slots := 0, locals := 20 }) (pc_ (dC, dI) (tyS cI cB cZ cJ cR) tb (cW ad pr N cI cR L1 L2 v) sz [.ref (ad 901), .ref (pr ps)]) (qv_ (dC, dI) (cW ad pr N cI cR L1 L2 v) sz (fun (u : MS) => FC [310, 317, 321, 375, 377, 381, 383, 384] [0] v u ∧ (Q_x_X1_begin L1 L2 v ps u) ∧ (0 ≤ (u.1 0 321).toInt ∧ (u.1 0 321).toInt ≤ 501) ∧ (0 ≤ (u.1 0 381).toInt ∧ (u.1 0 381).toInt ≤ 3008) ∧ ((u.1 0 381).toInt = 0) ∧ ((u.1 0 317).toInt = 0) ∧ (u.1 0 310 = ps) ∧ (RS0 v u)) (fun (u : MS) => (cW ad pr N cI cR L1 L2 u))) 0 0 (va_A (cW ad pr N cI cR L1 L2 v) sz) := by
  refine Met.ofW (cc := cX1_begin) (maxL := 2) (ret := none) (by decide) rfl ?_
  intro p e s m args below meth c s₁ B hml hv
  obtain ⟨rfl, hsz, hP, hKK, hD0, hFx⟩ := hv
  have hK := hKK.1
  have hx := B.exec
  have hb := B.bytes
  have hr := B.returns
  have ht : ∀ w ∈ tw_W, w.before _ s = true := fun w h => atoms_spec (ws := Cond.code yX1_begin cX1_begin 2 none :: tw_W) B.pre w (List.mem_cons_of_mem _ h)
  have hown : s.vm.findClass RX1 = some m.cls := findClass_of_methodNamed B.named
  have hlocks := B.notSynchronized
  subst hsz
  unfold qv_
  have hD := hD0.self (sz := s.heap.size)
  generalize hAe : va_A (cW ad pr N cI cR L1 L2 v) s.heap.size = A at hD hFx ⊢
  have hA : ∀ q : Nat, s.heap.size ≤ q → A q := fun q h => by rw [← hAe]; exact Or.inr h
  have hS : va_S A s.heap s.heap [] := va_S.rf
  have hl := lv_entry ([.ref (ad 901), .ref (pr ps)]) (n := 2) (Nat.le_of_ble_eq_true rfl)
  rw [lg_entry_eq]
  generalize (lg_sl ([.ref (ad 901), .ref (pr ps)]) ++ List.replicate (2 - (lg_sl ([.ref (ad 901), .ref (pr ps)])).length) Slot.unset).toArray = ls at hl ⊢
  have hl : lv_has ls 2 [(0, .ref (ad 901)), (1, .ref (pr ps))] := hl
  refine lv_aload_n hx hb dX1_begin_0 rfl (lv_at hl 0 rfl) ?_
  refine lv_aload_n hx hb dX1_begin_1 rfl (lv_at hl 1 rfl) ?_
  refine va_put (D := (dC, dI)) (ci := 5) (fs := oF_X1 ad pr v) (v := .ref (pr ps)) (ty := .object "PocketCompiler$Program") (C := RX1) (T := TX1) (N := 12) hx hb ht itX1 tyX1 tyX1_ok nmX1 hown hK hP hD hS 1 rfl rfl 0 (by decide) (ht _ tw_463) (fun _ h9 => h9) rfl (by decide +kernel) rfl rfl (Nat.le_of_ble_eq_true rfl) dX1_begin_2 (fun H locs hP hD hS => ?_)
  have hP := cP_ (cw_310 ad pr N cI cR L1 L2 v ps) hP
  have hD := cD_ (cw_310 ad pr N cI cR L1 L2 v ps) hD
  refine lv_aload_n hx hb dX1_begin_5 rfl (lv_at hl 0 rfl) ?_
  refine va_get (D := (dC, dI)) (ci := 5) (fs := oF_X1 ad pr (wA v 0 310 ps)) (v := .ref (pr ps)) (C := RX1) (T := TX1) (N := 12) hx hb ht itX1 hown hK hP 1 rfl rfl 0 (by decide) (ht _ tw_463) (fun _ h9 => h9) rfl dX1_begin_6 ?_
  refine W.eq (g2 := F0 m 9 ls [.ref (ad 908)]) (by rw [show pr ps = (ad 908) from hps]) ?_
  refine cu_v (rn_Vk (n := 0) (As := []) (rest := []) hx hb hml hown ht hKK hFx hP hD hS hA (c_x_X7_clear l dC dI cI cB cZ cJ cR tb H.size ad pr N L1 L2 (wA v 0 310 ps)  ) tw_464 tw_465 (by decide +kernel) rfl rfl ⟨Nat.le_of_ble_eq_true rfl, Nat.le_of_ble_eq_true rfl⟩ (List.range (cW ad pr N cI cR L1 L2 (wA v 0 310 ps)).length) (rg_map _) (nd_range _) 8 rfl rfl rfl rfl hl.1 rfl (Nat.le_of_ble_eq_true rfl) dX1_begin_9 ⟨Nat.le_of_ble_eq_true rfl, Nat.le_of_ble_eq_true rfl⟩) hP hD hS hA (fun u2 H locs hw1 hP hD hS => ?_)
  obtain ⟨fr1, ex1, i3811, p3811, rs1⟩ := hw1
  have i3811 : 0 ≤ (u2.1 0 381).toInt ∧ (u2.1 0 381).toInt ≤ 3008 := i3811
  have p3811 : (u2.1 0 381).toInt = 0 := p3811
  have rs1 : RS0 (wA v 0 310 ps) u2 := rs1
  refine W.widen (k := 0) (n := 0) (Nat.le_refl _) (Nat.le_refl _) ?_
  refine lv_aload_n hx hb dX1_begin_12 rfl (lv_at hl 0 rfl) ?_
  refine lv_iconst (v := 0) hx hb dX1_begin_13 (by decide) ?_
  refine va_put (D := (dC, dI)) (ci := 5) (fs := oF_X1 ad pr u2) (v := .int 0) (ty := .int) (C := RX1) (T := TX1) (N := 12) hx hb ht itX1 tyX1 tyX1_ok nmX1 hown hK hP hD hS 1 rfl rfl 7 (by decide) (ht _ tw_466) (fun _ h9 => h9) rfl (by decide +kernel) rfl rfl (Nat.le_of_ble_eq_true rfl) dX1_begin_14 (fun H locs hP hD hS => ?_)
  have hP := cP_ (cw_317 ad pr N cI cR L1 L2 u2 0) hP
  have hD := cD_ (cw_317 ad pr N cI cR L1 L2 u2 0) hD
  refine lv_aload_n hx hb dX1_begin_17 rfl (lv_at hl 0 rfl) ?_
  refine lv_iconst (v := 0) hx hb dX1_begin_18 (by decide) ?_
  refine va_put (D := (dC, dI)) (ci := 5) (fs := oF_X1 ad pr (wA u2 0 317 0)) (v := .int 0) (ty := .int) (C := RX1) (T := TX1) (N := 12) hx hb ht itX1 tyX1 tyX1_ok nmX1 hown hK hP hD hS 1 rfl rfl 11 (by decide) (ht _ tw_467) (fun _ h9 => h9) rfl (by decide +kernel) rfl rfl (Nat.le_of_ble_eq_true rfl) dX1_begin_19 (fun H locs hP hD hS => ?_)
  have hP := cP_ (cw_321 ad pr N cI cR L1 L2 (wA u2 0 317 0) 0) hP
  have hD := cD_ (cw_321 ad pr N cI cR L1 L2 (wA u2 0 317 0) 0) hD
  exact W.vret hx hb hr (fun t ht9 hW => ⟨⟨(wA (wA u2 0 317 0) 0 321 0), rfl, ⟨(FC.f (FC.f (FC.tr (FC.f (FC.rf _) ps (by decide)) (FC.up fr1 (by decide) (by decide))) 0 (by decide)) 0 (by decide)), ⟨u2, ex1, ⟨fr1, i3811, p3811, rs1⟩, rfl⟩, (show 0 ≤ (0 : Int) ∧ (0 : Int) ≤ 501 from om_6f14a58586), (show 0 ≤ (u2.1 0 381).toInt ∧ (u2.1 0 381).toInt ≤ 3008 from (om_2745cf8b1e i3811 p3811)), (show (u2.1 0 381).toInt = 0 from (om_ed0e4a93a4 i3811 p3811)), (show (0 : Int) = 0 from om_3ff73904e8), (fr1.2.1 310 (by decide)), (RS0.w (RS0.w (RS0.tr (show RS0 v (wA v 0 310 ps) from (RS0.w RS0.rf (by decide))) rs1) (by decide)) (by decide))⟩, by rw [ht9]; exact hP, hD⟩, hS.F ht9⟩) hS.2.2 dX1_begin_22
theorem om_089373ed54 : 0 ≤ (0 : Int) ∧ (0 : Int) ≤ 500 := by omega
set_option maxHeartbeats 4000000 in
set_option maxRecDepth 100000 in
theorem c_x_X1_beginFunction (l : Launch) (dC : Nat → ClassId) (dI : Nat → Nat → Nat) (cI cB cZ cJ cR : ClassId) (tb : Nat → Nat) (sz : Nat) (ad : Nat → Nat) (pr : Int32 → Nat) (N : Nat) (L1 L2 : List Nat) (v : MS)   : Met l yX1_beginFunction (Cond.code yX1_beginFunction cX1_beginFunction 1 none :: tw_W) ({ frames := 0, cells := 0, slots := 0, locals := 0 }) (pc_ (dC, dI) (tyS cI cB cZ cJ cR) tb (cW ad pr N cI cR L1 L2 v) sz [.ref (ad 901)]) (qv_ (dC, dI) (cW ad pr N cI cR L1 L2 v) sz (fun (u : MS) => FC [312, 313, 314, 315] [0] v u ∧ (Q_x_X1_beginFunction L1 L2 v u) ∧ (0 ≤ (u.1 0 312).toInt ∧ (u.1 0 312).toInt ≤ 500) ∧ (RS v u)) (fun (u : MS) => (cW ad pr N cI cR L1 L2 u))) 0 0 (va_A (cW ad pr N cI cR L1 L2 v) sz) := by
  refine Met.ofW (cc := cX1_beginFunction) (maxL := 1) (ret := none) (by decide) rfl ?_
  intro p e s m args below meth c s₁ B hml hv
  obtain ⟨rfl, hsz, hP, hKK, hD0, hFx⟩ := hv
  have hK := hKK.1
  have hx := B.exec
  have hb := B.bytes
  have hr := B.returns
  have ht : ∀ w ∈ tw_W, w.before _ s = true := fun w h => atoms_spec (ws := Cond.code yX1_beginFunction cX1_beginFunction 1 none :: tw_W) B.pre w (List.mem_cons_of_mem _ h)
  have hown : s.vm.findClass RX1 = some m.cls := findClass_of_methodNamed B.named
  have hlocks := B.notSynchronized
  subst hsz
  unfold qv_
  have hD := hD0.self (sz := s.heap.size)
  generalize hAe : va_A (cW ad pr N cI cR L1 L2 v) s.heap.size = A at hD hFx ⊢
  have hA : ∀ q : Nat, s.heap.size ≤ q → A q := fun q h => by rw [← hAe]; exact Or.inr h
  have hS : va_S A s.heap s.heap [] := va_S.rf
  have hl := lv_entry ([.ref (ad 901)]) (n := 1) (Nat.le_of_ble_eq_true rfl)
  rw [lg_entry_eq]
  generalize (lg_sl ([.ref (ad 901)]) ++ List.replicate (1 - (lg_sl ([.ref (ad 901)])).length) Slot.unset).toArray = ls at hl ⊢
  have hl : lv_has ls 1 [(0, .ref (ad 901))] := hl
  refine lv_aload_n hx hb dX1_beginFunction_0 rfl (lv_at hl 0 rfl) ?_
  refine lv_iconst (v := 0) hx hb dX1_beginFunction_1 (by decide) ?_
  refine va_put (D := (dC, dI)) (ci := 5) (fs := oF_X1 ad pr v) (v := .int 0) (ty := .int) (C := RX1) (T := TX1) (N := 12) hx hb ht itX1 tyX1 tyX1_ok nmX1 hown hK hP hD hS 1 rfl rfl 2 (by decide) (ht _ tw_468) (fun _ h9 => h9) rfl (by decide +kernel) rfl rfl (Nat.le_of_ble_eq_true rfl) dX1_beginFunction_2 (fun H locs hP hD hS => ?_)
  have hP := cP_ (cw_312 ad pr N cI cR L1 L2 v 0) hP
  have hD := cD_ (cw_312 ad pr N cI cR L1 L2 v 0) hD
  refine lv_aload_n hx hb dX1_beginFunction_5 rfl (lv_at hl 0 rfl) ?_
  refine lv_iconst (v := 0) hx hb dX1_beginFunction_6 (by decide) ?_
  refine va_put (D := (dC, dI)) (ci := 5) (fs := oF_X1 ad pr (wA v 0 312 0)) (v := .int 0) (ty := .int) (C := RX1) (T := TX1) (N := 12) hx hb ht itX1 tyX1 tyX1_ok nmX1 hown hK hP hD hS 1 rfl rfl 3 (by decide) (ht _ tw_469) (fun _ h9 => h9) rfl (by decide +kernel) rfl rfl (Nat.le_of_ble_eq_true rfl) dX1_beginFunction_7 (fun H locs hP hD hS => ?_)
  have hP := cP_ (cw_313 ad pr N cI cR L1 L2 (wA v 0 312 0) 0) hP
  have hD := cD_ (cw_313 ad pr N cI cR L1 L2 (wA v 0 312 0) 0) hD
  refine lv_aload_n hx hb dX1_beginFunction_10 rfl (lv_at hl 0 rfl) ?_
  refine lv_iconst (v := 0) hx hb dX1_beginFunction_11 (by decide) ?_
  refine va_put (D := (dC, dI)) (ci := 5) (fs := oF_X1 ad pr (wA (wA v 0 312 0) 0 313 0)) (v := .int 0) (ty := .int) (C := RX1) (T := TX1) (N := 12) hx hb ht itX1 tyX1 tyX1_ok nmX1 hown hK hP hD hS 1 rfl rfl 4 (by decide) (ht _ tw_470) (fun _ h9 => h9) rfl (by decide +kernel) rfl rfl (Nat.le_of_ble_eq_true rfl) dX1_beginFunction_12 (fun H locs hP hD hS => ?_)
  have hP := cP_ (cw_314 ad pr N cI cR L1 L2 (wA (wA v 0 312 0) 0 313 0) 0) hP
  have hD := cD_ (cw_314 ad pr N cI cR L1 L2 (wA (wA v 0 312 0) 0 313 0) 0) hD
  refine lv_aload_n hx hb dX1_beginFunction_15 rfl (lv_at hl 0 rfl) ?_
  refine lv_iconst (v := 0) hx hb dX1_beginFunction_16 (by decide) ?_
  refine va_put (D := (dC, dI)) (ci := 5) (fs := oF_X1 ad pr (wA (wA (wA v 0 312 0) 0 313 0) 0 314 0)) (v := .int 0) (ty := .int) (C := RX1) (T := TX1) (N := 12) hx hb ht itX1 tyX1 tyX1_ok nmX1 hown hK hP hD hS 1 rfl rfl 5 (by decide) (ht _ tw_471) (fun _ h9 => h9) rfl (by decide +kernel) rfl rfl (Nat.le_of_ble_eq_true rfl) dX1_beginFunction_17 (fun H locs hP hD hS => ?_)
  have hP := cP_ (cw_315 ad pr N cI cR L1 L2 (wA (wA (wA v 0 312 0) 0 313 0) 0 314 0) 0) hP
  have hD := cD_ (cw_315 ad pr N cI cR L1 L2 (wA (wA (wA v 0 312 0) 0 313 0) 0 314 0) 0) hD
  exact W.vret hx hb hr (fun t ht9 hW => ⟨⟨(wA (wA (wA (wA v 0 312 0) 0 313 0) 0 314 0) 0 315 0), rfl, ⟨(FC.f (FC.f (FC.f (FC.f (FC.rf _) 0 (by decide)) 0 (by decide)) 0 (by decide)) 0 (by decide)), rfl, (show 0 ≤ (0 : Int) ∧ (0 : Int) ≤ 500 from om_089373ed54), (RS.w0 (RS.w0 (RS.w0 (RS.w0 RS.rf (by decide)) (by decide)) (by decide)) (by decide))⟩, by rw [ht9]; exact hP, hD⟩, hS.F ht9⟩) hS.2.2 dX1_beginFunction_20
set_option maxHeartbeats 4000000 in
set_option maxRecDepth 100000 in
theorem c_x_X1_frame (l : Launch) (dC : Nat → ClassId) (dI : Nat → Nat → Nat) (cI cB cZ cJ cR : ClassId) (tb : Nat → Nat) (sz : Nat) (ad : Nat → Nat) (pr : Int32 → Nat) (N : Nat) (L1 L2 : List Nat) (v : MS)   : Met l yX1_frame (Cond.code yX1_frame cX1_frame 1 (some .int) :: tw_W) ({ frames := 0, cells := 0, slots := 0, locals := 0 }) (pc_ (dC, dI) (tyS cI cB cZ cJ cR) tb (cW ad pr N cI cR L1 L2 v) sz [.ref (ad 901)]) (qi_ (dC, dI) (cW ad pr N cI cR L1 L2 v) sz (fun (r : Int32) (u : MS) => v = u ∧ (Q_x_X1_frame L1 L2 v r)) (fun (u : MS) => (cW ad pr N cI cR L1 L2 u))) 0 0 (va_A (cW ad pr N cI cR L1 L2 v) sz) := by
  refine Met.ofW (cc := cX1_frame) (maxL := 1) (ret := (some .int)) (by decide) rfl ?_
  intro p e s m args below meth c s₁ B hml hv
  obtain ⟨rfl, hsz, hP, hKK, hD0, hFx⟩ := hv
  have hK := hKK.1
  have hx := B.exec
  have hb := B.bytes
  have hr := B.returns
  have ht : ∀ w ∈ tw_W, w.before _ s = true := fun w h => atoms_spec (ws := Cond.code yX1_frame cX1_frame 1 (some .int) :: tw_W) B.pre w (List.mem_cons_of_mem _ h)
  have hown : s.vm.findClass RX1 = some m.cls := findClass_of_methodNamed B.named
  have hlocks := B.notSynchronized
  subst hsz
  unfold qi_
  have hD := hD0.self (sz := s.heap.size)
  generalize hAe : va_A (cW ad pr N cI cR L1 L2 v) s.heap.size = A at hD hFx ⊢
  have hA : ∀ q : Nat, s.heap.size ≤ q → A q := fun q h => by rw [← hAe]; exact Or.inr h
  have hS : va_S A s.heap s.heap [] := va_S.rf
  have hl := lv_entry ([.ref (ad 901)]) (n := 1) (Nat.le_of_ble_eq_true rfl)
  rw [lg_entry_eq]
  generalize (lg_sl ([.ref (ad 901)]) ++ List.replicate (1 - (lg_sl ([.ref (ad 901)])).length) Slot.unset).toArray = ls at hl ⊢
  have hl : lv_has ls 1 [(0, .ref (ad 901))] := hl
  refine lv_bipush (v := 8) hx hb dX1_frame_0 (by decide) ?_
  refine lv_iconst (v := 4) hx hb dX1_frame_2 (by decide) ?_
  refine lv_aload_n hx hb dX1_frame_3 rfl (lv_at hl 0 rfl) ?_
  refine va_get (D := (dC, dI)) (ci := 5) (fs := oF_X1 ad pr v) (v := .int (v.1 0 315)) (C := RX1) (T := TX1) (N := 12) hx hb ht itX1 hown hK hP 1 rfl rfl 5 (by decide) (ht _ tw_471) (fun _ h9 => h9) rfl dX1_frame_4 ?_
  refine lv_imul hx hb dX1_frame_7 ?_
  refine lv_iadd hx hb dX1_frame_8 ?_
  exact W.iret (v := ((8 : Int32) + ((4 : Int32) * (v.1 0 315)))) hx hb hr (fun t ht9 hW => ⟨⟨((8 : Int32) + ((4 : Int32) * (v.1 0 315))), v, rfl, ⟨rfl, rfl⟩, by rw [ht9]; exact hP, hD⟩, hS.F ht9⟩) hS.2.2 dX1_frame_9
set_option maxHeartbeats 4000000 in
set_option maxRecDepth 100000 in
theorem c_x_X1_nextSlot (l : Launch) (dC : Nat → ClassId) (dI : Nat → Nat → Nat) (cI cB cZ cJ cR : ClassId) (tb : Nat → Nat) (sz : Nat) (ad : Nat → Nat) (pr : Int32 → Nat) (N : Nat) (L1 L2 : List Nat) (v : MS)  (z312 : 0 ≤ (v.1 0 312).toInt ∧ (v.1 0 312).toInt ≤ 500) : Met l yX1_nextSlot (Cond.code yX1_nextSlot cX1_nextSlot 1 (some .int) :: tw_W) ({ frames := 0, cells := 0, slots := 0, locals := 0 }) (pc_ (dC, dI) (tyS cI cB cZ cJ cR) tb (cW ad pr N cI cR L1 L2 v) sz [.ref (ad 901)]) (qi_ (dC, dI) (cW ad pr N cI cR L1 L2 v) sz (fun (r : Int32) (u : MS) => v = u ∧ (Q_x_X1_nextSlot L1 L2 v r)) (fun (u : MS) => (cW ad pr N cI cR L1 L2 u))) 0 0 (va_A (cW ad pr N cI cR L1 L2 v) sz) := by
  refine Met.ofW (cc := cX1_nextSlot) (maxL := 1) (ret := (some .int)) (by decide) rfl ?_
  intro p e s m args below meth c s₁ B hml hv
  obtain ⟨rfl, hsz, hP, hKK, hD0, hFx⟩ := hv
  have hK := hKK.1
  have hx := B.exec
  have hb := B.bytes
  have hr := B.returns
  have ht : ∀ w ∈ tw_W, w.before _ s = true := fun w h => atoms_spec (ws := Cond.code yX1_nextSlot cX1_nextSlot 1 (some .int) :: tw_W) B.pre w (List.mem_cons_of_mem _ h)
  have hown : s.vm.findClass RX1 = some m.cls := findClass_of_methodNamed B.named
  have hlocks := B.notSynchronized
  subst hsz
  unfold qi_
  have hD := hD0.self (sz := s.heap.size)
  generalize hAe : va_A (cW ad pr N cI cR L1 L2 v) s.heap.size = A at hD hFx ⊢
  have hA : ∀ q : Nat, s.heap.size ≤ q → A q := fun q h => by rw [← hAe]; exact Or.inr h
  have hS : va_S A s.heap s.heap [] := va_S.rf
  have hl := lv_entry ([.ref (ad 901)]) (n := 1) (Nat.le_of_ble_eq_true rfl)
  rw [lg_entry_eq]
  generalize (lg_sl ([.ref (ad 901)]) ++ List.replicate (1 - (lg_sl ([.ref (ad 901)])).length) Slot.unset).toArray = ls at hl ⊢
  have hl : lv_has ls 1 [(0, .ref (ad 901))] := hl
  refine lv_aload_n hx hb dX1_nextSlot_0 rfl (lv_at hl 0 rfl) ?_
  refine va_get (D := (dC, dI)) (ci := 5) (fs := oF_X1 ad pr v) (v := .int (v.1 0 312)) (C := RX1) (T := TX1) (N := 12) hx hb ht itX1 hown hK hP 1 rfl rfl 2 (by decide) (ht _ tw_468) (fun _ h9 => h9) rfl dX1_nextSlot_1 ?_
  refine lv_aload_n hx hb dX1_nextSlot_4 rfl (lv_at hl 0 rfl) ?_
  refine va_get (D := (dC, dI)) (ci := 5) (fs := oF_X1 ad pr v) (v := .int (v.1 0 314)) (C := RX1) (T := TX1) (N := 12) hx hb ht itX1 hown hK hP 1 rfl rfl 4 (by decide) (ht _ tw_470) (fun _ h9 => h9) rfl dX1_nextSlot_5 ?_
  refine lv_iadd hx hb dX1_nextSlot_8 ?_
  exact W.iret (v := ((v.1 0 312) + (v.1 0 314))) hx hb hr (fun t ht9 hW => ⟨⟨((v.1 0 312) + (v.1 0 314)), v, rfl, ⟨rfl, ⟨z312, rfl⟩⟩, by rw [ht9]; exact hP, hD⟩, hS.F ht9⟩) hS.2.2 dX1_nextSlot_9
theorem om_521794ed72 {x0 x1 : Int} (h0 : 0 ≤ x0 ∧ x0 ≤ 500) (h1 : (x1 ≤ x0 ∧ x1 ≤ (500 : Int)) ∧ (x1 = x0 ∨ x1 = (500 : Int))) : -2147483648 ≤ x1 - (1 : Int) := by omega
theorem om_bb72e97834 {x0 x1 : Int} (h0 : (x0 ≤ x1 ∧ x0 ≤ (500 : Int)) ∧ (x0 = x1 ∨ x0 = (500 : Int))) : x0 - (1 : Int) < 2147483648 := by omega
theorem om_fd6436a701 {x0 x1 x2 : Int} (h0 : 0 ≤ x0 ∧ x0 ≤ 500) (h1 : (x1 ≤ x0 ∧ x1 ≤ (500 : Int)) ∧ (x1 = x0 ∨ x1 = (500 : Int))) (h2 : x2 = x1 - (1 : Int)) : -1 ≤ x2 ∧ x2 ≤ 499 := by omega
theorem om_c791b72525 : (-1 ≤ (-1 : Int)) := by omega
theorem om_77a5a9021d {x0 : Int} (h0 : -1 ≤ x0 ∧ x0 ≤ 499) : x0 < 500 := by omega
theorem om_881d31ba61 {x0 : Int} (h0 : -1 ≤ x0 ∧ x0 ≤ 499) : -2147483648 ≤ x0 + (-1 : Int) := by omega
theorem om_62b7884c0a {x0 : Int} (h0 : -1 ≤ x0 ∧ x0 ≤ 499) : x0 + (-1 : Int) < 2147483648 := by omega
theorem om_93b090d449 {x0 x1 : Int} (h0 : -1 ≤ x0 ∧ x0 ≤ 499) (h1 : (0 : Int) ≤ x0) (h2 : x1 = x0 + (-1 : Int)) : -1 ≤ x1 ∧ x1 ≤ 499 := by omega
theorem om_4901b066cd {x0 : Int} (h0 : (0 : Int) ≤ x0) : (-1 ≤ x0) := by omega
set_option maxHeartbeats 4000000 in
set_option maxRecDepth 100000 in
theorem c_x_X1_slotNamed (l : Launch) (dC : Nat → ClassId) (dI : Nat → Nat → Nat) (cI cB cZ cJ cR : ClassId) (tb : Nat → Nat) (sz : Nat) (ad : Nat → Nat) (pr : Int32 → Nat) (N : Nat) (L1 L2 : List Nat) (v : MS) (pa : Int32) (z312 : 0 ≤ (v.1 0 312).toInt ∧ (v.1 0 312).toInt ≤ 500) : Met l yX1_slotNamed (Cond.code yX1_slotNamed cX1_slotNamed 3 (some .int) :: tw_W) ({ frames := 1, cells := 0, slots := 0, locals := 14 }) (pc_ (dC, dI) (tyS cI cB cZ cJ cR) tb (cW ad pr N cI cR L1 L2 v) sz [.ref (ad 901), .int pa]) (qi_ (dC, dI) (cW ad pr N cI cR L1 L2 v) sz (fun (r : Int32) (u : MS) => v = u ∧ (Q_x_X1_slotNamed L1 L2 v pa r) ∧ ((-1 ≤ r.toInt))) (fun (u : MS) => (cW ad pr N cI cR L1 L2 u))) 0 0 (va_A (cW ad pr N cI cR L1 L2 v) sz) := by
  refine Met.ofW (cc := cX1_slotNamed) (maxL := 3) (ret := (some .int)) (by decide) rfl ?_
  intro p e s m args below meth c s₁ B hml hv
  obtain ⟨rfl, hsz, hP, hKK, hD0, hFx⟩ := hv
  have hK := hKK.1
  have hx := B.exec
  have hb := B.bytes
  have hr := B.returns
  have ht : ∀ w ∈ tw_W, w.before _ s = true := fun w h => atoms_spec (ws := Cond.code yX1_slotNamed cX1_slotNamed 3 (some .int) :: tw_W) B.pre w (List.mem_cons_of_mem _ h)
  have hown : s.vm.findClass RX1 = some m.cls := findClass_of_methodNamed B.named
  have hlocks := B.notSynchronized
  subst hsz
  unfold qi_
  have hD := hD0.self (sz := s.heap.size)
  generalize hAe : va_A (cW ad pr N cI cR L1 L2 v) s.heap.size = A at hD hFx ⊢
  have hA : ∀ q : Nat, s.heap.size ≤ q → A q := fun q h => by rw [← hAe]; exact Or.inr h
  have hS : va_S A s.heap s.heap [] := va_S.rf
  have hl := lv_entry ([.ref (ad 901), .int pa]) (n := 3) (Nat.le_of_ble_eq_true rfl)
  rw [lg_entry_eq]
  generalize (lg_sl ([.ref (ad 901), .int pa]) ++ List.replicate (3 - (lg_sl ([.ref (ad 901), .int pa])).length) Slot.unset).toArray = ls at hl ⊢
  have hl : lv_has ls 3 [(0, .ref (ad 901)), (1, .int pa)] := hl
  refine lv_aload_n hx hb dX1_slotNamed_0 rfl (lv_at hl 0 rfl) ?_
  refine va_get (D := (dC, dI)) (ci := 5) (fs := oF_X1 ad pr v) (v := .int (v.1 0 312)) (C := RX1) (T := TX1) (N := 12) hx hb ht itX1 hown hK hP 1 rfl rfl 2 (by decide) (ht _ tw_468) (fun _ h9 => h9) rfl dX1_slotNamed_1 ?_
  refine lv_sipush (v := 500) hx hb dX1_slotNamed_4 (by decide) ?_
  refine va_mmin hx hb (by rw [hml]; exact hl.1.symm) hown (ht _ tw_472) (ht _ tw_473) (ht _ tw_474) (ht _ tw_475) (Nat.le_of_ble_eq_true rfl) (Nat.le_of_ble_eq_true rfl) (Nat.le_of_ble_eq_true rfl) (Nat.le_of_ble_eq_true rfl) dX1_slotNamed_7 ?_
  obtain ⟨g1, hg2⟩ : ∃ z : Int32, z = (if (500 : Int32) < (v.1 0 312) then (500 : Int32) else (v.1 0 312)) := ⟨_, rfl⟩
  refine tp_i (y := g1) hg2.symm ?_
  have z3 : (g1.toInt ≤ (v.1 0 312).toInt ∧ g1.toInt ≤ (500 : Int)) ∧ (g1.toInt = (v.1 0 312).toInt ∨ g1.toInt = (500 : Int)) := mmin_f hg2
  refine lv_iconst (v := 1) hx hb dX1_slotNamed_10 (by decide) ?_
  refine lv_isub hx hb dX1_slotNamed_11 ?_
  have z4 : (g1 - (1 : Int32)).toInt = g1.toInt - (1 : Int) := sub_z rfl (show (1 : Int32).toInt = (1 : Int) by decide) (om_521794ed72 z312 z3) (om_bb72e97834 z3)
  refine lv_istore_n (lv' := [(2, .int (g1 - (1 : Int32))), (0, .ref (ad 901)), (1, .int pa)]) hx hb dX1_slotNamed_12 rfl hl (by decide) rfl (fun ls hl => ?_)
  refine lpm_ (X := Int32) (P := (fun (x9 : Int32) (H : Heap) (locs : List Loc) (ls : Array Slot) => (-1 ≤ x9.toInt ∧ x9.toInt ≤ 499) ∧ (RT (Q_x_X1_slotNamed_L0 v pa) (g1 - (1 : Int32)) x9) ∧ va_P (dC, dI) vwCl (cW ad pr N cI cR L1 L2 v) H ∧ va_D A (cW ad pr N cI cR L1 L2 v) ∧ va_S A s.heap H locs ∧ lv_has ls 3 [(2, .int x9), (0, .ref (ad 901)), (1, .int pa)])) (fun x9 => (x9.toInt + 1).toNat) 13 (fun ka H locs ls hh ih13 => ?_) (g1 - (1 : Int32)) _ _ _ ⟨(show -1 ≤ (g1 - (1 : Int32)).toInt ∧ (g1 - (1 : Int32)).toInt ≤ 499 from (om_fd6436a701 z312 z3 z4)), RT.rf, hP, hD, hS, lv_sub hl [0, 1, 2] rfl⟩
  obtain ⟨f1L13, exL13, hP, hD, hS, hl⟩ := hh
  have f1L13 : -1 ≤ ka.toInt ∧ ka.toInt ≤ 499 := f1L13
  have hl : lv_has ls 3 [(2, .int ka), (0, .ref (ad 901)), (1, .int pa)] := hl
  refine lv_iload_n hx hb dX1_slotNamed_13 rfl (lv_at hl 0 rfl) ?_
  refine lv_if_lt (tgt := 35) hx hb dX1_slotNamed_14 (by decide) (fun h5 => ?_) (fun h5 => ?_)
  · have z6 : ka.toInt < (0 : Int) := lt_z rfl (show (0 : Int32).toInt = (0 : Int) by decide) h5
    refine lv_iconst (v := -1) hx hb dX1_slotNamed_35 (by decide) ?_
    exact W.iret (v := (-1)) hx hb hr (fun t ht9 hW => ⟨⟨(-1), v, rfl, ⟨rfl, ⟨z312, g1, hg2, ka, exL13, f1L13, (Or.inl ⟨z6, rfl⟩)⟩, om_c791b72525⟩, by rw [ht9]; exact hP, hD⟩, hS.F ht9⟩) hS.2.2 dX1_slotNamed_36
  · have z7 : (0 : Int) ≤ ka.toInt := nlt_z rfl (show (0 : Int32).toInt = (0 : Int) by decide) h5
    refine lv_aload_n hx hb dX1_slotNamed_17 rfl (lv_at hl 1 rfl) ?_
    refine va_get (D := (dC, dI)) (ci := 5) (fs := oF_X1 ad pr v) (v := .ref (ad 311)) (C := RX1) (T := TX1) (N := 12) hx hb ht itX1 hown hK hP 1 rfl rfl 1 (by decide) (ht _ tw_476) (fun _ h9 => h9) rfl dX1_slotNamed_18 ?_
    refine lv_iload_n hx hb dX1_slotNamed_21 rfl (lv_at hl 0 rfl) ?_
    refine va_iald (D := (dC, dI)) (f := (v.1 311)) hx hb hK hP 13 0 rfl rfl (in_y (a := ka.toInt) (b := 500) rfl (om_51058f7f87 z7) (om_77a5a9021d f1L13) rfl) dX1_slotNamed_22 ?_
    refine lv_iload_n hx hb dX1_slotNamed_23 rfl (lv_at hl 2 rfl) ?_
    refine lv_icmp_ne (tgt := 29) hx hb dX1_slotNamed_24 (by decide) (fun h8 => ?_) (fun h8 => ?_)
    · have z9 : ((v.1 311) ka.toNatClampNeg).toInt ≠ pa.toInt := ne_z rfl rfl h8
      refine lv_iinc (v := (ka + (-1 : Int32))) (lv' := [(2, .int (ka + (-1 : Int32))), (0, .ref (ad 901)), (1, .int pa)]) hx hb dX1_slotNamed_29 hl (k := 0) rfl (rfl) (by decide) rfl (fun ls hl => ?_)
      have z10 : (ka + (-1 : Int32)).toInt = ka.toInt + (-1 : Int) := add_z rfl (show ((-1) : Int32).toInt = (-1 : Int) by decide) (om_881d31ba61 f1L13) (om_62b7884c0a f1L13)
      refine lv_goto (tgt := 13) hx hb dX1_slotNamed_32 (by decide) ?_
      exact ih13 (ka + (-1 : Int32)) _ _ _ (show ((ka + (-1 : Int32)).toInt + 1).toNat < (ka.toInt + 1).toNat from tn_z (om_3e134d9ec9 z10) (om_ff03e7c988 z7)) ⟨(show -1 ≤ (ka + (-1 : Int32)).toInt ∧ (ka + (-1 : Int32)).toInt ≤ 499 from (om_93b090d449 f1L13 z7 z10)), (RT.st exL13 ⟨f1L13, z7, z9, rfl⟩), hP, hD, hS, lv_sub hl [0, 1, 2] rfl⟩
    · have z11 : ((v.1 311) ka.toNatClampNeg).toInt = pa.toInt := eq_z rfl rfl h8
      refine lv_iload_n hx hb dX1_slotNamed_27 rfl (lv_at hl 0 rfl) ?_
      exact W.iret (v := ka) hx hb hr (fun t ht9 hW => ⟨⟨ka, v, rfl, ⟨rfl, ⟨z312, g1, hg2, ka, exL13, f1L13, (Or.inr (⟨z7, z11, rfl⟩))⟩, (om_4901b066cd z7)⟩, by rw [ht9]; exact hP, hD⟩, hS.F ht9⟩) hS.2.2 dX1_slotNamed_28
theorem om_5c53bf5a41 {x0 : Int} (h0 : 0 ≤ x0 ∧ x0 ≤ 3008) (h1 : x0 < (0 : Int)) : False := by omega
theorem om_c366691a1f {x0 : Int} (h0 : x0 < 3008) (h1 : (3008 : Int) ≤ x0) : False := by omega
theorem om_127c616405 {x0 : Int} (h0 : 0 ≤ x0 ∧ x0 ≤ 3008) : 0 ≤ x0 := by omega
theorem om_89487d8972 {x0 : Int} (h0 : x0 < 3008) : x0 < 3008 := by omega
theorem om_6170f7a187 {x0 : Int} (h0 : 0 ≤ x0 ∧ x0 ≤ 3008) : -2147483648 ≤ (x0) + (1 : Int) := by omega
theorem om_905e0a6b5e {x0 : Int} (h0 : 0 ≤ x0 ∧ x0 ≤ 3008) : (x0) + (1 : Int) < 2147483648 := by omega
theorem om_c93b0b4625 {x0 x1 : Int} (h0 : 0 ≤ x0 ∧ x0 ≤ 3008) (h1 : x0 < 3008) (h2 : x1 = (x0) + (1 : Int)) : 0 ≤ x1 ∧ x1 ≤ 3008 := by omega
set_option maxHeartbeats 4000000 in
set_option maxRecDepth 100000 in
theorem c_x_X1_add (l : Launch) (dC : Nat → ClassId) (dI : Nat → Nat → Nat) (cI cB cZ cJ cR : ClassId) (tb : Nat → Nat) (sz : Nat) (ad : Nat → Nat) (pr : Int32 → Nat) (N : Nat) (L1 L2 : List Nat) (v : MS) (pa : Int32) (pb : Int32) (pc1 : Int32) (ps : Int32) (z381 : 0 ≤ (v.1 0 381).toInt ∧ (v.1 0 381).toInt ≤ 3008) (hps : pr ps = ad 908) (es310 : (v.1 0 310) = ps) (zd : (v.1 0 381).toInt < 3008) : Met l yX1_add (Cond.code yX1_add cX1_add 5 none :: tw_W) ({ frames := 0, cells := 0, slots := 0, locals := 0 }) (pc_ (dC, dI) (tyS cI cB cZ cJ cR) tb (cW ad pr N cI cR L1 L2 v) sz [.ref (ad 901), .int pa, .int pb, .int pc1]) (qv_ (dC, dI) (cW ad pr N cI cR L1 L2 v) sz (fun (u : MS) => FC [381] [0, 378, 379, 380] v u ∧ (Q_x_X1_add L1 L2 v pa pb pc1 u) ∧ (0 ≤ (u.1 0 381).toInt ∧ (u.1 0 381).toInt ≤ 3008) ∧ ((u.1 0 381).toInt = (v.1 0 381).toInt + 1) ∧ (RS v u)) (fun (u : MS) => (cW ad pr N cI cR L1 L2 u))) 0 0 (va_A (cW ad pr N cI cR L1 L2 v) sz) := by
  refine Met.ofW (cc := cX1_add) (maxL := 5) (ret := none) (by decide) rfl ?_
  intro p e s m args below meth c s₁ B hml hv
  obtain ⟨rfl, hsz, hP, hKK, hD0, hFx⟩ := hv
  have hK := hKK.1
  have hx := B.exec
  have hb := B.bytes
  have hr := B.returns
  have ht : ∀ w ∈ tw_W, w.before _ s = true := fun w h => atoms_spec (ws := Cond.code yX1_add cX1_add 5 none :: tw_W) B.pre w (List.mem_cons_of_mem _ h)
  have hown : s.vm.findClass RX1 = some m.cls := findClass_of_methodNamed B.named
  have hlocks := B.notSynchronized
  subst hsz
  unfold qv_
  have hD := hD0.self (sz := s.heap.size)
  generalize hAe : va_A (cW ad pr N cI cR L1 L2 v) s.heap.size = A at hD hFx ⊢
  have hA : ∀ q : Nat, s.heap.size ≤ q → A q := fun q h => by rw [← hAe]; exact Or.inr h
  have hS : va_S A s.heap s.heap [] := va_S.rf
  have hl := lv_entry ([.ref (ad 901), .int pa, .int pb, .int pc1]) (n := 5) (Nat.le_of_ble_eq_true rfl)
  rw [lg_entry_eq]
  generalize (lg_sl ([.ref (ad 901), .int pa, .int pb, .int pc1]) ++ List.replicate (5 - (lg_sl ([.ref (ad 901), .int pa, .int pb, .int pc1])).length) Slot.unset).toArray = ls at hl ⊢
  have hl : lv_has ls 5 [(0, .ref (ad 901)), (1, .int pa), (2, .int pb), (3, .int pc1)] := hl
  refine lv_aload_n hx hb dX1_add_0 rfl (lv_at hl 0 rfl) ?_
  refine va_get (D := (dC, dI)) (ci := 5) (fs := oF_X1 ad pr v) (v := .ref (pr (v.1 0 310))) (C := RX1) (T := TX1) (N := 12) hx hb ht itX1 hown hK hP 1 rfl rfl 0 (by decide) (ht _ tw_463) (fun _ h9 => h9) rfl dX1_add_1 ?_
  refine W.eq (g2 := F0 m 4 ls [.ref (ad 908)]) (by rw [show pr (v.1 0 310) = (ad 908) from (by rw [show (v.1 0 310) = ps from es310]; exact hps)]) ?_
  refine va_get (D := (dC, dI)) (ci := 10) (fs := oF_X7 ad pr v) (v := .int (v.1 0 381)) (C := RX7) (T := TX7) (N := 13) hx hb ht itX7 hown hK hP 8 rfl rfl 9 (by decide) (ht _ tw_477) (fun _ h9 => h9) rfl dX1_add_4 ?_
  refine lv_istore (lv' := [(4, .int (v.1 0 381)), (0, .ref (ad 901)), (1, .int pa), (2, .int pb), (3, .int pc1)]) hx hb dX1_add_7 hl (by decide) rfl (fun ls hl => ?_)
  refine lv_iload hx hb dX1_add_9 (lv_at hl 0 rfl) ?_
  refine lv_if_lt (tgt := 66) hx hb dX1_add_11 (by decide) (fun h1 => ?_) (fun h1 => ?_)
  · have z2 : (v.1 0 381).toInt < (0 : Int) := lt_z rfl (show (0 : Int32).toInt = (0 : Int) by decide) h1
    exact False.elim (om_5c53bf5a41 z381 z2)
  · have z3 : (0 : Int) ≤ (v.1 0 381).toInt := nlt_z rfl (show (0 : Int32).toInt = (0 : Int) by decide) h1
    refine lv_iload hx hb dX1_add_14 (lv_at hl 0 rfl) ?_
    refine lv_sipush (v := 3008) hx hb dX1_add_16 (by decide) ?_
    refine lv_icmp_ge (tgt := 66) hx hb dX1_add_19 (by decide) (fun h4 => ?_) (fun h4 => ?_)
    · have z5 : (3008 : Int) ≤ (v.1 0 381).toInt := le_z (show (3008 : Int32).toInt = (3008 : Int) by decide) rfl h4
      exact False.elim (om_c366691a1f zd z5)
    · have z6 : (v.1 0 381).toInt < (3008 : Int) := nle_z (show (3008 : Int32).toInt = (3008 : Int) by decide) rfl h4
      refine lv_aload_n hx hb dX1_add_22 rfl (lv_at hl 1 rfl) ?_
      refine va_get (D := (dC, dI)) (ci := 5) (fs := oF_X1 ad pr v) (v := .ref (pr (v.1 0 310))) (C := RX1) (T := TX1) (N := 12) hx hb ht itX1 hown hK hP 1 rfl rfl 0 (by decide) (ht _ tw_463) (fun _ h9 => h9) rfl dX1_add_23 ?_
      refine W.eq (g2 := F0 m 26 ls [.ref (ad 908)]) (by rw [show pr (v.1 0 310) = (ad 908) from (by rw [show (v.1 0 310) = ps from es310]; exact hps)]) ?_
      refine va_get (D := (dC, dI)) (ci := 10) (fs := oF_X7 ad pr v) (v := .ref (ad 378)) (C := RX7) (T := TX7) (N := 13) hx hb ht itX7 hown hK hP 8 rfl rfl 6 (by decide) (ht _ tw_478) (fun _ h9 => h9) rfl dX1_add_26 ?_
      refine lv_iload hx hb dX1_add_29 (lv_at hl 0 rfl) ?_
      refine lv_iload_n hx hb dX1_add_31 rfl (lv_at hl 2 rfl) ?_
      refine va_iast (D := (dC, dI)) (f := (v.1 378)) hx hb hK hP hD hS 29 0 rfl rfl (in_y (a := (v.1 0 381).toInt) (b := 3008) rfl (om_127c616405 z381) (om_89487d8972 zd) rfl) dX1_add_32 (fun H locs hP hD hS => ?_)
      have hP := cP_ (cq_378 ad pr N cI cR L1 L2 v ((v.1 0 381).toNatClampNeg) pa) hP
      have hD := cD_ (cq_378 ad pr N cI cR L1 L2 v ((v.1 0 381).toNatClampNeg) pa) hD
      refine lv_aload_n hx hb dX1_add_33 rfl (lv_at hl 1 rfl) ?_
      refine va_get (D := (dC, dI)) (ci := 5) (fs := oF_X1 ad pr (wA v 378 ((v.1 0 381).toNatClampNeg) pa)) (v := .ref (pr (v.1 0 310))) (C := RX1) (T := TX1) (N := 12) hx hb ht itX1 hown hK hP 1 rfl rfl 0 (by decide) (ht _ tw_463) (fun _ h9 => h9) rfl dX1_add_34 ?_
      refine W.eq (g2 := F0 m 37 ls [.ref (ad 908)]) (by rw [show pr (v.1 0 310) = (ad 908) from (by rw [show (v.1 0 310) = ps from es310]; exact hps)]) ?_
      refine va_get (D := (dC, dI)) (ci := 10) (fs := oF_X7 ad pr (wA v 378 ((v.1 0 381).toNatClampNeg) pa)) (v := .ref (ad 379)) (C := RX7) (T := TX7) (N := 13) hx hb ht itX7 hown hK hP 8 rfl rfl 7 (by decide) (ht _ tw_479) (fun _ h9 => h9) rfl dX1_add_37 ?_
      refine lv_iload hx hb dX1_add_40 (lv_at hl 0 rfl) ?_
      refine lv_iload_n hx hb dX1_add_42 rfl (lv_at hl 3 rfl) ?_
      refine va_iast (D := (dC, dI)) (f := (v.1 379)) hx hb hK hP hD hS 30 0 rfl rfl (in_y (a := (v.1 0 381).toInt) (b := 3008) rfl (om_127c616405 z381) (om_89487d8972 zd) rfl) dX1_add_43 (fun H locs hP hD hS => ?_)
      have hP := cP_ (cq_379 ad pr N cI cR L1 L2 (wA v 378 ((v.1 0 381).toNatClampNeg) pa) ((v.1 0 381).toNatClampNeg) pb) hP
      have hD := cD_ (cq_379 ad pr N cI cR L1 L2 (wA v 378 ((v.1 0 381).toNatClampNeg) pa) ((v.1 0 381).toNatClampNeg) pb) hD
      refine lv_aload_n hx hb dX1_add_44 rfl (lv_at hl 1 rfl) ?_
      refine va_get (D := (dC, dI)) (ci := 5) (fs := oF_X1 ad pr (wA (wA v 378 ((v.1 0 381).toNatClampNeg) pa) 379 ((v.1 0 381).toNatClampNeg) pb)) (v := .ref (pr (v.1 0 310))) (C := RX1) (T := TX1) (N := 12) hx hb ht itX1 hown hK hP 1 rfl rfl 0 (by decide) (ht _ tw_463) (fun _ h9 => h9) rfl dX1_add_45 ?_
      refine W.eq (g2 := F0 m 48 ls [.ref (ad 908)]) (by rw [show pr (v.1 0 310) = (ad 908) from (by rw [show (v.1 0 310) = ps from es310]; exact hps)]) ?_
      refine va_get (D := (dC, dI)) (ci := 10) (fs := oF_X7 ad pr (wA (wA v 378 ((v.1 0 381).toNatClampNeg) pa) 379 ((v.1 0 381).toNatClampNeg) pb)) (v := .ref (ad 380)) (C := RX7) (T := TX7) (N := 13) hx hb ht itX7 hown hK hP 8 rfl rfl 8 (by decide) (ht _ tw_480) (fun _ h9 => h9) rfl dX1_add_48 ?_
      refine lv_iload hx hb dX1_add_51 (lv_at hl 0 rfl) ?_
      refine lv_iload_n hx hb dX1_add_53 rfl (lv_at hl 4 rfl) ?_
      refine va_iast (D := (dC, dI)) (f := (v.1 380)) hx hb hK hP hD hS 31 0 rfl rfl (in_y (a := (v.1 0 381).toInt) (b := 3008) rfl (om_127c616405 z381) (om_89487d8972 zd) rfl) dX1_add_54 (fun H locs hP hD hS => ?_)
      have hP := cP_ (cq_380 ad pr N cI cR L1 L2 (wA (wA v 378 ((v.1 0 381).toNatClampNeg) pa) 379 ((v.1 0 381).toNatClampNeg) pb) ((v.1 0 381).toNatClampNeg) pc1) hP
      have hD := cD_ (cq_380 ad pr N cI cR L1 L2 (wA (wA v 378 ((v.1 0 381).toNatClampNeg) pa) 379 ((v.1 0 381).toNatClampNeg) pb) ((v.1 0 381).toNatClampNeg) pc1) hD
      refine lv_aload_n hx hb dX1_add_55 rfl (lv_at hl 1 rfl) ?_
      refine va_get (D := (dC, dI)) (ci := 5) (fs := oF_X1 ad pr (wA (wA (wA v 378 ((v.1 0 381).toNatClampNeg) pa) 379 ((v.1 0 381).toNatClampNeg) pb) 380 ((v.1 0 381).toNatClampNeg) pc1)) (v := .ref (pr (v.1 0 310))) (C := RX1) (T := TX1) (N := 12) hx hb ht itX1 hown hK hP 1 rfl rfl 0 (by decide) (ht _ tw_463) (fun _ h9 => h9) rfl dX1_add_56 ?_
      refine lv_iload hx hb dX1_add_59 (lv_at hl 0 rfl) ?_
      refine lv_iconst (v := 1) hx hb dX1_add_61 (by decide) ?_
      refine lv_iadd hx hb dX1_add_62 ?_
      have z7 : ((v.1 0 381) + (1 : Int32)).toInt = ((v.1 0 381).toInt) + (1 : Int) := add_z rfl (show (1 : Int32).toInt = (1 : Int) by decide) (om_6170f7a187 z381) (om_905e0a6b5e z381)
      refine W.eq (g2 := F0 m 63 ls [.int ((v.1 0 381) + (1 : Int32)), .ref (ad 908)]) (by rw [show pr (v.1 0 310) = (ad 908) from (by rw [show (v.1 0 310) = ps from es310]; exact hps)]) ?_
      refine va_put (D := (dC, dI)) (ci := 10) (fs := oF_X7 ad pr (wA (wA (wA v 378 ((v.1 0 381).toNatClampNeg) pa) 379 ((v.1 0 381).toNatClampNeg) pb) 380 ((v.1 0 381).toNatClampNeg) pc1)) (v := .int ((v.1 0 381) + (1 : Int32))) (ty := .int) (C := RX7) (T := TX7) (N := 13) hx hb ht itX7 tyX7 tyX7_ok nmX7 hown hK hP hD hS 8 rfl rfl 9 (by decide) (ht _ tw_477) (fun _ h9 => h9) rfl (by decide +kernel) rfl rfl (Nat.le_of_ble_eq_true rfl) dX1_add_63 (fun H locs hP hD hS => ?_)
      have hP := cP_ (cw_381 ad pr N cI cR L1 L2 (wA (wA (wA v 378 ((v.1 0 381).toNatClampNeg) pa) 379 ((v.1 0 381).toNatClampNeg) pb) 380 ((v.1 0 381).toNatClampNeg) pc1) ((v.1 0 381) + (1 : Int32))) hP
      have hD := cD_ (cw_381 ad pr N cI cR L1 L2 (wA (wA (wA v 378 ((v.1 0 381).toNatClampNeg) pa) 379 ((v.1 0 381).toNatClampNeg) pb) 380 ((v.1 0 381).toNatClampNeg) pc1) ((v.1 0 381) + (1 : Int32))) hD
      exact W.vret hx hb hr (fun t ht9 hW => ⟨⟨(wA (wA (wA (wA v 378 ((v.1 0 381).toNatClampNeg) pa) 379 ((v.1 0 381).toNatClampNeg) pb) 380 ((v.1 0 381).toNatClampNeg) pc1) 0 381 ((v.1 0 381) + (1 : Int32))), rfl, ⟨(FC.f (FC.a (FC.a (FC.a (FC.rf _) ((v.1 0 381).toNatClampNeg) pa (by decide) (by decide)) ((v.1 0 381).toNatClampNeg) pb (by decide) (by decide)) ((v.1 0 381).toNatClampNeg) pc1 (by decide) (by decide)) ((v.1 0 381) + (1 : Int32)) (by decide)), ⟨z381, zd, z3, z6, rfl⟩, (show 0 ≤ ((v.1 0 381) + (1 : Int32)).toInt ∧ ((v.1 0 381) + (1 : Int32)).toInt ≤ 3008 from (om_c93b0b4625 z381 zd z7)), (show ((v.1 0 381) + (1 : Int32)).toInt = (v.1 0 381).toInt + 1 from (om_5bccfc38cf z7)), (RS.add (by omega))⟩, by rw [ht9]; exact hP, hD⟩, hS.F ht9⟩) hS.2.2 dX1_add_66
set_option maxHeartbeats 4000000 in
set_option maxRecDepth 100000 in
theorem c_x_X1_isToldInBlock (l : Launch) (dC : Nat → ClassId) (dI : Nat → Nat → Nat) (cI cB cZ cJ cR : ClassId) (tb : Nat → Nat) (sz : Nat) (ad : Nat → Nat) (pr : Int32 → Nat) (N : Nat) (L1 L2 : List Nat) (v : MS) (pa : Int32) (z312 : 0 ≤ (v.1 0 312).toInt ∧ (v.1 0 312).toInt ≤ 500) : Met l yX1_isToldInBlock (Cond.code yX1_isToldInBlock cX1_isToldInBlock 2 (some .boolean) :: tw_W) ({ frames := 2, cells := 0, slots := 0, locals := 36 }) (pc_ (dC, dI) (tyS cI cB cZ cJ cR) tb (cW ad pr N cI cR L1 L2 v) sz [.ref (ad 901), .int pa]) (qi_ (dC, dI) (cW ad pr N cI cR L1 L2 v) sz (fun (r : Int32) (u : MS) => v = u ∧ (Q_x_X1_isToldInBlock L1 L2 v pa r) ∧ (r = 0 ∨ r = 1) ∧ (0 ≤ r.toInt ∧ r.toInt ≤ 1)) (fun (u : MS) => (cW ad pr N cI cR L1 L2 u))) 0 0 (va_A (cW ad pr N cI cR L1 L2 v) sz) := by
  refine Met.ofW (cc := cX1_isToldInBlock) (maxL := 2) (ret := (some .boolean)) (by decide) rfl ?_
  intro p e s m args below meth c s₁ B hml hv
  obtain ⟨rfl, hsz, hP, hKK, hD0, hFx⟩ := hv
  have hK := hKK.1
  have hx := B.exec
  have hb := B.bytes
  have hr := B.returns
  have ht : ∀ w ∈ tw_W, w.before _ s = true := fun w h => atoms_spec (ws := Cond.code yX1_isToldInBlock cX1_isToldInBlock 2 (some .boolean) :: tw_W) B.pre w (List.mem_cons_of_mem _ h)
  have hown : s.vm.findClass RX1 = some m.cls := findClass_of_methodNamed B.named
  have hlocks := B.notSynchronized
  subst hsz
  unfold qi_
  have hD := hD0.self (sz := s.heap.size)
  generalize hAe : va_A (cW ad pr N cI cR L1 L2 v) s.heap.size = A at hD hFx ⊢
  have hA : ∀ q : Nat, s.heap.size ≤ q → A q := fun q h => by rw [← hAe]; exact Or.inr h
  have hS : va_S A s.heap s.heap [] := va_S.rf
  have hl := lv_entry ([.ref (ad 901), .int pa]) (n := 2) (Nat.le_of_ble_eq_true rfl)
  rw [lg_entry_eq]
  generalize (lg_sl ([.ref (ad 901), .int pa]) ++ List.replicate (2 - (lg_sl ([.ref (ad 901), .int pa])).length) Slot.unset).toArray = ls at hl ⊢
  have hl : lv_has ls 2 [(0, .ref (ad 901)), (1, .int pa)] := hl
  refine lv_aload_n hx hb dX1_isToldInBlock_0 rfl (lv_at hl 0 rfl) ?_
  refine lv_iload_n hx hb dX1_isToldInBlock_1 rfl (lv_at hl 1 rfl) ?_
  refine cu_i (rn_Vk (n := 1) (As := [.int pa]) (rest := []) hx hb hml hown ht hKK hFx hP hD hS hA (c_x_X1_slotNamed l dC dI cI cB cZ cJ cR tb s.heap.size ad pr N L1 L2 v pa (show 0 ≤ (v.1 0 312).toInt ∧ (v.1 0 312).toInt ≤ 500 from (om_9861e69da5 z312))) tw_481 tw_482 (by decide +kernel) rfl rfl ⟨Nat.le_of_ble_eq_true rfl, Nat.le_of_ble_eq_true rfl⟩ (List.range (cW ad pr N cI cR L1 L2 v).length) (rg_map _) (nd_range _) 1 rfl rfl rfl rfl hl.1 rfl (Nat.le_of_ble_eq_true rfl) dX1_isToldInBlock_2 ⟨Nat.le_of_ble_eq_true rfl, Nat.le_of_ble_eq_true rfl⟩) hP hD hS hA (fun r3 u2 H locs hw1 hP hD hS => ?_)
  obtain ⟨rfl, ex1, c1⟩ := hw1
  refine W.widen (k := 0) (n := 0) (Nat.le_refl _) (Nat.le_refl _) ?_
  refine lv_aload_n hx hb dX1_isToldInBlock_5 rfl (lv_at hl 0 rfl) ?_
  refine va_get (D := (dC, dI)) (ci := 5) (fs := oF_X1 ad pr v) (v := .int (v.1 0 313)) (C := RX1) (T := TX1) (N := 12) hx hb ht itX1 hown hK hP 1 rfl rfl 3 (by decide) (ht _ tw_469) (fun _ h9 => h9) rfl dX1_isToldInBlock_6 ?_
  refine lv_icmp_lt (tgt := 16) hx hb dX1_isToldInBlock_9 (by decide) (fun h4 => ?_) (fun h4 => ?_)
  · have z5 : r3.toInt < (v.1 0 313).toInt := lt_z rfl rfl h4
    refine lv_iconst (v := 0) hx hb dX1_isToldInBlock_16 (by decide) ?_
    exact W.zret (v := 0) hx hb hr rfl (fun t ht9 hW => ⟨⟨0, v, rfl, ⟨rfl, ⟨z312, r3, ex1, c1, (Or.inl ⟨z5, rfl⟩)⟩, ⟨Or.inl rfl, (by decide)⟩⟩, by rw [ht9]; exact hP, hD⟩, hS.F ht9⟩) hS.2.2 dX1_isToldInBlock_17
  · have z6 : (v.1 0 313).toInt ≤ r3.toInt := nlt_z rfl rfl h4
    refine lv_iconst (v := 1) hx hb dX1_isToldInBlock_12 (by decide) ?_
    refine lv_goto (tgt := 17) hx hb dX1_isToldInBlock_13 (by decide) ?_
    exact W.zret (v := 1) hx hb hr rfl (fun t ht9 hW => ⟨⟨1, v, rfl, ⟨rfl, ⟨z312, r3, ex1, c1, (Or.inr (⟨z6, rfl⟩))⟩, ⟨Or.inr rfl, (by decide)⟩⟩, by rw [ht9]; exact hP, hD⟩, hS.F ht9⟩) hS.2.2 dX1_isToldInBlock_17
theorem om_bc287d7e08 {x0 : Int} (h0 : 0 ≤ x0 ∧ x0 ≤ 500) (h1 : (500 : Int) ≤ x0) : 0 ≤ x0 ∧ x0 ≤ 500 := by omega
theorem om_dc103c6066 {x0 : Int} (h0 : x0 < (500 : Int)) : x0 < 500 := by omega
theorem om_20865e7357 {x0 : Int} (h0 : 0 ≤ x0 ∧ x0 ≤ 500) : -2147483648 ≤ (x0) + (1 : Int) := by omega
theorem om_7a6dd6b594 {x0 : Int} (h0 : 0 ≤ x0 ∧ x0 ≤ 500) : (x0) + (1 : Int) < 2147483648 := by omega
theorem om_70b14f8a53 {x0 x1 : Int} (h0 : 0 ≤ x0 ∧ x0 ≤ 500) (h1 : x0 < (500 : Int)) (h2 : x1 = (x0) + (1 : Int)) : 0 ≤ x1 ∧ x1 ≤ 500 := by omega
set_option maxHeartbeats 4000000 in
set_option maxRecDepth 100000 in
theorem c_x_X1_learn (l : Launch) (dC : Nat → ClassId) (dI : Nat → Nat → Nat) (cI cB cZ cJ cR : ClassId) (tb : Nat → Nat) (sz : Nat) (ad : Nat → Nat) (pr : Int32 → Nat) (N : Nat) (L1 L2 : List Nat) (v : MS) (pa : Int32) (z312 : 0 ≤ (v.1 0 312).toInt ∧ (v.1 0 312).toInt ≤ 500) : Met l yX1_learn (Cond.code yX1_learn cX1_learn 2 none :: tw_W) ({ frames := 0, cells := 0, slots := 0, locals := 0 }) (pc_ (dC, dI) (tyS cI cB cZ cJ cR) tb (cW ad pr N cI cR L1 L2 v) sz [.ref (ad 901), .int pa]) (qv_ (dC, dI) (cW ad pr N cI cR L1 L2 v) sz (fun (u : MS) => FC [312] [0, 311] v u ∧ (Q_x_X1_learn L1 L2 v pa u) ∧ (0 ≤ (u.1 0 312).toInt ∧ (u.1 0 312).toInt ≤ 500) ∧ (RS v u)) (fun (u : MS) => (cW ad pr N cI cR L1 L2 u))) 0 0 (va_A (cW ad pr N cI cR L1 L2 v) sz) := by
  refine Met.ofW (cc := cX1_learn) (maxL := 2) (ret := none) (by decide) rfl ?_
  intro p e s m args below meth c s₁ B hml hv
  obtain ⟨rfl, hsz, hP, hKK, hD0, hFx⟩ := hv
  have hK := hKK.1
  have hx := B.exec
  have hb := B.bytes
  have hr := B.returns
  have ht : ∀ w ∈ tw_W, w.before _ s = true := fun w h => atoms_spec (ws := Cond.code yX1_learn cX1_learn 2 none :: tw_W) B.pre w (List.mem_cons_of_mem _ h)
  have hown : s.vm.findClass RX1 = some m.cls := findClass_of_methodNamed B.named
  have hlocks := B.notSynchronized
  subst hsz
  unfold qv_
  have hD := hD0.self (sz := s.heap.size)
  generalize hAe : va_A (cW ad pr N cI cR L1 L2 v) s.heap.size = A at hD hFx ⊢
  have hA : ∀ q : Nat, s.heap.size ≤ q → A q := fun q h => by rw [← hAe]; exact Or.inr h
  have hS : va_S A s.heap s.heap [] := va_S.rf
  have hl := lv_entry ([.ref (ad 901), .int pa]) (n := 2) (Nat.le_of_ble_eq_true rfl)
  rw [lg_entry_eq]
  generalize (lg_sl ([.ref (ad 901), .int pa]) ++ List.replicate (2 - (lg_sl ([.ref (ad 901), .int pa])).length) Slot.unset).toArray = ls at hl ⊢
  have hl : lv_has ls 2 [(0, .ref (ad 901)), (1, .int pa)] := hl
  refine lv_aload_n hx hb dX1_learn_0 rfl (lv_at hl 0 rfl) ?_
  refine va_get (D := (dC, dI)) (ci := 5) (fs := oF_X1 ad pr v) (v := .int (v.1 0 312)) (C := RX1) (T := TX1) (N := 12) hx hb ht itX1 hown hK hP 1 rfl rfl 2 (by decide) (ht _ tw_468) (fun _ h9 => h9) rfl dX1_learn_1 ?_
  refine lv_sipush (v := 500) hx hb dX1_learn_4 (by decide) ?_
  refine lv_icmp_ge (tgt := 30) hx hb dX1_learn_7 (by decide) (fun h1 => ?_) (fun h1 => ?_)
  · have z2 : (500 : Int) ≤ (v.1 0 312).toInt := le_z (show (500 : Int32).toInt = (500 : Int) by decide) rfl h1
    exact W.vret hx hb hr (fun t ht9 hW => ⟨⟨v, rfl, ⟨(FC.rf _), ⟨z312, (Or.inl ⟨z2, rfl⟩)⟩, (show 0 ≤ (v.1 0 312).toInt ∧ (v.1 0 312).toInt ≤ 500 from (om_bc287d7e08 z312 z2)), RS.rf⟩, by rw [ht9]; exact hP, hD⟩, hS.F ht9⟩) hS.2.2 dX1_learn_30
  · have z3 : (v.1 0 312).toInt < (500 : Int) := nle_z (show (500 : Int32).toInt = (500 : Int) by decide) rfl h1
    refine lv_aload_n hx hb dX1_learn_10 rfl (lv_at hl 0 rfl) ?_
    refine va_get (D := (dC, dI)) (ci := 5) (fs := oF_X1 ad pr v) (v := .ref (ad 311)) (C := RX1) (T := TX1) (N := 12) hx hb ht itX1 hown hK hP 1 rfl rfl 1 (by decide) (ht _ tw_476) (fun _ h9 => h9) rfl dX1_learn_11 ?_
    refine lv_aload_n hx hb dX1_learn_14 rfl (lv_at hl 0 rfl) ?_
    refine va_get (D := (dC, dI)) (ci := 5) (fs := oF_X1 ad pr v) (v := .int (v.1 0 312)) (C := RX1) (T := TX1) (N := 12) hx hb ht itX1 hown hK hP 1 rfl rfl 2 (by decide) (ht _ tw_468) (fun _ h9 => h9) rfl dX1_learn_15 ?_
    refine lv_iload_n hx hb dX1_learn_18 rfl (lv_at hl 1 rfl) ?_
    refine va_iast (D := (dC, dI)) (f := (v.1 311)) hx hb hK hP hD hS 13 0 rfl rfl (in_y (a := (v.1 0 312).toInt) (b := 500) rfl (om_3018c717e2 z312) (om_dc103c6066 z3) rfl) dX1_learn_19 (fun H locs hP hD hS => ?_)
    have hP := cP_ (cq_311 ad pr N cI cR L1 L2 v ((v.1 0 312).toNatClampNeg) pa) hP
    have hD := cD_ (cq_311 ad pr N cI cR L1 L2 v ((v.1 0 312).toNatClampNeg) pa) hD
    refine lv_aload_n hx hb dX1_learn_20 rfl (lv_at hl 0 rfl) ?_
    refine lv_dup hx hb dX1_learn_21 rfl ?_
    refine va_get (D := (dC, dI)) (ci := 5) (fs := oF_X1 ad pr (wA v 311 ((v.1 0 312).toNatClampNeg) pa)) (v := .int (v.1 0 312)) (C := RX1) (T := TX1) (N := 12) hx hb ht itX1 hown hK hP 1 rfl rfl 2 (by decide) (ht _ tw_468) (fun _ h9 => h9) rfl dX1_learn_22 ?_
    refine lv_iconst (v := 1) hx hb dX1_learn_25 (by decide) ?_
    refine lv_iadd hx hb dX1_learn_26 ?_
    have z4 : ((v.1 0 312) + (1 : Int32)).toInt = ((v.1 0 312).toInt) + (1 : Int) := add_z rfl (show (1 : Int32).toInt = (1 : Int) by decide) (om_20865e7357 z312) (om_7a6dd6b594 z312)
    refine va_put (D := (dC, dI)) (ci := 5) (fs := oF_X1 ad pr (wA v 311 ((v.1 0 312).toNatClampNeg) pa)) (v := .int ((v.1 0 312) + (1 : Int32))) (ty := .int) (C := RX1) (T := TX1) (N := 12) hx hb ht itX1 tyX1 tyX1_ok nmX1 hown hK hP hD hS 1 rfl rfl 2 (by decide) (ht _ tw_468) (fun _ h9 => h9) rfl (by decide +kernel) rfl rfl (Nat.le_of_ble_eq_true rfl) dX1_learn_27 (fun H locs hP hD hS => ?_)
    have hP := cP_ (cw_312 ad pr N cI cR L1 L2 (wA v 311 ((v.1 0 312).toNatClampNeg) pa) ((v.1 0 312) + (1 : Int32))) hP
    have hD := cD_ (cw_312 ad pr N cI cR L1 L2 (wA v 311 ((v.1 0 312).toNatClampNeg) pa) ((v.1 0 312) + (1 : Int32))) hD
    exact W.vret hx hb hr (fun t ht9 hW => ⟨⟨(wA (wA v 311 ((v.1 0 312).toNatClampNeg) pa) 0 312 ((v.1 0 312) + (1 : Int32))), rfl, ⟨(FC.f (FC.a (FC.rf _) ((v.1 0 312).toNatClampNeg) pa (by decide) (by decide)) ((v.1 0 312) + (1 : Int32)) (by decide)), ⟨z312, (Or.inr (⟨z3, rfl⟩))⟩, (show 0 ≤ ((v.1 0 312) + (1 : Int32)).toInt ∧ ((v.1 0 312) + (1 : Int32)).toInt ≤ 500 from (om_70b14f8a53 z312 z3 z4)), (RS.w0 (RS.w RS.rf (by decide)) (by decide))⟩, by rw [ht9]; exact hP, hD⟩, hS.F ht9⟩) hS.2.2 dX1_learn_30
set_option maxHeartbeats 4000000 in
set_option maxRecDepth 100000 in
theorem c_x_X1_wantSlots (l : Launch) (dC : Nat → ClassId) (dI : Nat → Nat → Nat) (cI cB cZ cJ cR : ClassId) (tb : Nat → Nat) (sz : Nat) (ad : Nat → Nat) (pr : Int32 → Nat) (N : Nat) (L1 L2 : List Nat) (v : MS) (pa : Int32) (z312 : 0 ≤ (v.1 0 312).toInt ∧ (v.1 0 312).toInt ≤ 500) : Met l yX1_wantSlots (Cond.code yX1_wantSlots cX1_wantSlots 3 (some .boolean) :: tw_W) ({ frames := 1, cells := 0, slots := 0, locals := 15 }) (pc_ (dC, dI) (tyS cI cB cZ cJ cR) tb (cW ad pr N cI cR L1 L2 v) sz [.ref (ad 901), .int pa]) (qi_ (dC, dI) (cW ad pr N cI cR L1 L2 v) sz (fun (r : Int32) (u : MS) => FC [315] [0] v u ∧ (Q_x_X1_wantSlots L1 L2 v pa r u) ∧ (RS v u) ∧ (r = 0 ∨ r = 1)) (fun (u : MS) => (cW ad pr N cI cR L1 L2 u))) 0 0 (va_A (cW ad pr N cI cR L1 L2 v) sz) := by
  refine Met.ofW (cc := cX1_wantSlots) (maxL := 3) (ret := (some .boolean)) (by decide) rfl ?_
  intro p e s m args below meth c s₁ B hml hv
  obtain ⟨rfl, hsz, hP, hKK, hD0, hFx⟩ := hv
  have hK := hKK.1
  have hx := B.exec
  have hb := B.bytes
  have hr := B.returns
  have ht : ∀ w ∈ tw_W, w.before _ s = true := fun w h => atoms_spec (ws := Cond.code yX1_wantSlots cX1_wantSlots 3 (some .boolean) :: tw_W) B.pre w (List.mem_cons_of_mem _ h)
  have hown : s.vm.findClass RX1 = some m.cls := findClass_of_methodNamed B.named
  have hlocks := B.notSynchronized
  subst hsz
  unfold qi_
  have hD := hD0.self (sz := s.heap.size)
  generalize hAe : va_A (cW ad pr N cI cR L1 L2 v) s.heap.size = A at hD hFx ⊢
  have hA : ∀ q : Nat, s.heap.size ≤ q → A q := fun q h => by rw [← hAe]; exact Or.inr h
  have hS : va_S A s.heap s.heap [] := va_S.rf
  have hl := lv_entry ([.ref (ad 901), .int pa]) (n := 3) (Nat.le_of_ble_eq_true rfl)
  rw [lg_entry_eq]
  generalize (lg_sl ([.ref (ad 901), .int pa]) ++ List.replicate (3 - (lg_sl ([.ref (ad 901), .int pa])).length) Slot.unset).toArray = ls at hl ⊢
  have hl : lv_has ls 3 [(0, .ref (ad 901)), (1, .int pa)] := hl
  refine lv_aload_n hx hb dX1_wantSlots_0 rfl (lv_at hl 0 rfl) ?_
  refine va_get (D := (dC, dI)) (ci := 5) (fs := oF_X1 ad pr v) (v := .int (v.1 0 312)) (C := RX1) (T := TX1) (N := 12) hx hb ht itX1 hown hK hP 1 rfl rfl 2 (by decide) (ht _ tw_468) (fun _ h9 => h9) rfl dX1_wantSlots_1 ?_
  refine lv_aload_n hx hb dX1_wantSlots_4 rfl (lv_at hl 0 rfl) ?_
  refine va_get (D := (dC, dI)) (ci := 5) (fs := oF_X1 ad pr v) (v := .int (v.1 0 314)) (C := RX1) (T := TX1) (N := 12) hx hb ht itX1 hown hK hP 1 rfl rfl 4 (by decide) (ht _ tw_470) (fun _ h9 => h9) rfl dX1_wantSlots_5 ?_
  refine lv_iadd hx hb dX1_wantSlots_8 ?_
  refine lv_iload_n hx hb dX1_wantSlots_9 rfl (lv_at hl 1 rfl) ?_
  refine lv_iadd hx hb dX1_wantSlots_10 ?_
  refine lv_istore_n (lv' := [(2, .int (((v.1 0 312) + (v.1 0 314)) + pa)), (0, .ref (ad 901)), (1, .int pa)]) hx hb dX1_wantSlots_11 rfl hl (by decide) rfl (fun ls hl => ?_)
  refine lv_aload_n hx hb dX1_wantSlots_12 rfl (lv_at hl 1 rfl) ?_
  refine lv_aload_n hx hb dX1_wantSlots_13 rfl (lv_at hl 1 rfl) ?_
  refine va_get (D := (dC, dI)) (ci := 5) (fs := oF_X1 ad pr v) (v := .int (v.1 0 315)) (C := RX1) (T := TX1) (N := 12) hx hb ht itX1 hown hK hP 1 rfl rfl 5 (by decide) (ht _ tw_471) (fun _ h9 => h9) rfl dX1_wantSlots_14 ?_
  refine lv_iload_n hx hb dX1_wantSlots_17 rfl (lv_at hl 0 rfl) ?_
  refine va_mmax hx hb (by rw [hml]; exact hl.1.symm) hown (ht _ tw_483) (ht _ tw_484) (ht _ tw_474) (ht _ tw_485) (Nat.le_of_ble_eq_true rfl) (Nat.le_of_ble_eq_true rfl) (Nat.le_of_ble_eq_true rfl) (Nat.le_of_ble_eq_true rfl) dX1_wantSlots_18 ?_
  obtain ⟨g1, hg2⟩ : ∃ z : Int32, z = (if (v.1 0 315) < (((v.1 0 312) + (v.1 0 314)) + pa) then (((v.1 0 312) + (v.1 0 314)) + pa) else (v.1 0 315)) := ⟨_, rfl⟩
  refine tp_i (y := g1) hg2.symm ?_
  have z3 : ((v.1 0 315).toInt ≤ g1.toInt ∧ (((v.1 0 312) + (v.1 0 314)) + pa).toInt ≤ g1.toInt) ∧ (g1.toInt = (v.1 0 315).toInt ∨ g1.toInt = (((v.1 0 312) + (v.1 0 314)) + pa).toInt) := mmax_f hg2
  refine va_put (D := (dC, dI)) (ci := 5) (fs := oF_X1 ad pr v) (v := .int g1) (ty := .int) (C := RX1) (T := TX1) (N := 12) hx hb ht itX1 tyX1 tyX1_ok nmX1 hown hK hP hD hS 1 rfl rfl 5 (by decide) (ht _ tw_471) (fun _ h9 => h9) rfl (by decide +kernel) rfl rfl (Nat.le_of_ble_eq_true rfl) dX1_wantSlots_21 (fun H locs hP hD hS => ?_)
  have hP := cP_ (cw_315 ad pr N cI cR L1 L2 v g1) hP
  have hD := cD_ (cw_315 ad pr N cI cR L1 L2 v g1) hD
  refine lv_iload_n hx hb dX1_wantSlots_24 rfl (lv_at hl 0 rfl) ?_
  refine lv_sipush (v := 500) hx hb dX1_wantSlots_25 (by decide) ?_
  refine lv_icmp_gt (tgt := 35) hx hb dX1_wantSlots_28 (by decide) (fun h4 => ?_) (fun h4 => ?_)
  · have z5 : (500 : Int) < (((v.1 0 312) + (v.1 0 314)) + pa).toInt := lt_z (show (500 : Int32).toInt = (500 : Int) by decide) rfl h4
    refine lv_iconst (v := 0) hx hb dX1_wantSlots_35 (by decide) ?_
    exact W.zret (v := 0) hx hb hr rfl (fun t ht9 hW => ⟨⟨0, (wA v 0 315 g1), rfl, ⟨(FC.f (FC.rf _) g1 (by decide)), ⟨z312, g1, hg2, (Or.inl ⟨z5, rfl, rfl⟩)⟩, (RS.w0 RS.rf (by decide)), (Or.inl rfl)⟩, by rw [ht9]; exact hP, hD⟩, hS.F ht9⟩) hS.2.2 dX1_wantSlots_36
  · have z6 : (((v.1 0 312) + (v.1 0 314)) + pa).toInt ≤ (500 : Int) := nlt_z (show (500 : Int32).toInt = (500 : Int) by decide) rfl h4
    refine lv_iconst (v := 1) hx hb dX1_wantSlots_31 (by decide) ?_
    refine lv_goto (tgt := 36) hx hb dX1_wantSlots_32 (by decide) ?_
    exact W.zret (v := 1) hx hb hr rfl (fun t ht9 hW => ⟨⟨1, (wA v 0 315 g1), rfl, ⟨(FC.f (FC.rf _) g1 (by decide)), ⟨z312, g1, hg2, (Or.inr (⟨z6, rfl, rfl⟩))⟩, (RS.w0 RS.rf (by decide)), (Or.inr rfl)⟩, by rw [ht9]; exact hP, hD⟩, hS.F ht9⟩) hS.2.2 dX1_wantSlots_36
theorem om_e479c45b62 {x0 x1 : Int} (h0 : 0 ≤ x0 ∧ x0 - 4 * x1 ≤ 16) : -2147483648 ≤ (x0) + (1 : Int) := by omega
theorem om_72563804fc {x0 x1 : Int} (h0 : 0 ≤ x0 ∧ x0 ≤ 1500) (h1 : 0 ≤ x1 ∧ x1 - 4 * x0 ≤ 16) : (x1) + (1 : Int) < 2147483648 := by omega
theorem om_4f83ef7864 {x0 x1 x2 : Int} (h0 : x0 = (x1) + (1 : Int)) : x1 ≤ x0 ∧ x0 - 4 * x2 ≤ x1 - 4 * x2 + 1 := by omega
set_option maxHeartbeats 4000000 in
set_option maxRecDepth 100000 in
theorem c_x_X1_newLabel (l : Launch) (dC : Nat → ClassId) (dI : Nat → Nat → Nat) (cI cB cZ cJ cR : ClassId) (tb : Nat → Nat) (sz : Nat) (ad : Nat → Nat) (pr : Int32 → Nat) (N : Nat) (L1 L2 : List Nat) (v : MS)  (z305 : 0 ≤ (v.1 0 305).toInt ∧ (v.1 0 305).toInt ≤ 1500) (zlb : 0 ≤ (v.1 0 317).toInt ∧ (v.1 0 317).toInt - 4 * (v.1 0 305).toInt ≤ 16) : Met l yX1_newLabel (Cond.code yX1_newLabel cX1_newLabel 1 (some .int) :: tw_W) ({ frames := 0, cells := 0, slots := 0, locals := 0 }) (pc_ (dC, dI) (tyS cI cB cZ cJ cR) tb (cW ad pr N cI cR L1 L2 v) sz [.ref (ad 901)]) (qi_ (dC, dI) (cW ad pr N cI cR L1 L2 v) sz (fun (r : Int32) (u : MS) => FC [317] [0] v u ∧ (Q_x_X1_newLabel L1 L2 v r u) ∧ ((v.1 0 317).toInt ≤ (u.1 0 317).toInt ∧ (u.1 0 317).toInt - 4 * (u.1 0 305).toInt ≤ (v.1 0 317).toInt - 4 * (v.1 0 305).toInt + 1) ∧ (RS v u)) (fun (u : MS) => (cW ad pr N cI cR L1 L2 u))) 0 0 (va_A (cW ad pr N cI cR L1 L2 v) sz) := by
  refine Met.ofW (cc := cX1_newLabel) (maxL := 1) (ret := (some .int)) (by decide) rfl ?_
  intro p e s m args below meth c s₁ B hml hv
  obtain ⟨rfl, hsz, hP, hKK, hD0, hFx⟩ := hv
  have hK := hKK.1
  have hx := B.exec
  have hb := B.bytes
  have hr := B.returns
  have ht : ∀ w ∈ tw_W, w.before _ s = true := fun w h => atoms_spec (ws := Cond.code yX1_newLabel cX1_newLabel 1 (some .int) :: tw_W) B.pre w (List.mem_cons_of_mem _ h)
  have hown : s.vm.findClass RX1 = some m.cls := findClass_of_methodNamed B.named
  have hlocks := B.notSynchronized
  subst hsz
  unfold qi_
  have hD := hD0.self (sz := s.heap.size)
  generalize hAe : va_A (cW ad pr N cI cR L1 L2 v) s.heap.size = A at hD hFx ⊢
  have hA : ∀ q : Nat, s.heap.size ≤ q → A q := fun q h => by rw [← hAe]; exact Or.inr h
  have hS : va_S A s.heap s.heap [] := va_S.rf
  have hl := lv_entry ([.ref (ad 901)]) (n := 1) (Nat.le_of_ble_eq_true rfl)
  rw [lg_entry_eq]
  generalize (lg_sl ([.ref (ad 901)]) ++ List.replicate (1 - (lg_sl ([.ref (ad 901)])).length) Slot.unset).toArray = ls at hl ⊢
  have hl : lv_has ls 1 [(0, .ref (ad 901))] := hl
  refine lv_aload_n hx hb dX1_newLabel_0 rfl (lv_at hl 0 rfl) ?_
  refine lv_dup hx hb dX1_newLabel_1 rfl ?_
  refine va_get (D := (dC, dI)) (ci := 5) (fs := oF_X1 ad pr v) (v := .int (v.1 0 317)) (C := RX1) (T := TX1) (N := 12) hx hb ht itX1 hown hK hP 1 rfl rfl 7 (by decide) (ht _ tw_466) (fun _ h9 => h9) rfl dX1_newLabel_2 ?_
  refine lv_iconst (v := 1) hx hb dX1_newLabel_5 (by decide) ?_
  refine lv_iadd hx hb dX1_newLabel_6 ?_
  have z1 : ((v.1 0 317) + (1 : Int32)).toInt = ((v.1 0 317).toInt) + (1 : Int) := add_z rfl (show (1 : Int32).toInt = (1 : Int) by decide) (om_e479c45b62 zlb) (om_72563804fc z305 zlb)
  refine va_put (D := (dC, dI)) (ci := 5) (fs := oF_X1 ad pr v) (v := .int ((v.1 0 317) + (1 : Int32))) (ty := .int) (C := RX1) (T := TX1) (N := 12) hx hb ht itX1 tyX1 tyX1_ok nmX1 hown hK hP hD hS 1 rfl rfl 7 (by decide) (ht _ tw_466) (fun _ h9 => h9) rfl (by decide +kernel) rfl rfl (Nat.le_of_ble_eq_true rfl) dX1_newLabel_7 (fun H locs hP hD hS => ?_)
  have hP := cP_ (cw_317 ad pr N cI cR L1 L2 v ((v.1 0 317) + (1 : Int32))) hP
  have hD := cD_ (cw_317 ad pr N cI cR L1 L2 v ((v.1 0 317) + (1 : Int32))) hD
  refine lv_aload_n hx hb dX1_newLabel_10 rfl (lv_at hl 0 rfl) ?_
  refine va_get (D := (dC, dI)) (ci := 5) (fs := oF_X1 ad pr (wA v 0 317 ((v.1 0 317) + (1 : Int32)))) (v := .int ((v.1 0 317) + (1 : Int32))) (C := RX1) (T := TX1) (N := 12) hx hb ht itX1 hown hK hP 1 rfl rfl 7 (by decide) (ht _ tw_466) (fun _ h9 => h9) rfl dX1_newLabel_11 ?_
  refine lv_iconst (v := 1) hx hb dX1_newLabel_14 (by decide) ?_
  refine lv_isub hx hb dX1_newLabel_15 ?_
  refine tp_i (y := (v.1 0 317)) (as1_ _) ?_
  exact W.iret (v := (v.1 0 317)) hx hb hr (fun t ht9 hW => ⟨⟨(v.1 0 317), (wA v 0 317 ((v.1 0 317) + (1 : Int32))), rfl, ⟨(FC.f (FC.rf _) ((v.1 0 317) + (1 : Int32)) (by decide)), ⟨z305, zlb, rfl, rfl⟩, (show (v.1 0 317).toInt ≤ ((v.1 0 317) + (1 : Int32)).toInt ∧ ((v.1 0 317) + (1 : Int32)).toInt - 4 * (v.1 0 305).toInt ≤ (v.1 0 317).toInt - 4 * (v.1 0 305).toInt + 1 from (om_4f83ef7864 z1)), (RS.w0 RS.rf (by decide))⟩, by rw [ht9]; exact hP, hD⟩, hS.F ht9⟩) hS.2.2 dX1_newLabel_16
theorem om_3d405d6278 {x0 : Int} (h0 : x0 < (1500 : Int)) : x0 < 1500 := by omega
set_option maxHeartbeats 4000000 in
set_option maxRecDepth 100000 in
theorem c_x_X1_setLabel (l : Launch) (dC : Nat → ClassId) (dI : Nat → Nat → Nat) (cI cB cZ cJ cR : ClassId) (tb : Nat → Nat) (sz : Nat) (ad : Nat → Nat) (pr : Int32 → Nat) (N : Nat) (L1 L2 : List Nat) (v : MS) (pa : Int32) (ps : Int32) (z381 : 0 ≤ (v.1 0 381).toInt ∧ (v.1 0 381).toInt ≤ 3008) (hps : pr ps = ad 908) (es310 : (v.1 0 310) = ps) : Met l yX1_setLabel (Cond.code yX1_setLabel cX1_setLabel 2 none :: tw_W) ({ frames := 0, cells := 0, slots := 0, locals := 0 }) (pc_ (dC, dI) (tyS cI cB cZ cJ cR) tb (cW ad pr N cI cR L1 L2 v) sz [.ref (ad 901), .int pa]) (qv_ (dC, dI) (cW ad pr N cI cR L1 L2 v) sz (fun (u : MS) => FC [] [316] v u ∧ (Q_x_X1_setLabel L1 L2 v pa u) ∧ (RS v u)) (fun (u : MS) => (cW ad pr N cI cR L1 L2 u))) 0 0 (va_A (cW ad pr N cI cR L1 L2 v) sz) := by
  refine Met.ofW (cc := cX1_setLabel) (maxL := 2) (ret := none) (by decide) rfl ?_
  intro p e s m args below meth c s₁ B hml hv
  obtain ⟨rfl, hsz, hP, hKK, hD0, hFx⟩ := hv
  have hK := hKK.1
  have hx := B.exec
  have hb := B.bytes
  have hr := B.returns
  have ht : ∀ w ∈ tw_W, w.before _ s = true := fun w h => atoms_spec (ws := Cond.code yX1_setLabel cX1_setLabel 2 none :: tw_W) B.pre w (List.mem_cons_of_mem _ h)
  have hown : s.vm.findClass RX1 = some m.cls := findClass_of_methodNamed B.named
  have hlocks := B.notSynchronized
  subst hsz
  unfold qv_
  have hD := hD0.self (sz := s.heap.size)
  generalize hAe : va_A (cW ad pr N cI cR L1 L2 v) s.heap.size = A at hD hFx ⊢
  have hA : ∀ q : Nat, s.heap.size ≤ q → A q := fun q h => by rw [← hAe]; exact Or.inr h
  have hS : va_S A s.heap s.heap [] := va_S.rf
  have hl := lv_entry ([.ref (ad 901), .int pa]) (n := 2) (Nat.le_of_ble_eq_true rfl)
  rw [lg_entry_eq]
  generalize (lg_sl ([.ref (ad 901), .int pa]) ++ List.replicate (2 - (lg_sl ([.ref (ad 901), .int pa])).length) Slot.unset).toArray = ls at hl ⊢
  have hl : lv_has ls 2 [(0, .ref (ad 901)), (1, .int pa)] := hl
  refine lv_iload_n hx hb dX1_setLabel_0 rfl (lv_at hl 1 rfl) ?_
  refine lv_if_lt (tgt := 26) hx hb dX1_setLabel_1 (by decide) (fun h1 => ?_) (fun h1 => ?_)
  · have z2 : pa.toInt < (0 : Int) := lt_z rfl (show (0 : Int32).toInt = (0 : Int) by decide) h1
    exact W.vret hx hb hr (fun t ht9 hW => ⟨⟨v, rfl, ⟨(FC.rf _), ⟨z381, (Or.inl ⟨z2, rfl⟩)⟩, RS.rf⟩, by rw [ht9]; exact hP, hD⟩, hS.F ht9⟩) hS.2.2 dX1_setLabel_26
  · have z3 : (0 : Int) ≤ pa.toInt := nlt_z rfl (show (0 : Int32).toInt = (0 : Int) by decide) h1
    refine lv_iload_n hx hb dX1_setLabel_4 rfl (lv_at hl 1 rfl) ?_
    refine lv_aload_n hx hb dX1_setLabel_5 rfl (lv_at hl 0 rfl) ?_
    refine va_get (D := (dC, dI)) (ci := 5) (fs := oF_X1 ad pr v) (v := .ref (ad 316)) (C := RX1) (T := TX1) (N := 12) hx hb ht itX1 hown hK hP 1 rfl rfl 6 (by decide) (ht _ tw_486) (fun _ h9 => h9) rfl dX1_setLabel_6 ?_
    refine va_alen (D := (dC, dI)) (v := 1500) hx hb hK hP 14 0 rfl rfl rfl dX1_setLabel_9 ?_
    refine lv_icmp_ge (tgt := 26) hx hb dX1_setLabel_10 (by decide) (fun h4 => ?_) (fun h4 => ?_)
    · have z5 : (1500 : Int) ≤ pa.toInt := le_z (show (1500 : Int32).toInt = (1500 : Int) by decide) rfl h4
      exact W.vret hx hb hr (fun t ht9 hW => ⟨⟨v, rfl, ⟨(FC.rf _), ⟨z381, (Or.inr (⟨z3, (Or.inl ⟨z5, rfl⟩)⟩))⟩, RS.rf⟩, by rw [ht9]; exact hP, hD⟩, hS.F ht9⟩) hS.2.2 dX1_setLabel_26
    · have z6 : pa.toInt < (1500 : Int) := nle_z (show (1500 : Int32).toInt = (1500 : Int) by decide) rfl h4
      refine lv_aload_n hx hb dX1_setLabel_13 rfl (lv_at hl 0 rfl) ?_
      refine va_get (D := (dC, dI)) (ci := 5) (fs := oF_X1 ad pr v) (v := .ref (ad 316)) (C := RX1) (T := TX1) (N := 12) hx hb ht itX1 hown hK hP 1 rfl rfl 6 (by decide) (ht _ tw_486) (fun _ h9 => h9) rfl dX1_setLabel_14 ?_
      refine lv_iload_n hx hb dX1_setLabel_17 rfl (lv_at hl 1 rfl) ?_
      refine lv_aload_n hx hb dX1_setLabel_18 rfl (lv_at hl 0 rfl) ?_
      refine va_get (D := (dC, dI)) (ci := 5) (fs := oF_X1 ad pr v) (v := .ref (pr (v.1 0 310))) (C := RX1) (T := TX1) (N := 12) hx hb ht itX1 hown hK hP 1 rfl rfl 0 (by decide) (ht _ tw_463) (fun _ h9 => h9) rfl dX1_setLabel_19 ?_
      refine W.eq (g2 := F0 m 22 ls [.ref (ad 908), .int pa, .ref (ad 316)]) (by rw [show pr (v.1 0 310) = (ad 908) from (by rw [show (v.1 0 310) = ps from es310]; exact hps)]) ?_
      refine va_get (D := (dC, dI)) (ci := 10) (fs := oF_X7 ad pr v) (v := .int (v.1 0 381)) (C := RX7) (T := TX7) (N := 13) hx hb ht itX7 hown hK hP 8 rfl rfl 9 (by decide) (ht _ tw_477) (fun _ h9 => h9) rfl dX1_setLabel_22 ?_
      refine va_iast (D := (dC, dI)) (f := (v.1 316)) hx hb hK hP hD hS 14 0 rfl rfl (in_y (a := pa.toInt) (b := 1500) rfl (om_51058f7f87 z3) (om_3d405d6278 z6) rfl) dX1_setLabel_25 (fun H locs hP hD hS => ?_)
      have hP := cP_ (cq_316 ad pr N cI cR L1 L2 v pa.toNatClampNeg (v.1 0 381)) hP
      have hD := cD_ (cq_316 ad pr N cI cR L1 L2 v pa.toNatClampNeg (v.1 0 381)) hD
      exact W.vret hx hb hr (fun t ht9 hW => ⟨⟨(wA v 316 pa.toNatClampNeg (v.1 0 381)), rfl, ⟨(FC.a (FC.rf _) pa.toNatClampNeg (v.1 0 381) (by decide) (by decide)), ⟨z381, (Or.inr (⟨z3, (Or.inr (⟨z6, rfl⟩))⟩))⟩, (RS.w RS.rf (by decide))⟩, by rw [ht9]; exact hP, hD⟩, hS.F ht9⟩) hS.2.2 dX1_setLabel_26
theorem om_532f2e9eef {x0 : Int} (h0 : (501 : Int) ≤ x0) : -2147483648 ≤ (x0) - (1 : Int) := by omega
theorem om_94f5b41ca4 {x0 : Int} (h0 : 0 ≤ x0 ∧ x0 ≤ 501) (h1 : (501 : Int) ≤ x0) : 0 ≤ x0 ∧ x0 ≤ 501 := by omega
theorem om_d83e5275fc {x0 : Int} (h0 : 0 ≤ x0 ∧ x0 ≤ 501) : 0 ≤ x0 := by omega
theorem om_28cff211f7 {x0 : Int} (h0 : x0 < (501 : Int)) : x0 < 501 := by omega
theorem om_638bbcdeb7 {x0 : Int} (h0 : 0 ≤ x0 ∧ x0 ≤ 501) : -2147483648 ≤ (x0) + (1 : Int) := by omega
theorem om_0863110cad {x0 : Int} (h0 : 0 ≤ x0 ∧ x0 ≤ 501) : (x0) + (1 : Int) < 2147483648 := by omega
theorem om_12774b6c04 {x0 x1 : Int} (h0 : 0 ≤ x0 ∧ x0 ≤ 501) (h1 : x0 < (501 : Int)) (h2 : x1 = (x0) + (1 : Int)) : 0 ≤ x1 ∧ x1 ≤ 501 := by omega
set_option maxHeartbeats 4000000 in
set_option maxRecDepth 100000 in
theorem c_x_X1_addCall (l : Launch) (dC : Nat → ClassId) (dI : Nat → Nat → Nat) (cI cB cZ cJ cR : ClassId) (tb : Nat → Nat) (sz : Nat) (ad : Nat → Nat) (pr : Int32 → Nat) (N : Nat) (L1 L2 : List Nat) (v : MS) (pa : Int32) (pb : Int32) (z321 : 0 ≤ (v.1 0 321).toInt ∧ (v.1 0 321).toInt ≤ 501) : Met l yX1_addCall (Cond.code yX1_addCall cX1_addCall 3 (some .int) :: tw_W) ({ frames := 0, cells := 0, slots := 0, locals := 0 }) (pc_ (dC, dI) (tyS cI cB cZ cJ cR) tb (cW ad pr N cI cR L1 L2 v) sz [.ref (ad 901), .int pa, .int pb]) (qi_ (dC, dI) (cW ad pr N cI cR L1 L2 v) sz (fun (r : Int32) (u : MS) => FC [321] [0, 318, 319, 320] v u ∧ (Q_x_X1_addCall L1 L2 v pa pb r u) ∧ (0 ≤ (u.1 0 321).toInt ∧ (u.1 0 321).toInt ≤ 501) ∧ (RS v u)) (fun (u : MS) => (cW ad pr N cI cR L1 L2 u))) 0 0 (va_A (cW ad pr N cI cR L1 L2 v) sz) := by
  refine Met.ofW (cc := cX1_addCall) (maxL := 3) (ret := (some .int)) (by decide) rfl ?_
  intro p e s m args below meth c s₁ B hml hv
  obtain ⟨rfl, hsz, hP, hKK, hD0, hFx⟩ := hv
  have hK := hKK.1
  have hx := B.exec
  have hb := B.bytes
  have hr := B.returns
  have ht : ∀ w ∈ tw_W, w.before _ s = true := fun w h => atoms_spec (ws := Cond.code yX1_addCall cX1_addCall 3 (some .int) :: tw_W) B.pre w (List.mem_cons_of_mem _ h)
  have hown : s.vm.findClass RX1 = some m.cls := findClass_of_methodNamed B.named
  have hlocks := B.notSynchronized
  subst hsz
  unfold qi_
  have hD := hD0.self (sz := s.heap.size)
  generalize hAe : va_A (cW ad pr N cI cR L1 L2 v) s.heap.size = A at hD hFx ⊢
  have hA : ∀ q : Nat, s.heap.size ≤ q → A q := fun q h => by rw [← hAe]; exact Or.inr h
  have hS : va_S A s.heap s.heap [] := va_S.rf
  have hl := lv_entry ([.ref (ad 901), .int pa, .int pb]) (n := 3) (Nat.le_of_ble_eq_true rfl)
  rw [lg_entry_eq]
  generalize (lg_sl ([.ref (ad 901), .int pa, .int pb]) ++ List.replicate (3 - (lg_sl ([.ref (ad 901), .int pa, .int pb])).length) Slot.unset).toArray = ls at hl ⊢
  have hl : lv_has ls 3 [(0, .ref (ad 901)), (1, .int pa), (2, .int pb)] := hl
  refine lv_aload_n hx hb dX1_addCall_0 rfl (lv_at hl 0 rfl) ?_
  refine va_get (D := (dC, dI)) (ci := 5) (fs := oF_X1 ad pr v) (v := .int (v.1 0 321)) (C := RX1) (T := TX1) (N := 12) hx hb ht itX1 hown hK hP 1 rfl rfl 11 (by decide) (ht _ tw_467) (fun _ h9 => h9) rfl dX1_addCall_1 ?_
  refine lv_sipush (v := 501) hx hb dX1_addCall_4 (by decide) ?_
  refine lv_icmp_ge (tgt := 50) hx hb dX1_addCall_7 (by decide) (fun h1 => ?_) (fun h1 => ?_)
  · have z2 : (501 : Int) ≤ (v.1 0 321).toInt := le_z (show (501 : Int32).toInt = (501 : Int) by decide) rfl h1
    refine lv_aload_n hx hb dX1_addCall_50 rfl (lv_at hl 0 rfl) ?_
    refine va_get (D := (dC, dI)) (ci := 5) (fs := oF_X1 ad pr v) (v := .int (v.1 0 321)) (C := RX1) (T := TX1) (N := 12) hx hb ht itX1 hown hK hP 1 rfl rfl 11 (by decide) (ht _ tw_467) (fun _ h9 => h9) rfl dX1_addCall_51 ?_
    refine lv_iconst (v := 1) hx hb dX1_addCall_54 (by decide) ?_
    refine lv_isub hx hb dX1_addCall_55 ?_
    have z3 : ((v.1 0 321) - (1 : Int32)).toInt = ((v.1 0 321).toInt) - (1 : Int) := sub_z rfl (show (1 : Int32).toInt = (1 : Int) by decide) (om_532f2e9eef z2) (om_0ba1cc77ed z321)
    exact W.iret (v := ((v.1 0 321) - (1 : Int32))) hx hb hr (fun t ht9 hW => ⟨⟨((v.1 0 321) - (1 : Int32)), v, rfl, ⟨(FC.rf _), ⟨z321, (Or.inl ⟨z2, rfl, rfl⟩)⟩, (show 0 ≤ (v.1 0 321).toInt ∧ (v.1 0 321).toInt ≤ 501 from (om_94f5b41ca4 z321 z2)), RS.rf⟩, by rw [ht9]; exact hP, hD⟩, hS.F ht9⟩) hS.2.2 dX1_addCall_56
  · have z4 : (v.1 0 321).toInt < (501 : Int) := nle_z (show (501 : Int32).toInt = (501 : Int) by decide) rfl h1
    refine lv_aload_n hx hb dX1_addCall_10 rfl (lv_at hl 0 rfl) ?_
    refine va_get (D := (dC, dI)) (ci := 5) (fs := oF_X1 ad pr v) (v := .ref (ad 318)) (C := RX1) (T := TX1) (N := 12) hx hb ht itX1 hown hK hP 1 rfl rfl 8 (by decide) (ht _ tw_487) (fun _ h9 => h9) rfl dX1_addCall_11 ?_
    refine lv_aload_n hx hb dX1_addCall_14 rfl (lv_at hl 0 rfl) ?_
    refine va_get (D := (dC, dI)) (ci := 5) (fs := oF_X1 ad pr v) (v := .int (v.1 0 321)) (C := RX1) (T := TX1) (N := 12) hx hb ht itX1 hown hK hP 1 rfl rfl 11 (by decide) (ht _ tw_467) (fun _ h9 => h9) rfl dX1_addCall_15 ?_
    refine lv_iload_n hx hb dX1_addCall_18 rfl (lv_at hl 1 rfl) ?_
    refine va_iast (D := (dC, dI)) (f := (v.1 318)) hx hb hK hP hD hS 15 0 rfl rfl (in_y (a := (v.1 0 321).toInt) (b := 501) rfl (om_d83e5275fc z321) (om_28cff211f7 z4) rfl) dX1_addCall_19 (fun H locs hP hD hS => ?_)
    have hP := cP_ (cq_318 ad pr N cI cR L1 L2 v ((v.1 0 321).toNatClampNeg) pa) hP
    have hD := cD_ (cq_318 ad pr N cI cR L1 L2 v ((v.1 0 321).toNatClampNeg) pa) hD
    refine lv_aload_n hx hb dX1_addCall_20 rfl (lv_at hl 0 rfl) ?_
    refine va_get (D := (dC, dI)) (ci := 5) (fs := oF_X1 ad pr (wA v 318 ((v.1 0 321).toNatClampNeg) pa)) (v := .ref (ad 319)) (C := RX1) (T := TX1) (N := 12) hx hb ht itX1 hown hK hP 1 rfl rfl 9 (by decide) (ht _ tw_488) (fun _ h9 => h9) rfl dX1_addCall_21 ?_
    refine lv_aload_n hx hb dX1_addCall_24 rfl (lv_at hl 0 rfl) ?_
    refine va_get (D := (dC, dI)) (ci := 5) (fs := oF_X1 ad pr (wA v 318 ((v.1 0 321).toNatClampNeg) pa)) (v := .int (v.1 0 321)) (C := RX1) (T := TX1) (N := 12) hx hb ht itX1 hown hK hP 1 rfl rfl 11 (by decide) (ht _ tw_467) (fun _ h9 => h9) rfl dX1_addCall_25 ?_
    refine lv_iload_n hx hb dX1_addCall_28 rfl (lv_at hl 2 rfl) ?_
    refine va_iast (D := (dC, dI)) (f := (v.1 319)) hx hb hK hP hD hS 16 0 rfl rfl (in_y (a := (v.1 0 321).toInt) (b := 501) rfl (om_d83e5275fc z321) (om_28cff211f7 z4) rfl) dX1_addCall_29 (fun H locs hP hD hS => ?_)
    have hP := cP_ (cq_319 ad pr N cI cR L1 L2 (wA v 318 ((v.1 0 321).toNatClampNeg) pa) ((v.1 0 321).toNatClampNeg) pb) hP
    have hD := cD_ (cq_319 ad pr N cI cR L1 L2 (wA v 318 ((v.1 0 321).toNatClampNeg) pa) ((v.1 0 321).toNatClampNeg) pb) hD
    refine lv_aload_n hx hb dX1_addCall_30 rfl (lv_at hl 0 rfl) ?_
    refine va_get (D := (dC, dI)) (ci := 5) (fs := oF_X1 ad pr (wA (wA v 318 ((v.1 0 321).toNatClampNeg) pa) 319 ((v.1 0 321).toNatClampNeg) pb)) (v := .ref (ad 320)) (C := RX1) (T := TX1) (N := 12) hx hb ht itX1 hown hK hP 1 rfl rfl 10 (by decide) (ht _ tw_489) (fun _ h9 => h9) rfl dX1_addCall_31 ?_
    refine lv_aload_n hx hb dX1_addCall_34 rfl (lv_at hl 0 rfl) ?_
    refine va_get (D := (dC, dI)) (ci := 5) (fs := oF_X1 ad pr (wA (wA v 318 ((v.1 0 321).toNatClampNeg) pa) 319 ((v.1 0 321).toNatClampNeg) pb)) (v := .int (v.1 0 321)) (C := RX1) (T := TX1) (N := 12) hx hb ht itX1 hown hK hP 1 rfl rfl 11 (by decide) (ht _ tw_467) (fun _ h9 => h9) rfl dX1_addCall_35 ?_
    refine lv_iconst (v := 0) hx hb dX1_addCall_38 (by decide) ?_
    refine va_iast (D := (dC, dI)) (f := (v.1 320)) hx hb hK hP hD hS 17 0 rfl rfl (in_y (a := (v.1 0 321).toInt) (b := 501) rfl (om_d83e5275fc z321) (om_28cff211f7 z4) rfl) dX1_addCall_39 (fun H locs hP hD hS => ?_)
    have hP := cP_ (cq_320 ad pr N cI cR L1 L2 (wA (wA v 318 ((v.1 0 321).toNatClampNeg) pa) 319 ((v.1 0 321).toNatClampNeg) pb) ((v.1 0 321).toNatClampNeg) 0) hP
    have hD := cD_ (cq_320 ad pr N cI cR L1 L2 (wA (wA v 318 ((v.1 0 321).toNatClampNeg) pa) 319 ((v.1 0 321).toNatClampNeg) pb) ((v.1 0 321).toNatClampNeg) 0) hD
    refine lv_aload_n hx hb dX1_addCall_40 rfl (lv_at hl 0 rfl) ?_
    refine lv_dup hx hb dX1_addCall_41 rfl ?_
    refine va_get (D := (dC, dI)) (ci := 5) (fs := oF_X1 ad pr (wA (wA (wA v 318 ((v.1 0 321).toNatClampNeg) pa) 319 ((v.1 0 321).toNatClampNeg) pb) 320 ((v.1 0 321).toNatClampNeg) 0)) (v := .int (v.1 0 321)) (C := RX1) (T := TX1) (N := 12) hx hb ht itX1 hown hK hP 1 rfl rfl 11 (by decide) (ht _ tw_467) (fun _ h9 => h9) rfl dX1_addCall_42 ?_
    refine lv_iconst (v := 1) hx hb dX1_addCall_45 (by decide) ?_
    refine lv_iadd hx hb dX1_addCall_46 ?_
    have z5 : ((v.1 0 321) + (1 : Int32)).toInt = ((v.1 0 321).toInt) + (1 : Int) := add_z rfl (show (1 : Int32).toInt = (1 : Int) by decide) (om_638bbcdeb7 z321) (om_0863110cad z321)
    refine va_put (D := (dC, dI)) (ci := 5) (fs := oF_X1 ad pr (wA (wA (wA v 318 ((v.1 0 321).toNatClampNeg) pa) 319 ((v.1 0 321).toNatClampNeg) pb) 320 ((v.1 0 321).toNatClampNeg) 0)) (v := .int ((v.1 0 321) + (1 : Int32))) (ty := .int) (C := RX1) (T := TX1) (N := 12) hx hb ht itX1 tyX1 tyX1_ok nmX1 hown hK hP hD hS 1 rfl rfl 11 (by decide) (ht _ tw_467) (fun _ h9 => h9) rfl (by decide +kernel) rfl rfl (Nat.le_of_ble_eq_true rfl) dX1_addCall_47 (fun H locs hP hD hS => ?_)
    have hP := cP_ (cw_321 ad pr N cI cR L1 L2 (wA (wA (wA v 318 ((v.1 0 321).toNatClampNeg) pa) 319 ((v.1 0 321).toNatClampNeg) pb) 320 ((v.1 0 321).toNatClampNeg) 0) ((v.1 0 321) + (1 : Int32))) hP
    have hD := cD_ (cw_321 ad pr N cI cR L1 L2 (wA (wA (wA v 318 ((v.1 0 321).toNatClampNeg) pa) 319 ((v.1 0 321).toNatClampNeg) pb) 320 ((v.1 0 321).toNatClampNeg) 0) ((v.1 0 321) + (1 : Int32))) hD
    refine lv_aload_n hx hb dX1_addCall_50 rfl (lv_at hl 0 rfl) ?_
    refine va_get (D := (dC, dI)) (ci := 5) (fs := oF_X1 ad pr (wA (wA (wA (wA v 318 ((v.1 0 321).toNatClampNeg) pa) 319 ((v.1 0 321).toNatClampNeg) pb) 320 ((v.1 0 321).toNatClampNeg) 0) 0 321 ((v.1 0 321) + (1 : Int32)))) (v := .int ((v.1 0 321) + (1 : Int32))) (C := RX1) (T := TX1) (N := 12) hx hb ht itX1 hown hK hP 1 rfl rfl 11 (by decide) (ht _ tw_467) (fun _ h9 => h9) rfl dX1_addCall_51 ?_
    refine lv_iconst (v := 1) hx hb dX1_addCall_54 (by decide) ?_
    refine lv_isub hx hb dX1_addCall_55 ?_
    refine tp_i (y := (v.1 0 321)) (as1_ _) ?_
    exact W.iret (v := (v.1 0 321)) hx hb hr (fun t ht9 hW => ⟨⟨(v.1 0 321), (wA (wA (wA (wA v 318 ((v.1 0 321).toNatClampNeg) pa) 319 ((v.1 0 321).toNatClampNeg) pb) 320 ((v.1 0 321).toNatClampNeg) 0) 0 321 ((v.1 0 321) + (1 : Int32))), rfl, ⟨(FC.f (FC.a (FC.a (FC.a (FC.rf _) ((v.1 0 321).toNatClampNeg) pa (by decide) (by decide)) ((v.1 0 321).toNatClampNeg) pb (by decide) (by decide)) ((v.1 0 321).toNatClampNeg) 0 (by decide) (by decide)) ((v.1 0 321) + (1 : Int32)) (by decide)), ⟨z321, (Or.inr (⟨z4, rfl, rfl⟩))⟩, (show 0 ≤ ((v.1 0 321) + (1 : Int32)).toInt ∧ ((v.1 0 321) + (1 : Int32)).toInt ≤ 501 from (om_12774b6c04 z321 z4 z5)), (RS.w0 (RS.w (RS.w (RS.w RS.rf (by decide)) (by decide)) (by decide)) (by decide))⟩, by rw [ht9]; exact hP, hD⟩, hS.F ht9⟩) hS.2.2 dX1_addCall_56
set_option maxHeartbeats 4000000 in
set_option maxRecDepth 100000 in
theorem c_x_X1_addArgument (l : Launch) (dC : Nat → ClassId) (dI : Nat → Nat → Nat) (cI cB cZ cJ cR : ClassId) (tb : Nat → Nat) (sz : Nat) (ad : Nat → Nat) (pr : Int32 → Nat) (N : Nat) (L1 L2 : List Nat) (v : MS) (pa : Int32)  : Met l yX1_addArgument (Cond.code yX1_addArgument cX1_addArgument 2 none :: tw_W) ({ frames := 0, cells := 0, slots := 0, locals := 0 }) (pc_ (dC, dI) (tyS cI cB cZ cJ cR) tb (cW ad pr N cI cR L1 L2 v) sz [.ref (ad 901), .int pa]) (qv_ (dC, dI) (cW ad pr N cI cR L1 L2 v) sz (fun (u : MS) => FC [] [320] v u ∧ (Q_x_X1_addArgument L1 L2 v pa u) ∧ (RS v u)) (fun (u : MS) => (cW ad pr N cI cR L1 L2 u))) 0 0 (va_A (cW ad pr N cI cR L1 L2 v) sz) := by
  refine Met.ofW (cc := cX1_addArgument) (maxL := 2) (ret := none) (by decide) rfl ?_
  intro p e s m args below meth c s₁ B hml hv
  obtain ⟨rfl, hsz, hP, hKK, hD0, hFx⟩ := hv
  have hK := hKK.1
  have hx := B.exec
  have hb := B.bytes
  have hr := B.returns
  have ht : ∀ w ∈ tw_W, w.before _ s = true := fun w h => atoms_spec (ws := Cond.code yX1_addArgument cX1_addArgument 2 none :: tw_W) B.pre w (List.mem_cons_of_mem _ h)
  have hown : s.vm.findClass RX1 = some m.cls := findClass_of_methodNamed B.named
  have hlocks := B.notSynchronized
  subst hsz
  unfold qv_
  have hD := hD0.self (sz := s.heap.size)
  generalize hAe : va_A (cW ad pr N cI cR L1 L2 v) s.heap.size = A at hD hFx ⊢
  have hA : ∀ q : Nat, s.heap.size ≤ q → A q := fun q h => by rw [← hAe]; exact Or.inr h
  have hS : va_S A s.heap s.heap [] := va_S.rf
  have hl := lv_entry ([.ref (ad 901), .int pa]) (n := 2) (Nat.le_of_ble_eq_true rfl)
  rw [lg_entry_eq]
  generalize (lg_sl ([.ref (ad 901), .int pa]) ++ List.replicate (2 - (lg_sl ([.ref (ad 901), .int pa])).length) Slot.unset).toArray = ls at hl ⊢
  have hl : lv_has ls 2 [(0, .ref (ad 901)), (1, .int pa)] := hl
  refine lv_iload_n hx hb dX1_addArgument_0 rfl (lv_at hl 1 rfl) ?_
  refine lv_if_lt (tgt := 21) hx hb dX1_addArgument_1 (by decide) (fun h1 => ?_) (fun h1 => ?_)
  · have z2 : pa.toInt < (0 : Int) := lt_z rfl (show (0 : Int32).toInt = (0 : Int) by decide) h1
    exact W.vret hx hb hr (fun t ht9 hW => ⟨⟨v, rfl, ⟨(FC.rf _), (Or.inl ⟨z2, rfl⟩), RS.rf⟩, by rw [ht9]; exact hP, hD⟩, hS.F ht9⟩) hS.2.2 dX1_addArgument_21
  · have z3 : (0 : Int) ≤ pa.toInt := nlt_z rfl (show (0 : Int32).toInt = (0 : Int) by decide) h1
    refine lv_iload_n hx hb dX1_addArgument_4 rfl (lv_at hl 1 rfl) ?_
    refine lv_sipush (v := 501) hx hb dX1_addArgument_5 (by decide) ?_
    refine lv_icmp_ge (tgt := 21) hx hb dX1_addArgument_8 (by decide) (fun h4 => ?_) (fun h4 => ?_)
    · have z5 : (501 : Int) ≤ pa.toInt := le_z (show (501 : Int32).toInt = (501 : Int) by decide) rfl h4
      exact W.vret hx hb hr (fun t ht9 hW => ⟨⟨v, rfl, ⟨(FC.rf _), (Or.inr (⟨z3, (Or.inl ⟨z5, rfl⟩)⟩)), RS.rf⟩, by rw [ht9]; exact hP, hD⟩, hS.F ht9⟩) hS.2.2 dX1_addArgument_21
    · have z6 : pa.toInt < (501 : Int) := nle_z (show (501 : Int32).toInt = (501 : Int) by decide) rfl h4
      refine lv_aload_n hx hb dX1_addArgument_11 rfl (lv_at hl 0 rfl) ?_
      refine va_get (D := (dC, dI)) (ci := 5) (fs := oF_X1 ad pr v) (v := .ref (ad 320)) (C := RX1) (T := TX1) (N := 12) hx hb ht itX1 hown hK hP 1 rfl rfl 10 (by decide) (ht _ tw_489) (fun _ h9 => h9) rfl dX1_addArgument_12 ?_
      refine lv_iload_n hx hb dX1_addArgument_15 rfl (lv_at hl 1 rfl) ?_
      refine lv_dup2_11 hx hb dX1_addArgument_16 rfl rfl ?_
      refine va_iald (D := (dC, dI)) (f := (v.1 320)) hx hb hK hP 17 0 rfl rfl (in_y (a := pa.toInt) (b := 501) rfl (om_51058f7f87 z3) (om_28cff211f7 z6) rfl) dX1_addArgument_17 ?_
      refine lv_iconst (v := 1) hx hb dX1_addArgument_18 (by decide) ?_
      refine lv_iadd hx hb dX1_addArgument_19 ?_
      refine va_iast (D := (dC, dI)) (f := (v.1 320)) hx hb hK hP hD hS 17 0 rfl rfl (in_y (a := pa.toInt) (b := 501) rfl (om_51058f7f87 z3) (om_28cff211f7 z6) rfl) dX1_addArgument_20 (fun H locs hP hD hS => ?_)
      have hP := cP_ (cq_320 ad pr N cI cR L1 L2 v pa.toNatClampNeg (((v.1 320) pa.toNatClampNeg) + (1 : Int32))) hP
      have hD := cD_ (cq_320 ad pr N cI cR L1 L2 v pa.toNatClampNeg (((v.1 320) pa.toNatClampNeg) + (1 : Int32))) hD
      exact W.vret hx hb hr (fun t ht9 hW => ⟨⟨(wA v 320 pa.toNatClampNeg (((v.1 320) pa.toNatClampNeg) + (1 : Int32))), rfl, ⟨(FC.a (FC.rf _) pa.toNatClampNeg (((v.1 320) pa.toNatClampNeg) + (1 : Int32)) (by decide) (by decide)), (Or.inr (⟨z3, (Or.inr (⟨z6, rfl⟩))⟩)), (RS.w RS.rf (by decide))⟩, by rw [ht9]; exact hP, hD⟩, hS.F ht9⟩) hS.2.2 dX1_addArgument_21
theorem om_73a6665527 {x0 x1 : Int} (h0 : 0 ≤ x0 ∧ x0 ≤ 501) (h1 : x1 < x0) : x1 < 501 := by omega
set_option maxHeartbeats 4000000 in
set_option maxRecDepth 100000 in
theorem c_x_X1_functionOfCall (l : Launch) (dC : Nat → ClassId) (dI : Nat → Nat → Nat) (cI cB cZ cJ cR : ClassId) (tb : Nat → Nat) (sz : Nat) (ad : Nat → Nat) (pr : Int32 → Nat) (N : Nat) (L1 L2 : List Nat) (v : MS) (pa : Int32) (ps : Int32) (z321 : 0 ≤ (v.1 0 321).toInt ∧ (v.1 0 321).toInt ≤ 501) (hL1 : L1.length = 40) (hL2 : L2.length = 60) (rp : RP v) (hps : pr ps = ad 908) (es310 : (v.1 0 310) = ps) : Met l yX1_functionOfCall (Cond.code yX1_functionOfCall cX1_functionOfCall 2 (some .int) :: tw_W) ({ frames := 2, cells := 0, slots := 0, locals := 44 }) (pc_ (dC, dI) (tyS cI cB cZ cJ cR) tb (cW ad pr N cI cR L1 L2 v) sz [.ref (ad 901), .int pa]) (qi_ (dC, dI) (cW ad pr N cI cR L1 L2 v) sz (fun (r : Int32) (u : MS) => v = u ∧ (Q_x_X1_functionOfCall L1 L2 v pa r)) (fun (u : MS) => (cW ad pr N cI cR L1 L2 u))) 0 0 (va_A (cW ad pr N cI cR L1 L2 v) sz) := by
  refine Met.ofW (cc := cX1_functionOfCall) (maxL := 2) (ret := (some .int)) (by decide) rfl ?_
  intro p e s m args below meth c s₁ B hml hv
  obtain ⟨rfl, hsz, hP, hKK, hD0, hFx⟩ := hv
  have hK := hKK.1
  have hx := B.exec
  have hb := B.bytes
  have hr := B.returns
  have ht : ∀ w ∈ tw_W, w.before _ s = true := fun w h => atoms_spec (ws := Cond.code yX1_functionOfCall cX1_functionOfCall 2 (some .int) :: tw_W) B.pre w (List.mem_cons_of_mem _ h)
  have hown : s.vm.findClass RX1 = some m.cls := findClass_of_methodNamed B.named
  have hlocks := B.notSynchronized
  subst hsz
  unfold qi_
  have hD := hD0.self (sz := s.heap.size)
  generalize hAe : va_A (cW ad pr N cI cR L1 L2 v) s.heap.size = A at hD hFx ⊢
  have hA : ∀ q : Nat, s.heap.size ≤ q → A q := fun q h => by rw [← hAe]; exact Or.inr h
  have hS : va_S A s.heap s.heap [] := va_S.rf
  have hl := lv_entry ([.ref (ad 901), .int pa]) (n := 2) (Nat.le_of_ble_eq_true rfl)
  rw [lg_entry_eq]
  generalize (lg_sl ([.ref (ad 901), .int pa]) ++ List.replicate (2 - (lg_sl ([.ref (ad 901), .int pa])).length) Slot.unset).toArray = ls at hl ⊢
  have hl : lv_has ls 2 [(0, .ref (ad 901)), (1, .int pa)] := hl
  refine lv_iload_n hx hb dX1_functionOfCall_0 rfl (lv_at hl 1 rfl) ?_
  refine lv_if_lt (tgt := 28) hx hb dX1_functionOfCall_1 (by decide) (fun h1 => ?_) (fun h1 => ?_)
  · have z2 : pa.toInt < (0 : Int) := lt_z rfl (show (0 : Int32).toInt = (0 : Int) by decide) h1
    refine lv_iconst (v := -1) hx hb dX1_functionOfCall_28 (by decide) ?_
    exact W.iret (v := (-1)) hx hb hr (fun t ht9 hW => ⟨⟨(-1), v, rfl, ⟨rfl, ⟨z321, (Or.inl ⟨z2, rfl⟩)⟩⟩, by rw [ht9]; exact hP, hD⟩, hS.F ht9⟩) hS.2.2 dX1_functionOfCall_29
  · have z3 : (0 : Int) ≤ pa.toInt := nlt_z rfl (show (0 : Int32).toInt = (0 : Int) by decide) h1
    refine lv_iload_n hx hb dX1_functionOfCall_4 rfl (lv_at hl 1 rfl) ?_
    refine lv_aload_n hx hb dX1_functionOfCall_5 rfl (lv_at hl 0 rfl) ?_
    refine va_get (D := (dC, dI)) (ci := 5) (fs := oF_X1 ad pr v) (v := .int (v.1 0 321)) (C := RX1) (T := TX1) (N := 12) hx hb ht itX1 hown hK hP 1 rfl rfl 11 (by decide) (ht _ tw_467) (fun _ h9 => h9) rfl dX1_functionOfCall_6 ?_
    refine lv_icmp_ge (tgt := 28) hx hb dX1_functionOfCall_9 (by decide) (fun h4 => ?_) (fun h4 => ?_)
    · have z5 : (v.1 0 321).toInt ≤ pa.toInt := le_z rfl rfl h4
      refine lv_iconst (v := -1) hx hb dX1_functionOfCall_28 (by decide) ?_
      exact W.iret (v := (-1)) hx hb hr (fun t ht9 hW => ⟨⟨(-1), v, rfl, ⟨rfl, ⟨z321, (Or.inr (⟨z3, (Or.inl ⟨z5, rfl⟩)⟩))⟩⟩, by rw [ht9]; exact hP, hD⟩, hS.F ht9⟩) hS.2.2 dX1_functionOfCall_29
    · have z6 : pa.toInt < (v.1 0 321).toInt := nle_z rfl rfl h4
      refine lv_aload_n hx hb dX1_functionOfCall_12 rfl (lv_at hl 0 rfl) ?_
      refine va_get (D := (dC, dI)) (ci := 5) (fs := oF_X1 ad pr v) (v := .ref (pr (v.1 0 310))) (C := RX1) (T := TX1) (N := 12) hx hb ht itX1 hown hK hP 1 rfl rfl 0 (by decide) (ht _ tw_463) (fun _ h9 => h9) rfl dX1_functionOfCall_13 ?_
      refine lv_aload_n hx hb dX1_functionOfCall_16 rfl (lv_at hl 0 rfl) ?_
      refine va_get (D := (dC, dI)) (ci := 5) (fs := oF_X1 ad pr v) (v := .ref (ad 318)) (C := RX1) (T := TX1) (N := 12) hx hb ht itX1 hown hK hP 1 rfl rfl 8 (by decide) (ht _ tw_487) (fun _ h9 => h9) rfl dX1_functionOfCall_17 ?_
      refine lv_iload_n hx hb dX1_functionOfCall_20 rfl (lv_at hl 1 rfl) ?_
      refine va_iald (D := (dC, dI)) (f := (v.1 318)) hx hb hK hP 15 0 rfl rfl (in_y (a := pa.toInt) (b := 501) rfl (om_51058f7f87 z3) (om_73a6665527 z321 z6) rfl) dX1_functionOfCall_21 ?_
      refine W.eq (g2 := F0 m 22 ls [.int ((v.1 318) pa.toNatClampNeg), .ref (ad 908)]) (by rw [show pr (v.1 0 310) = (ad 908) from (by rw [show (v.1 0 310) = ps from es310]; exact hps)]) ?_
      refine cu_i (rn_Vk (n := 1) (As := [.int ((v.1 318) pa.toNatClampNeg)]) (rest := []) hx hb hml hown ht hKK hFx hP hD hS hA (c_x_X7_functionNamed l dC dI cI cB cZ cJ cR tb s.heap.size ad pr N L1 L2 v ((v.1 318) pa.toNatClampNeg) (show L1.length = 40 from hL1) (show L2.length = 60 from hL2) (show RP v from rp)) tw_490 tw_491 (by decide +kernel) rfl rfl ⟨Nat.le_of_ble_eq_true rfl, Nat.le_of_ble_eq_true rfl⟩ (List.range (cW ad pr N cI cR L1 L2 v).length) (rg_map _) (nd_range _) 8 rfl rfl rfl rfl hl.1 rfl (Nat.le_of_ble_eq_true rfl) dX1_functionOfCall_22 ⟨Nat.le_of_ble_eq_true rfl, Nat.le_of_ble_eq_true rfl⟩) hP hD hS hA (fun r9 u8 H locs hw7 hP hD hS => ?_)
      obtain ⟨rfl, ex7⟩ := hw7
      refine W.widen (k := 0) (n := 0) (Nat.le_refl _) (Nat.le_refl _) ?_
      refine lv_goto (tgt := 29) hx hb dX1_functionOfCall_25 (by decide) ?_
      exact W.iret (v := r9) hx hb hr (fun t ht9 hW => ⟨⟨r9, v, rfl, ⟨rfl, ⟨z321, (Or.inr (⟨z3, (Or.inr (⟨z6, r9, ex7, rfl⟩))⟩))⟩⟩, by rw [ht9]; exact hP, hD⟩, hS.F ht9⟩) hS.2.2 dX1_functionOfCall_29
theorem om_e1d35f5faf {x0 : Int} (h0 : 0 ≤ x0 ∧ x0 ≤ 501) : 0 ≤ x0 ∧ x0 ≤ 501 := by omega
set_option maxHeartbeats 4000000 in
set_option maxRecDepth 100000 in
theorem c_x_X1_hasItsArguments (l : Launch) (dC : Nat → ClassId) (dI : Nat → Nat → Nat) (cI cB cZ cJ cR : ClassId) (tb : Nat → Nat) (sz : Nat) (ad : Nat → Nat) (pr : Int32 → Nat) (N : Nat) (L1 L2 : List Nat) (v : MS) (pa : Int32) (ps : Int32) (z321 : 0 ≤ (v.1 0 321).toInt ∧ (v.1 0 321).toInt ≤ 501) (hL1 : L1.length = 40) (hL2 : L2.length = 60) (rp : RP v) (hps : pr ps = ad 908) (es310 : (v.1 0 310) = ps) : Met l yX1_hasItsArguments (Cond.code yX1_hasItsArguments cX1_hasItsArguments 3 (some .boolean) :: tw_W) ({ frames := 3, cells := 0, slots := 0, locals := 65 }) (pc_ (dC, dI) (tyS cI cB cZ cJ cR) tb (cW ad pr N cI cR L1 L2 v) sz [.ref (ad 901), .int pa]) (qi_ (dC, dI) (cW ad pr N cI cR L1 L2 v) sz (fun (r : Int32) (u : MS) => v = u ∧ (Q_x_X1_hasItsArguments L1 L2 v pa r) ∧ (r = 0 ∨ r = 1) ∧ (0 ≤ r.toInt ∧ r.toInt ≤ 1)) (fun (u : MS) => (cW ad pr N cI cR L1 L2 u))) 0 0 (va_A (cW ad pr N cI cR L1 L2 v) sz) := by
  refine Met.ofW (cc := cX1_hasItsArguments) (maxL := 3) (ret := (some .boolean)) (by decide) rfl ?_
  intro p e s m args below meth c s₁ B hml hv
  obtain ⟨rfl, hsz, hP, hKK, hD0, hFx⟩ := hv
  have hK := hKK.1
  have hx := B.exec
  have hb := B.bytes
  have hr := B.returns
  have ht : ∀ w ∈ tw_W, w.before _ s = true := fun w h => atoms_spec (ws := Cond.code yX1_hasItsArguments cX1_hasItsArguments 3 (some .boolean) :: tw_W) B.pre w (List.mem_cons_of_mem _ h)
  have hown : s.vm.findClass RX1 = some m.cls := findClass_of_methodNamed B.named
  have hlocks := B.notSynchronized
  subst hsz
  unfold qi_
  have hD := hD0.self (sz := s.heap.size)
  generalize hAe : va_A (cW ad pr N cI cR L1 L2 v) s.heap.size = A at hD hFx ⊢
  have hA : ∀ q : Nat, s.heap.size ≤ q → A q := fun q h => by rw [← hAe]; exact Or.inr h
  have hS : va_S A s.heap s.heap [] := va_S.rf
  have hl := lv_entry ([.ref (ad 901), .int pa]) (n := 3) (Nat.le_of_ble_eq_true rfl)
  rw [lg_entry_eq]
  generalize (lg_sl ([.ref (ad 901), .int pa]) ++ List.replicate (3 - (lg_sl ([.ref (ad 901), .int pa])).length) Slot.unset).toArray = ls at hl ⊢
  have hl : lv_has ls 3 [(0, .ref (ad 901)), (1, .int pa)] := hl
  refine lv_aload_n hx hb dX1_hasItsArguments_0 rfl (lv_at hl 0 rfl) ?_
  refine va_get (D := (dC, dI)) (ci := 5) (fs := oF_X1 ad pr v) (v := .ref (pr (v.1 0 310))) (C := RX1) (T := TX1) (N := 12) hx hb ht itX1 hown hK hP 1 rfl rfl 0 (by decide) (ht _ tw_463) (fun _ h9 => h9) rfl dX1_hasItsArguments_1 ?_
  refine lv_aload_n hx hb dX1_hasItsArguments_4 rfl (lv_at hl 0 rfl) ?_
  refine lv_iload_n hx hb dX1_hasItsArguments_5 rfl (lv_at hl 1 rfl) ?_
  refine cu_i (rn_Vk (n := 1) (As := [.int pa]) (rest := [.ref (pr (v.1 0 310))]) hx hb hml hown ht hKK hFx hP hD hS hA (c_x_X1_functionOfCall l dC dI cI cB cZ cJ cR tb s.heap.size ad pr N L1 L2 v pa ps (show 0 ≤ (v.1 0 321).toInt ∧ (v.1 0 321).toInt ≤ 501 from (om_e1d35f5faf z321)) (show L1.length = 40 from hL1) (show L2.length = 60 from hL2) (show RP v from rp) (show pr ps = ad 908 from hps) (show (v.1 0 310) = ps from es310)) tw_492 tw_493 (by decide +kernel) rfl rfl ⟨Nat.le_of_ble_eq_true rfl, Nat.le_of_ble_eq_true rfl⟩ (List.range (cW ad pr N cI cR L1 L2 v).length) (rg_map _) (nd_range _) 1 rfl rfl rfl rfl hl.1 rfl (Nat.le_of_ble_eq_true rfl) dX1_hasItsArguments_6 ⟨Nat.le_of_ble_eq_true rfl, Nat.le_of_ble_eq_true rfl⟩) hP hD hS hA (fun r3 u2 H locs hw1 hP hD hS => ?_)
  obtain ⟨rfl, ex1⟩ := hw1
  refine W.widen (k := 0) (n := 0) (Nat.le_refl _) (Nat.le_refl _) ?_
  refine lv_iconst (v := 0) hx hb dX1_hasItsArguments_9 (by decide) ?_
  refine W.eq (g2 := F0 m 10 ls [.int 0, .int r3, .ref (ad 908)]) (by rw [show pr (v.1 0 310) = (ad 908) from (by rw [show (v.1 0 310) = ps from es310]; exact hps)]) ?_
  refine cu_i (rn_Vk (n := 2) (As := [.int r3, .int 0]) (rest := []) hx hb hml hown ht hKK hFx hP hD hS hA (c_x_X7_functionFact l dC dI cI cB cZ cJ cR tb H.size ad pr N L1 L2 v r3 (0 : Int32) (show L1.length = 40 from hL1) (show L2.length = 60 from hL2) (show RP v from rp)) tw_398 tw_494 (by decide +kernel) rfl rfl ⟨Nat.le_of_ble_eq_true rfl, Nat.le_of_ble_eq_true rfl⟩ (List.range (cW ad pr N cI cR L1 L2 v).length) (rg_map _) (nd_range _) 8 rfl rfl rfl rfl hl.1 rfl (Nat.le_of_ble_eq_true rfl) dX1_hasItsArguments_10 ⟨Nat.le_of_ble_eq_true rfl, Nat.le_of_ble_eq_true rfl⟩) hP hD hS hA (fun r6 u5 H locs hw4 hP hD hS => ?_)
  obtain ⟨rfl, ex4, c4, d4⟩ := hw4
  have c4 : ((0 : Int) ≠ 0 ∨ r6.toInt ≤ 1000) := c4
  refine W.widen (k := 0) (n := 0) (Nat.le_refl _) (Nat.le_refl _) ?_
  refine lv_istore_n (lv' := [(2, .int r6), (0, .ref (ad 901)), (1, .int pa)]) hx hb dX1_hasItsArguments_13 rfl hl (by decide) rfl (fun ls hl => ?_)
  refine lv_iload_n hx hb dX1_hasItsArguments_14 rfl (lv_at hl 2 rfl) ?_
  refine lv_if_lt (tgt := 40) hx hb dX1_hasItsArguments_15 (by decide) (fun h7 => ?_) (fun h7 => ?_)
  · have z8 : pa.toInt < (0 : Int) := lt_z rfl (show (0 : Int32).toInt = (0 : Int) by decide) h7
    refine lv_iconst (v := 0) hx hb dX1_hasItsArguments_40 (by decide) ?_
    exact W.zret (v := 0) hx hb hr rfl (fun t ht9 hW => ⟨⟨0, v, rfl, ⟨rfl, ⟨z321, r3, ex1, r6, ex4, ⟨c4, d4⟩, (Or.inl ⟨z8, rfl⟩)⟩, ⟨Or.inl rfl, (by decide)⟩⟩, by rw [ht9]; exact hP, hD⟩, hS.F ht9⟩) hS.2.2 dX1_hasItsArguments_41
  · have z9 : (0 : Int) ≤ pa.toInt := nlt_z rfl (show (0 : Int32).toInt = (0 : Int) by decide) h7
    refine lv_iload_n hx hb dX1_hasItsArguments_18 rfl (lv_at hl 2 rfl) ?_
    refine lv_aload_n hx hb dX1_hasItsArguments_19 rfl (lv_at hl 1 rfl) ?_
    refine va_get (D := (dC, dI)) (ci := 5) (fs := oF_X1 ad pr v) (v := .int (v.1 0 321)) (C := RX1) (T := TX1) (N := 12) hx hb ht itX1 hown hK hP 1 rfl rfl 11 (by decide) (ht _ tw_467) (fun _ h9 => h9) rfl dX1_hasItsArguments_20 ?_
    refine lv_icmp_ge (tgt := 40) hx hb dX1_hasItsArguments_23 (by decide) (fun h10 => ?_) (fun h10 => ?_)
    · have z11 : (v.1 0 321).toInt ≤ pa.toInt := le_z rfl rfl h10
      refine lv_iconst (v := 0) hx hb dX1_hasItsArguments_40 (by decide) ?_
      exact W.zret (v := 0) hx hb hr rfl (fun t ht9 hW => ⟨⟨0, v, rfl, ⟨rfl, ⟨z321, r3, ex1, r6, ex4, ⟨c4, d4⟩, (Or.inr (⟨z9, (Or.inl ⟨z11, rfl⟩)⟩))⟩, ⟨Or.inl rfl, (by decide)⟩⟩, by rw [ht9]; exact hP, hD⟩, hS.F ht9⟩) hS.2.2 dX1_hasItsArguments_41
    · have z12 : pa.toInt < (v.1 0 321).toInt := nle_z rfl rfl h10
      refine lv_aload_n hx hb dX1_hasItsArguments_26 rfl (lv_at hl 1 rfl) ?_
      refine va_get (D := (dC, dI)) (ci := 5) (fs := oF_X1 ad pr v) (v := .ref (ad 320)) (C := RX1) (T := TX1) (N := 12) hx hb ht itX1 hown hK hP 1 rfl rfl 10 (by decide) (ht _ tw_489) (fun _ h9 => h9) rfl dX1_hasItsArguments_27 ?_
      refine lv_iload_n hx hb dX1_hasItsArguments_30 rfl (lv_at hl 2 rfl) ?_
      refine va_iald (D := (dC, dI)) (f := (v.1 320)) hx hb hK hP 17 0 rfl rfl (in_y (a := pa.toInt) (b := 501) rfl (om_51058f7f87 z9) (om_73a6665527 z321 z12) rfl) dX1_hasItsArguments_31 ?_
      refine lv_iload_n hx hb dX1_hasItsArguments_32 rfl (lv_at hl 0 rfl) ?_
      refine lv_icmp_ne (tgt := 40) hx hb dX1_hasItsArguments_33 (by decide) (fun h13 => ?_) (fun h13 => ?_)
      · have z14 : ((v.1 320) pa.toNatClampNeg).toInt ≠ r6.toInt := ne_z rfl rfl h13
        refine lv_iconst (v := 0) hx hb dX1_hasItsArguments_40 (by decide) ?_
        exact W.zret (v := 0) hx hb hr rfl (fun t ht9 hW => ⟨⟨0, v, rfl, ⟨rfl, ⟨z321, r3, ex1, r6, ex4, ⟨c4, d4⟩, (Or.inr (⟨z9, (Or.inr (⟨z12, (Or.inl ⟨z14, rfl⟩)⟩))⟩))⟩, ⟨Or.inl rfl, (by decide)⟩⟩, by rw [ht9]; exact hP, hD⟩, hS.F ht9⟩) hS.2.2 dX1_hasItsArguments_41
      · have z15 : ((v.1 320) pa.toNatClampNeg).toInt = r6.toInt := eq_z rfl rfl h13
        refine lv_iconst (v := 1) hx hb dX1_hasItsArguments_36 (by decide) ?_
        refine lv_goto (tgt := 41) hx hb dX1_hasItsArguments_37 (by decide) ?_
        exact W.zret (v := 1) hx hb hr rfl (fun t ht9 hW => ⟨⟨1, v, rfl, ⟨rfl, ⟨z321, r3, ex1, r6, ex4, ⟨c4, d4⟩, (Or.inr (⟨z9, (Or.inr (⟨z12, (Or.inr (⟨z15, rfl⟩))⟩))⟩))⟩, ⟨Or.inr rfl, (by decide)⟩⟩, by rw [ht9]; exact hP, hD⟩, hS.F ht9⟩) hS.2.2 dX1_hasItsArguments_41
set_option maxHeartbeats 4000000 in
set_option maxRecDepth 100000 in
theorem c_x_X1_placeOfCall (l : Launch) (dC : Nat → ClassId) (dI : Nat → Nat → Nat) (cI cB cZ cJ cR : ClassId) (tb : Nat → Nat) (sz : Nat) (ad : Nat → Nat) (pr : Int32 → Nat) (N : Nat) (L1 L2 : List Nat) (v : MS) (pa : Int32) (z321 : 0 ≤ (v.1 0 321).toInt ∧ (v.1 0 321).toInt ≤ 501) : Met l yX1_placeOfCall (Cond.code yX1_placeOfCall cX1_placeOfCall 2 (some .int) :: tw_W) ({ frames := 0, cells := 0, slots := 0, locals := 0 }) (pc_ (dC, dI) (tyS cI cB cZ cJ cR) tb (cW ad pr N cI cR L1 L2 v) sz [.ref (ad 901), .int pa]) (qi_ (dC, dI) (cW ad pr N cI cR L1 L2 v) sz (fun (r : Int32) (u : MS) => v = u ∧ (Q_x_X1_placeOfCall L1 L2 v pa r)) (fun (u : MS) => (cW ad pr N cI cR L1 L2 u))) 0 0 (va_A (cW ad pr N cI cR L1 L2 v) sz) := by
  refine Met.ofW (cc := cX1_placeOfCall) (maxL := 2) (ret := (some .int)) (by decide) rfl ?_
  intro p e s m args below meth c s₁ B hml hv
  obtain ⟨rfl, hsz, hP, hKK, hD0, hFx⟩ := hv
  have hK := hKK.1
  have hx := B.exec
  have hb := B.bytes
  have hr := B.returns
  have ht : ∀ w ∈ tw_W, w.before _ s = true := fun w h => atoms_spec (ws := Cond.code yX1_placeOfCall cX1_placeOfCall 2 (some .int) :: tw_W) B.pre w (List.mem_cons_of_mem _ h)
  have hown : s.vm.findClass RX1 = some m.cls := findClass_of_methodNamed B.named
  have hlocks := B.notSynchronized
  subst hsz
  unfold qi_
  have hD := hD0.self (sz := s.heap.size)
  generalize hAe : va_A (cW ad pr N cI cR L1 L2 v) s.heap.size = A at hD hFx ⊢
  have hA : ∀ q : Nat, s.heap.size ≤ q → A q := fun q h => by rw [← hAe]; exact Or.inr h
  have hS : va_S A s.heap s.heap [] := va_S.rf
  have hl := lv_entry ([.ref (ad 901), .int pa]) (n := 2) (Nat.le_of_ble_eq_true rfl)
  rw [lg_entry_eq]
  generalize (lg_sl ([.ref (ad 901), .int pa]) ++ List.replicate (2 - (lg_sl ([.ref (ad 901), .int pa])).length) Slot.unset).toArray = ls at hl ⊢
  have hl : lv_has ls 2 [(0, .ref (ad 901)), (1, .int pa)] := hl
  refine lv_iload_n hx hb dX1_placeOfCall_0 rfl (lv_at hl 1 rfl) ?_
  refine lv_if_lt (tgt := 21) hx hb dX1_placeOfCall_1 (by decide) (fun h1 => ?_) (fun h1 => ?_)
  · have z2 : pa.toInt < (0 : Int) := lt_z rfl (show (0 : Int32).toInt = (0 : Int) by decide) h1
    refine lv_iconst (v := -1) hx hb dX1_placeOfCall_21 (by decide) ?_
    exact W.iret (v := (-1)) hx hb hr (fun t ht9 hW => ⟨⟨(-1), v, rfl, ⟨rfl, ⟨z321, (Or.inl ⟨z2, rfl⟩)⟩⟩, by rw [ht9]; exact hP, hD⟩, hS.F ht9⟩) hS.2.2 dX1_placeOfCall_22
  · have z3 : (0 : Int) ≤ pa.toInt := nlt_z rfl (show (0 : Int32).toInt = (0 : Int) by decide) h1
    refine lv_iload_n hx hb dX1_placeOfCall_4 rfl (lv_at hl 1 rfl) ?_
    refine lv_aload_n hx hb dX1_placeOfCall_5 rfl (lv_at hl 0 rfl) ?_
    refine va_get (D := (dC, dI)) (ci := 5) (fs := oF_X1 ad pr v) (v := .int (v.1 0 321)) (C := RX1) (T := TX1) (N := 12) hx hb ht itX1 hown hK hP 1 rfl rfl 11 (by decide) (ht _ tw_467) (fun _ h9 => h9) rfl dX1_placeOfCall_6 ?_
    refine lv_icmp_ge (tgt := 21) hx hb dX1_placeOfCall_9 (by decide) (fun h4 => ?_) (fun h4 => ?_)
    · have z5 : (v.1 0 321).toInt ≤ pa.toInt := le_z rfl rfl h4
      refine lv_iconst (v := -1) hx hb dX1_placeOfCall_21 (by decide) ?_
      exact W.iret (v := (-1)) hx hb hr (fun t ht9 hW => ⟨⟨(-1), v, rfl, ⟨rfl, ⟨z321, (Or.inr (⟨z3, (Or.inl ⟨z5, rfl⟩)⟩))⟩⟩, by rw [ht9]; exact hP, hD⟩, hS.F ht9⟩) hS.2.2 dX1_placeOfCall_22
    · have z6 : pa.toInt < (v.1 0 321).toInt := nle_z rfl rfl h4
      refine lv_aload_n hx hb dX1_placeOfCall_12 rfl (lv_at hl 0 rfl) ?_
      refine va_get (D := (dC, dI)) (ci := 5) (fs := oF_X1 ad pr v) (v := .ref (ad 319)) (C := RX1) (T := TX1) (N := 12) hx hb ht itX1 hown hK hP 1 rfl rfl 9 (by decide) (ht _ tw_488) (fun _ h9 => h9) rfl dX1_placeOfCall_13 ?_
      refine lv_iload_n hx hb dX1_placeOfCall_16 rfl (lv_at hl 1 rfl) ?_
      refine va_iald (D := (dC, dI)) (f := (v.1 319)) hx hb hK hP 16 0 rfl rfl (in_y (a := pa.toInt) (b := 501) rfl (om_51058f7f87 z3) (om_73a6665527 z321 z6) rfl) dX1_placeOfCall_17 ?_
      refine lv_goto (tgt := 22) hx hb dX1_placeOfCall_18 (by decide) ?_
      exact W.iret (v := ((v.1 319) pa.toNatClampNeg)) hx hb hr (fun t ht9 hW => ⟨⟨((v.1 319) pa.toNatClampNeg), v, rfl, ⟨rfl, ⟨z321, (Or.inr (⟨z3, (Or.inr (⟨z6, rfl⟩))⟩))⟩⟩, by rw [ht9]; exact hP, hD⟩, hS.F ht9⟩) hS.2.2 dX1_placeOfCall_22
theorem om_50db9b9783 {x0 x1 x2 : Int} (h0 : 0 ≤ x0 ∧ x0 ≤ 3008) (h1 : x1 = x0) (h2 : x2 < x1) : x2 < 3008 := by omega
theorem om_823a898f16 {x0 x1 x2 x3 : Int} (h0 : 0 ≤ x0 ∧ x0 ≤ 3008) (h1 : 0 ≤ x1 ∧ x1 ≤ 3008) (h2 : x2 = x0) (h3 : x1 < x2) (h4 : x3 = x1 + 1) : 0 ≤ x3 ∧ x3 ≤ 3008 := by omega
theorem om_d3176bca75 {x0 x1 : Int} (h0 : x0 = x1 + 1) : 3008 - x0 < 3008 - x1 := by omega
theorem om_01de597d35 {x0 x1 x2 : Int} (h0 : 0 ≤ x0 ∧ x0 ≤ 3008) (h1 : x1 = x0) (h2 : x2 < x1) : 0 < 3008 - x2 := by omega
theorem om_36f22e89ca {x0 : Int} (h0 : x0 < (16 : Int)) (h1 : x0 = (21 : Int)) : False := by omega
theorem om_ff27494c0e {x0 x1 : Int} (h0 : 0 ≤ x0 ∧ x0 ≤ 501) (h1 : x1 = x0) : 0 ≤ x1 ∧ x1 ≤ 501 := by omega
set_option maxHeartbeats 4000000 in
set_option maxRecDepth 100000 in
theorem c_x_X1_link (l : Launch) (dC : Nat → ClassId) (dI : Nat → Nat → Nat) (cI cB cZ cJ cR : ClassId) (tb : Nat → Nat) (sz : Nat) (ad : Nat → Nat) (pr : Int32 → Nat) (N : Nat) (L1 L2 : List Nat) (v : MS) (ps : Int32) (z321 : 0 ≤ (v.1 0 321).toInt ∧ (v.1 0 321).toInt ≤ 501) (z381 : 0 ≤ (v.1 0 381).toInt ∧ (v.1 0 381).toInt ≤ 3008) (hL1 : L1.length = 40) (hL2 : L2.length = 60) (rp : RP v) (hps : pr ps = ad 908) (es310 : (v.1 0 310) = ps) : Met l yX1_link (Cond.code yX1_link cX1_link 4 none :: tw_W) ({ frames := 3, cells := 0, slots := 0, locals := 65 }) (pc_ (dC, dI) (tyS cI cB cZ cJ cR) tb (cW ad pr N cI cR L1 L2 v) sz [.ref (ad 901)]) (qv_ (dC, dI) (cW ad pr N cI cR L1 L2 v) sz (fun (u : MS) => FC [] [379] v u ∧ (Q_x_X1_link L1 L2 v u) ∧ (RS0 v u)) (fun (u : MS) => (cW ad pr N cI cR L1 L2 u))) 0 0 (va_A (cW ad pr N cI cR L1 L2 v) sz) := by
  refine Met.ofW (cc := cX1_link) (maxL := 4) (ret := none) (by decide) rfl ?_
  intro p e s m args below meth c s₁ B hml hv
  obtain ⟨rfl, hsz, hP, hKK, hD0, hFx⟩ := hv
  have hK := hKK.1
  have hx := B.exec
  have hb := B.bytes
  have hr := B.returns
  have ht : ∀ w ∈ tw_W, w.before _ s = true := fun w h => atoms_spec (ws := Cond.code yX1_link cX1_link 4 none :: tw_W) B.pre w (List.mem_cons_of_mem _ h)
  have hown : s.vm.findClass RX1 = some m.cls := findClass_of_methodNamed B.named
  have hlocks := B.notSynchronized
  subst hsz
  unfold qv_
  have hD := hD0.self (sz := s.heap.size)
  generalize hAe : va_A (cW ad pr N cI cR L1 L2 v) s.heap.size = A at hD hFx ⊢
  have hA : ∀ q : Nat, s.heap.size ≤ q → A q := fun q h => by rw [← hAe]; exact Or.inr h
  have hS : va_S A s.heap s.heap [] := va_S.rf
  have hl := lv_entry ([.ref (ad 901)]) (n := 4) (Nat.le_of_ble_eq_true rfl)
  rw [lg_entry_eq]
  generalize (lg_sl ([.ref (ad 901)]) ++ List.replicate (4 - (lg_sl ([.ref (ad 901)])).length) Slot.unset).toArray = ls at hl ⊢
  have hl : lv_has ls 4 [(0, .ref (ad 901))] := hl
  refine lv_iconst (v := 0) hx hb dX1_link_0 (by decide) ?_
  refine lv_istore_n (lv' := [(1, .int 0), (0, .ref (ad 901))]) hx hb dX1_link_1 rfl hl (by decide) rfl (fun ls hl => ?_)
  refine lpm_ (X := Int32 × MS) (P := (fun (x9 : Int32 × MS) (H : Heap) (locs : List Loc) (ls : Array Slot) => (FC [] [379] v x9.2) ∧ (0 ≤ x9.1.toInt ∧ x9.1.toInt ≤ 3008) ∧ (RS0 v x9.2) ∧ (RT (Q_x_X1_link_L0 L1 L2 v) (0, v) (x9.1, x9.2)) ∧ va_P (dC, dI) vwCl (cW ad pr N cI cR L1 L2 x9.2) H ∧ va_D A (cW ad pr N cI cR L1 L2 x9.2) ∧ va_S A s.heap H locs ∧ lv_has ls 4 [(1, .int x9.1), (0, .ref (ad 901))])) (fun x9 => (3008 - x9.1.toInt).toNat) 2 (fun x9 H locs ls hh ih2 => ?_) (0, v) _ _ _ ⟨(show FC [] [379] v v from (FC.rf _)), (show 0 ≤ (0 : Int) ∧ (0 : Int) ≤ 3008 from om_bf0998abe5), (show RS0 v v from RS0.rf), RT.rf, hP, hD, hS, lv_sub hl [0, 1] rfl⟩
  obtain ⟨ka, w2⟩ := x9
  obtain ⟨fwL2, f1L2, rsL2, exL2, hP, hD, hS, hl⟩ := hh
  have fwL2 : FC [] [379] v w2 := fwL2
  have f1L2 : 0 ≤ ka.toInt ∧ ka.toInt ≤ 3008 := f1L2
  have rsL2 : RS0 v w2 := rsL2
  have hP : va_P (dC, dI) vwCl (cW ad pr N cI cR L1 L2 w2) H := hP
  have hD : va_D A (cW ad pr N cI cR L1 L2 w2) := hD
  have hl : lv_has ls 4 [(1, .int ka), (0, .ref (ad 901))] := hl
  refine lv_iload_n hx hb dX1_link_2 rfl (lv_at hl 0 rfl) ?_
  refine lv_aload_n hx hb dX1_link_3 rfl (lv_at hl 1 rfl) ?_
  refine va_get (D := (dC, dI)) (ci := 5) (fs := oF_X1 ad pr w2) (v := .ref (pr (w2.1 0 310))) (C := RX1) (T := TX1) (N := 12) hx hb ht itX1 hown hK hP 1 rfl rfl 0 (by decide) (ht _ tw_463) (fun _ h9 => h9) rfl dX1_link_4 ?_
  refine W.eq (g2 := F0 m 7 ls [.ref (ad 908), .int ka]) (by rw [show pr (w2.1 0 310) = (ad 908) from (by rw [show (w2.1 0 310) = ps from (Eq.trans (fwL2.2.1 310 (by decide)) es310)]; exact hps)]) ?_
  refine va_get (D := (dC, dI)) (ci := 10) (fs := oF_X7 ad pr w2) (v := .int (w2.1 0 381)) (C := RX7) (T := TX7) (N := 13) hx hb ht itX7 hown hK hP 8 rfl rfl 9 (by decide) (ht _ tw_477) (fun _ h9 => h9) rfl dX1_link_7 ?_
  refine lv_icmp_ge (tgt := 106) hx hb dX1_link_10 (by decide) (fun h1 => ?_) (fun h1 => ?_)
  · have z2 : (w2.1 0 381).toInt ≤ ka.toInt := le_z rfl rfl h1
    exact W.vret hx hb hr (fun t ht9 hW => ⟨⟨w2, rfl, ⟨(FC.tr (FC.rf _) (FC.up fwL2 (by decide) (by decide))), ⟨z321, z381, ka, w2, exL2, fwL2, f1L2, rsL2, z2, rfl⟩, (RS0.tr RS0.rf rsL2)⟩, by rw [ht9]; exact hP, hD⟩, hS.F ht9⟩) hS.2.2 dX1_link_106
  · have z3 : ka.toInt < (w2.1 0 381).toInt := nle_z rfl rfl h1
    refine lv_aload_n hx hb dX1_link_13 rfl (lv_at hl 1 rfl) ?_
    refine va_get (D := (dC, dI)) (ci := 5) (fs := oF_X1 ad pr w2) (v := .ref (pr (w2.1 0 310))) (C := RX1) (T := TX1) (N := 12) hx hb ht itX1 hown hK hP 1 rfl rfl 0 (by decide) (ht _ tw_463) (fun _ h9 => h9) rfl dX1_link_14 ?_
    refine W.eq (g2 := F0 m 17 ls [.ref (ad 908)]) (by rw [show pr (w2.1 0 310) = (ad 908) from (by rw [show (w2.1 0 310) = ps from (Eq.trans (fwL2.2.1 310 (by decide)) es310)]; exact hps)]) ?_
    refine va_get (D := (dC, dI)) (ci := 10) (fs := oF_X7 ad pr w2) (v := .ref (ad 378)) (C := RX7) (T := TX7) (N := 13) hx hb ht itX7 hown hK hP 8 rfl rfl 6 (by decide) (ht _ tw_478) (fun _ h9 => h9) rfl dX1_link_17 ?_
    refine lv_iload_n hx hb dX1_link_20 rfl (lv_at hl 0 rfl) ?_
    have q4 : (w2.1 0 381).toInt = (v.1 0 381).toInt := congrArg Int32.toInt ((fwL2.2.1 381 (by decide)).trans (show v.1 0 381 = (v.1 0 381) by rfl))
    refine va_iald (D := (dC, dI)) (f := (w2.1 378)) hx hb hK hP 29 0 rfl rfl (in_y (a := ka.toInt) (b := 3008) rfl (om_127c616405 f1L2) (om_50db9b9783 z381 q4 z3) rfl) dX1_link_21 ?_
    refine lv_istore_n (lv' := [(2, .int ((w2.1 378) ka.toNatClampNeg)), (1, .int ka), (0, .ref (ad 901))]) hx hb dX1_link_22 rfl hl (by decide) rfl (fun ls hl => ?_)
    refine lv_aload_n hx hb dX1_link_23 rfl (lv_at hl 2 rfl) ?_
    refine va_get (D := (dC, dI)) (ci := 5) (fs := oF_X1 ad pr w2) (v := .ref (pr (w2.1 0 310))) (C := RX1) (T := TX1) (N := 12) hx hb ht itX1 hown hK hP 1 rfl rfl 0 (by decide) (ht _ tw_463) (fun _ h9 => h9) rfl dX1_link_24 ?_
    refine W.eq (g2 := F0 m 27 ls [.ref (ad 908)]) (by rw [show pr (w2.1 0 310) = (ad 908) from (by rw [show (w2.1 0 310) = ps from (Eq.trans (fwL2.2.1 310 (by decide)) es310)]; exact hps)]) ?_
    refine va_get (D := (dC, dI)) (ci := 10) (fs := oF_X7 ad pr w2) (v := .ref (ad 379)) (C := RX7) (T := TX7) (N := 13) hx hb ht itX7 hown hK hP 8 rfl rfl 7 (by decide) (ht _ tw_479) (fun _ h9 => h9) rfl dX1_link_27 ?_
    refine lv_iload_n hx hb dX1_link_30 rfl (lv_at hl 1 rfl) ?_
    refine va_iald (D := (dC, dI)) (f := (w2.1 379)) hx hb hK hP 30 0 rfl rfl (in_y (a := ka.toInt) (b := 3008) rfl (om_127c616405 f1L2) (om_50db9b9783 z381 q4 z3) rfl) dX1_link_31 ?_
    refine lv_istore_n (lv' := [(3, .int ((w2.1 379) ka.toNatClampNeg)), (2, .int ((w2.1 378) ka.toNatClampNeg)), (1, .int ka), (0, .ref (ad 901))]) hx hb dX1_link_32 rfl hl (by decide) rfl (fun ls hl => ?_)
    refine lv_iload_n hx hb dX1_link_33 rfl (lv_at hl 1 rfl) ?_
    refine lv_bipush (v := 16) hx hb dX1_link_34 (by decide) ?_
    refine lv_icmp_lt (tgt := 80) hx hb dX1_link_36 (by decide) (fun h5 => ?_) (fun h5 => ?_)
    · have z6 : ((w2.1 378) ka.toNatClampNeg).toInt < (16 : Int) := lt_z rfl (show (16 : Int32).toInt = (16 : Int) by decide) h5
      refine lv_iload_n hx hb dX1_link_80 rfl (lv_at hl 1 rfl) ?_
      refine lv_bipush (v := 21) hx hb dX1_link_81 (by decide) ?_
      refine lv_icmp_ne (tgt := 100) hx hb dX1_link_83 (by decide) (fun h7 => ?_) (fun h7 => ?_)
      · have z8 : ((w2.1 378) ka.toNatClampNeg).toInt ≠ (21 : Int) := ne_z rfl (show (21 : Int32).toInt = (21 : Int) by decide) h7
        refine lv_iinc (v := (ka + (1 : Int32))) (lv' := [(1, .int (ka + (1 : Int32))), (3, .int ((w2.1 379) ka.toNatClampNeg)), (2, .int ((w2.1 378) ka.toNatClampNeg)), (0, .ref (ad 901))]) hx hb dX1_link_100 hl (k := 2) rfl (rfl) (by decide) rfl (fun ls hl => ?_)
        have z9 : (ka + (1 : Int32)).toInt = ka.toInt + 1 := inc_lt z3
        refine lv_goto (tgt := 2) hx hb dX1_link_103 (by decide) ?_
        exact ih2 ((ka + (1 : Int32)), w2) _ _ _ (show (3008 - (ka + (1 : Int32)).toInt).toNat < (3008 - ka.toInt).toNat from tn_z (om_d3176bca75 z9) (om_01de597d35 z381 q4 z3)) ⟨(show FC [] [379] v w2 from (FC.tr (FC.rf _) (FC.up fwL2 (by decide) (by decide)))), (show 0 ≤ (ka + (1 : Int32)).toInt ∧ (ka + (1 : Int32)).toInt ≤ 3008 from (om_823a898f16 z381 f1L2 q4 z3 z9)), (show RS0 v w2 from (RS0.tr RS0.rf rsL2)), (RT.st exL2 ⟨fwL2, f1L2, rsL2, z3, (Or.inl ⟨z6, z8, rfl⟩)⟩), hP, hD, hS, lv_sub hl [0, 3] rfl⟩
      · have z10 : ((w2.1 378) ka.toNatClampNeg).toInt = (21 : Int) := eq_z rfl (show (21 : Int32).toInt = (21 : Int) by decide) h7
        exact False.elim (om_36f22e89ca z6 z10)
    · have z11 : (16 : Int) ≤ ((w2.1 378) ka.toNatClampNeg).toInt := nlt_z rfl (show (16 : Int32).toInt = (16 : Int) by decide) h5
      refine lv_iload_n hx hb dX1_link_39 rfl (lv_at hl 1 rfl) ?_
      refine lv_bipush (v := 19) hx hb dX1_link_40 (by decide) ?_
      refine lv_icmp_gt (tgt := 80) hx hb dX1_link_42 (by decide) (fun h12 => ?_) (fun h12 => ?_)
      · have z13 : (19 : Int) < ((w2.1 378) ka.toNatClampNeg).toInt := lt_z (show (19 : Int32).toInt = (19 : Int) by decide) rfl h12
        refine lv_iload_n hx hb dX1_link_80 rfl (lv_at hl 1 rfl) ?_
        refine lv_bipush (v := 21) hx hb dX1_link_81 (by decide) ?_
        refine lv_icmp_ne (tgt := 100) hx hb dX1_link_83 (by decide) (fun h14 => ?_) (fun h14 => ?_)
        · have z15 : ((w2.1 378) ka.toNatClampNeg).toInt ≠ (21 : Int) := ne_z rfl (show (21 : Int32).toInt = (21 : Int) by decide) h14
          refine lv_iinc (v := (ka + (1 : Int32))) (lv' := [(1, .int (ka + (1 : Int32))), (3, .int ((w2.1 379) ka.toNatClampNeg)), (2, .int ((w2.1 378) ka.toNatClampNeg)), (0, .ref (ad 901))]) hx hb dX1_link_100 hl (k := 2) rfl (rfl) (by decide) rfl (fun ls hl => ?_)
          have z16 : (ka + (1 : Int32)).toInt = ka.toInt + 1 := inc_lt z3
          refine lv_goto (tgt := 2) hx hb dX1_link_103 (by decide) ?_
          exact ih2 ((ka + (1 : Int32)), w2) _ _ _ (show (3008 - (ka + (1 : Int32)).toInt).toNat < (3008 - ka.toInt).toNat from tn_z (om_d3176bca75 z16) (om_01de597d35 z381 q4 z3)) ⟨(show FC [] [379] v w2 from (FC.tr (FC.rf _) (FC.up fwL2 (by decide) (by decide)))), (show 0 ≤ (ka + (1 : Int32)).toInt ∧ (ka + (1 : Int32)).toInt ≤ 3008 from (om_823a898f16 z381 f1L2 q4 z3 z16)), (show RS0 v w2 from (RS0.tr RS0.rf rsL2)), (RT.st exL2 ⟨fwL2, f1L2, rsL2, z3, (Or.inr (⟨z11, (Or.inl ⟨z13, (Or.inl ⟨z15, rfl⟩)⟩)⟩))⟩), hP, hD, hS, lv_sub hl [0, 3] rfl⟩
        · have z17 : ((w2.1 378) ka.toNatClampNeg).toInt = (21 : Int) := eq_z rfl (show (21 : Int32).toInt = (21 : Int) by decide) h14
          refine lv_aload_n hx hb dX1_link_86 rfl (lv_at hl 3 rfl) ?_
          refine va_get (D := (dC, dI)) (ci := 5) (fs := oF_X1 ad pr w2) (v := .ref (pr (w2.1 0 310))) (C := RX1) (T := TX1) (N := 12) hx hb ht itX1 hown hK hP 1 rfl rfl 0 (by decide) (ht _ tw_463) (fun _ h9 => h9) rfl dX1_link_87 ?_
          refine W.eq (g2 := F0 m 90 ls [.ref (ad 908)]) (by rw [show pr (w2.1 0 310) = (ad 908) from (by rw [show (w2.1 0 310) = ps from (Eq.trans (fwL2.2.1 310 (by decide)) es310)]; exact hps)]) ?_
          refine va_get (D := (dC, dI)) (ci := 10) (fs := oF_X7 ad pr w2) (v := .ref (ad 379)) (C := RX7) (T := TX7) (N := 13) hx hb ht itX7 hown hK hP 8 rfl rfl 7 (by decide) (ht _ tw_479) (fun _ h9 => h9) rfl dX1_link_90 ?_
          refine lv_iload_n hx hb dX1_link_93 rfl (lv_at hl 2 rfl) ?_
          refine lv_aload_n hx hb dX1_link_94 rfl (lv_at hl 3 rfl) ?_
          refine lv_iload_n hx hb dX1_link_95 rfl (lv_at hl 0 rfl) ?_
          have q18 : (w2.1 0 321).toInt = (v.1 0 321).toInt := congrArg Int32.toInt ((fwL2.2.1 321 (by decide)).trans (show v.1 0 321 = (v.1 0 321) by rfl))
          refine cu_i (rn_Vk (n := 1) (As := [.int ((w2.1 379) ka.toNatClampNeg)]) (rest := [.int ka, .ref (ad 379)]) hx hb hml hown ht hKK hFx hP hD hS hA (c_x_X1_functionOfCall l dC dI cI cB cZ cJ cR tb H.size ad pr N L1 L2 w2 ((w2.1 379) ka.toNatClampNeg) ps (show 0 ≤ (w2.1 0 321).toInt ∧ (w2.1 0 321).toInt ≤ 501 from (om_ff27494c0e z321 q18)) (show L1.length = 40 from hL1) (show L2.length = 60 from hL2) (show RP w2 from ((show FC [] [379] v w2 from (FC.tr (FC.rf _) (FC.up fwL2 (by decide) (by decide)))).1 rp)) (show pr ps = ad 908 from hps) (show (w2.1 0 310) = ps from (Eq.trans (fwL2.2.1 310 (by decide)) es310))) tw_492 tw_493 (by decide +kernel) rfl rfl ⟨Nat.le_of_ble_eq_true rfl, Nat.le_of_ble_eq_true rfl⟩ (List.range (cW ad pr N cI cR L1 L2 w2).length) (rg_map _) (nd_range _) 1 rfl rfl rfl rfl hl.1 rfl (Nat.le_of_ble_eq_true rfl) dX1_link_96 ⟨Nat.le_of_ble_eq_true rfl, Nat.le_of_ble_eq_true rfl⟩) hP hD hS hA (fun r21 u20 H locs hw19 hP hD hS => ?_)
          obtain ⟨rfl, ex19⟩ := hw19
          refine W.widen (k := 0) (n := 0) (Nat.le_refl _) (Nat.le_refl _) ?_
          refine va_iast (D := (dC, dI)) (f := (w2.1 379)) hx hb hK hP hD hS 30 0 rfl rfl (in_y (a := ka.toInt) (b := 3008) rfl (om_127c616405 f1L2) (om_50db9b9783 z381 q4 z3) rfl) dX1_link_99 (fun H locs hP hD hS => ?_)
          have hP := cP_ (cq_379 ad pr N cI cR L1 L2 w2 ka.toNatClampNeg r21) hP
          have hD := cD_ (cq_379 ad pr N cI cR L1 L2 w2 ka.toNatClampNeg r21) hD
          refine lv_iinc (v := (ka + (1 : Int32))) (lv' := [(1, .int (ka + (1 : Int32))), (3, .int ((w2.1 379) ka.toNatClampNeg)), (2, .int ((w2.1 378) ka.toNatClampNeg)), (0, .ref (ad 901))]) hx hb dX1_link_100 hl (k := 2) rfl (rfl) (by decide) rfl (fun ls hl => ?_)
          have z22 : (ka + (1 : Int32)).toInt = ka.toInt + 1 := inc_lt z3
          refine lv_goto (tgt := 2) hx hb dX1_link_103 (by decide) ?_
          exact ih2 ((ka + (1 : Int32)), (wA w2 379 ka.toNatClampNeg r21)) _ _ _ (show (3008 - (ka + (1 : Int32)).toInt).toNat < (3008 - ka.toInt).toNat from tn_z (om_d3176bca75 z22) (om_01de597d35 z381 q4 z3)) ⟨(show FC [] [379] v (wA w2 379 ka.toNatClampNeg r21) from (FC.a (FC.tr (FC.rf _) (FC.up fwL2 (by decide) (by decide))) ka.toNatClampNeg r21 (by decide) (by decide))), (show 0 ≤ (ka + (1 : Int32)).toInt ∧ (ka + (1 : Int32)).toInt ≤ 3008 from (om_823a898f16 z381 f1L2 q4 z3 z22)), (show RS0 v (wA w2 379 ka.toNatClampNeg r21) from (RS0.w (RS0.tr RS0.rf rsL2) (by decide))), (RT.st exL2 ⟨fwL2, f1L2, rsL2, z3, (Or.inr (⟨z11, (Or.inl ⟨z13, (Or.inr (⟨z17, r21, ex19, rfl⟩))⟩)⟩))⟩), hP, hD, hS, lv_sub hl [0, 3] rfl⟩
      · have z23 : ((w2.1 378) ka.toNatClampNeg).toInt ≤ (19 : Int) := nlt_z (show (19 : Int32).toInt = (19 : Int) by decide) rfl h12
        refine lv_aload_n hx hb dX1_link_45 rfl (lv_at hl 3 rfl) ?_
        refine va_get (D := (dC, dI)) (ci := 5) (fs := oF_X1 ad pr w2) (v := .ref (pr (w2.1 0 310))) (C := RX1) (T := TX1) (N := 12) hx hb ht itX1 hown hK hP 1 rfl rfl 0 (by decide) (ht _ tw_463) (fun _ h9 => h9) rfl dX1_link_46 ?_
        refine W.eq (g2 := F0 m 49 ls [.ref (ad 908)]) (by rw [show pr (w2.1 0 310) = (ad 908) from (by rw [show (w2.1 0 310) = ps from (Eq.trans (fwL2.2.1 310 (by decide)) es310)]; exact hps)]) ?_
        refine va_get (D := (dC, dI)) (ci := 10) (fs := oF_X7 ad pr w2) (v := .ref (ad 379)) (C := RX7) (T := TX7) (N := 13) hx hb ht itX7 hown hK hP 8 rfl rfl 7 (by decide) (ht _ tw_479) (fun _ h9 => h9) rfl dX1_link_49 ?_
        refine lv_iload_n hx hb dX1_link_52 rfl (lv_at hl 2 rfl) ?_
        refine lv_iload_n hx hb dX1_link_53 rfl (lv_at hl 0 rfl) ?_
        refine lv_if_lt (tgt := 75) hx hb dX1_link_54 (by decide) (fun h24 => ?_) (fun h24 => ?_)
        · have z25 : ((w2.1 379) ka.toNatClampNeg).toInt < (0 : Int) := lt_z rfl (show (0 : Int32).toInt = (0 : Int) by decide) h24
          refine lv_iconst (v := 0) hx hb dX1_link_75 (by decide) ?_
          refine va_iast (D := (dC, dI)) (f := (w2.1 379)) hx hb hK hP hD hS 30 0 rfl rfl (in_y (a := ka.toInt) (b := 3008) rfl (om_127c616405 f1L2) (om_50db9b9783 z381 q4 z3) rfl) dX1_link_76 (fun H locs hP hD hS => ?_)
          have hP := cP_ (cq_379 ad pr N cI cR L1 L2 w2 ka.toNatClampNeg 0) hP
          have hD := cD_ (cq_379 ad pr N cI cR L1 L2 w2 ka.toNatClampNeg 0) hD
          refine lv_goto (tgt := 100) hx hb dX1_link_77 (by decide) ?_
          refine lv_iinc (v := (ka + (1 : Int32))) (lv' := [(1, .int (ka + (1 : Int32))), (3, .int ((w2.1 379) ka.toNatClampNeg)), (2, .int ((w2.1 378) ka.toNatClampNeg)), (0, .ref (ad 901))]) hx hb dX1_link_100 hl (k := 2) rfl (rfl) (by decide) rfl (fun ls hl => ?_)
          have z26 : (ka + (1 : Int32)).toInt = ka.toInt + 1 := inc_lt z3
          refine lv_goto (tgt := 2) hx hb dX1_link_103 (by decide) ?_
          exact ih2 ((ka + (1 : Int32)), (wA w2 379 ka.toNatClampNeg 0)) _ _ _ (show (3008 - (ka + (1 : Int32)).toInt).toNat < (3008 - ka.toInt).toNat from tn_z (om_d3176bca75 z26) (om_01de597d35 z381 q4 z3)) ⟨(show FC [] [379] v (wA w2 379 ka.toNatClampNeg 0) from (FC.a (FC.tr (FC.rf _) (FC.up fwL2 (by decide) (by decide))) ka.toNatClampNeg 0 (by decide) (by decide))), (show 0 ≤ (ka + (1 : Int32)).toInt ∧ (ka + (1 : Int32)).toInt ≤ 3008 from (om_823a898f16 z381 f1L2 q4 z3 z26)), (show RS0 v (wA w2 379 ka.toNatClampNeg 0) from (RS0.w (RS0.tr RS0.rf rsL2) (by decide))), (RT.st exL2 ⟨fwL2, f1L2, rsL2, z3, (Or.inr (⟨z11, (Or.inr (⟨z23, (Or.inl ⟨z25, rfl⟩)⟩))⟩))⟩), hP, hD, hS, lv_sub hl [0, 3] rfl⟩
        · have z27 : (0 : Int) ≤ ((w2.1 379) ka.toNatClampNeg).toInt := nlt_z rfl (show (0 : Int32).toInt = (0 : Int) by decide) h24
          refine lv_iload_n hx hb dX1_link_57 rfl (lv_at hl 0 rfl) ?_
          refine lv_aload_n hx hb dX1_link_58 rfl (lv_at hl 3 rfl) ?_
          refine va_get (D := (dC, dI)) (ci := 5) (fs := oF_X1 ad pr w2) (v := .ref (ad 316)) (C := RX1) (T := TX1) (N := 12) hx hb ht itX1 hown hK hP 1 rfl rfl 6 (by decide) (ht _ tw_486) (fun _ h9 => h9) rfl dX1_link_59 ?_
          refine va_alen (D := (dC, dI)) (v := 1500) hx hb hK hP 14 0 rfl rfl rfl dX1_link_62 ?_
          refine lv_icmp_ge (tgt := 75) hx hb dX1_link_63 (by decide) (fun h28 => ?_) (fun h28 => ?_)
          · have z29 : (1500 : Int) ≤ ((w2.1 379) ka.toNatClampNeg).toInt := le_z (show (1500 : Int32).toInt = (1500 : Int) by decide) rfl h28
            refine lv_iconst (v := 0) hx hb dX1_link_75 (by decide) ?_
            refine va_iast (D := (dC, dI)) (f := (w2.1 379)) hx hb hK hP hD hS 30 0 rfl rfl (in_y (a := ka.toInt) (b := 3008) rfl (om_127c616405 f1L2) (om_50db9b9783 z381 q4 z3) rfl) dX1_link_76 (fun H locs hP hD hS => ?_)
            have hP := cP_ (cq_379 ad pr N cI cR L1 L2 w2 ka.toNatClampNeg 0) hP
            have hD := cD_ (cq_379 ad pr N cI cR L1 L2 w2 ka.toNatClampNeg 0) hD
            refine lv_goto (tgt := 100) hx hb dX1_link_77 (by decide) ?_
            refine lv_iinc (v := (ka + (1 : Int32))) (lv' := [(1, .int (ka + (1 : Int32))), (3, .int ((w2.1 379) ka.toNatClampNeg)), (2, .int ((w2.1 378) ka.toNatClampNeg)), (0, .ref (ad 901))]) hx hb dX1_link_100 hl (k := 2) rfl (rfl) (by decide) rfl (fun ls hl => ?_)
            have z30 : (ka + (1 : Int32)).toInt = ka.toInt + 1 := inc_lt z3
            refine lv_goto (tgt := 2) hx hb dX1_link_103 (by decide) ?_
            exact ih2 ((ka + (1 : Int32)), (wA w2 379 ka.toNatClampNeg 0)) _ _ _ (show (3008 - (ka + (1 : Int32)).toInt).toNat < (3008 - ka.toInt).toNat from tn_z (om_d3176bca75 z30) (om_01de597d35 z381 q4 z3)) ⟨(show FC [] [379] v (wA w2 379 ka.toNatClampNeg 0) from (FC.a (FC.tr (FC.rf _) (FC.up fwL2 (by decide) (by decide))) ka.toNatClampNeg 0 (by decide) (by decide))), (show 0 ≤ (ka + (1 : Int32)).toInt ∧ (ka + (1 : Int32)).toInt ≤ 3008 from (om_823a898f16 z381 f1L2 q4 z3 z30)), (show RS0 v (wA w2 379 ka.toNatClampNeg 0) from (RS0.w (RS0.tr RS0.rf rsL2) (by decide))), (RT.st exL2 ⟨fwL2, f1L2, rsL2, z3, (Or.inr (⟨z11, (Or.inr (⟨z23, (Or.inr (⟨z27, (Or.inl ⟨z29, rfl⟩)⟩))⟩))⟩))⟩), hP, hD, hS, lv_sub hl [0, 3] rfl⟩
          · have z31 : ((w2.1 379) ka.toNatClampNeg).toInt < (1500 : Int) := nle_z (show (1500 : Int32).toInt = (1500 : Int) by decide) rfl h28
            refine lv_aload_n hx hb dX1_link_66 rfl (lv_at hl 3 rfl) ?_
            refine va_get (D := (dC, dI)) (ci := 5) (fs := oF_X1 ad pr w2) (v := .ref (ad 316)) (C := RX1) (T := TX1) (N := 12) hx hb ht itX1 hown hK hP 1 rfl rfl 6 (by decide) (ht _ tw_486) (fun _ h9 => h9) rfl dX1_link_67 ?_
            refine lv_iload_n hx hb dX1_link_70 rfl (lv_at hl 0 rfl) ?_
            refine va_iald (D := (dC, dI)) (f := (w2.1 316)) hx hb hK hP 14 0 rfl rfl (in_y (a := ((w2.1 379) ka.toNatClampNeg).toInt) (b := 1500) rfl (om_51058f7f87 z27) (om_3d405d6278 z31) rfl) dX1_link_71 ?_
            refine lv_goto (tgt := 76) hx hb dX1_link_72 (by decide) ?_
            refine va_iast (D := (dC, dI)) (f := (w2.1 379)) hx hb hK hP hD hS 30 0 rfl rfl (in_y (a := ka.toInt) (b := 3008) rfl (om_127c616405 f1L2) (om_50db9b9783 z381 q4 z3) rfl) dX1_link_76 (fun H locs hP hD hS => ?_)
            have hP := cP_ (cq_379 ad pr N cI cR L1 L2 w2 ka.toNatClampNeg ((w2.1 316) ((w2.1 379) ka.toNatClampNeg).toNatClampNeg)) hP
            have hD := cD_ (cq_379 ad pr N cI cR L1 L2 w2 ka.toNatClampNeg ((w2.1 316) ((w2.1 379) ka.toNatClampNeg).toNatClampNeg)) hD
            refine lv_goto (tgt := 100) hx hb dX1_link_77 (by decide) ?_
            refine lv_iinc (v := (ka + (1 : Int32))) (lv' := [(1, .int (ka + (1 : Int32))), (3, .int ((w2.1 379) ka.toNatClampNeg)), (2, .int ((w2.1 378) ka.toNatClampNeg)), (0, .ref (ad 901))]) hx hb dX1_link_100 hl (k := 2) rfl (rfl) (by decide) rfl (fun ls hl => ?_)
            have z32 : (ka + (1 : Int32)).toInt = ka.toInt + 1 := inc_lt z3
            refine lv_goto (tgt := 2) hx hb dX1_link_103 (by decide) ?_
            exact ih2 ((ka + (1 : Int32)), (wA w2 379 ka.toNatClampNeg ((w2.1 316) ((w2.1 379) ka.toNatClampNeg).toNatClampNeg))) _ _ _ (show (3008 - (ka + (1 : Int32)).toInt).toNat < (3008 - ka.toInt).toNat from tn_z (om_d3176bca75 z32) (om_01de597d35 z381 q4 z3)) ⟨(show FC [] [379] v (wA w2 379 ka.toNatClampNeg ((w2.1 316) ((w2.1 379) ka.toNatClampNeg).toNatClampNeg)) from (FC.a (FC.tr (FC.rf _) (FC.up fwL2 (by decide) (by decide))) ka.toNatClampNeg ((w2.1 316) ((w2.1 379) ka.toNatClampNeg).toNatClampNeg) (by decide) (by decide))), (show 0 ≤ (ka + (1 : Int32)).toInt ∧ (ka + (1 : Int32)).toInt ≤ 3008 from (om_823a898f16 z381 f1L2 q4 z3 z32)), (show RS0 v (wA w2 379 ka.toNatClampNeg ((w2.1 316) ((w2.1 379) ka.toNatClampNeg).toNatClampNeg)) from (RS0.w (RS0.tr RS0.rf rsL2) (by decide))), (RT.st exL2 ⟨fwL2, f1L2, rsL2, z3, (Or.inr (⟨z11, (Or.inr (⟨z23, (Or.inr (⟨z27, (Or.inr (⟨z31, rfl⟩))⟩))⟩))⟩))⟩), hP, hD, hS, lv_sub hl [0, 3] rfl⟩
