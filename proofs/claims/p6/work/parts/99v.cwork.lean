theorem dX10_drop_0 : decode cX10_drop 0 = .ok (.aload_n 0, 1) := by decide +kernel
theorem dX10_drop_1 : decode cX10_drop 1 = .ok (.iconst 0, 1) := by decide +kernel
theorem dX10_drop_2 : decode cX10_drop 2 = .ok (.putfield 33, 3) := by decide +kernel
theorem tw_840 : (.fieldLink RX10 33 "PocketCompiler$Worker" "hasWorked" "Z" : Cond) ∈ tw_W := tw_in (t8_2 (List.mem_of_getElem? (i := 163) rfl)) rfl
theorem itX10 : ∀ w ∈ wsX100, w ∈ tw_W := tw_all (by decide +kernel)
theorem dX10_drop_5 : decode cX10_drop 5 = .ok (.return_, 1) := by decide +kernel
theorem dX10_fact_0 : decode cX10_fact 0 = .ok (.aload_n 0, 1) := by decide +kernel
theorem dX10_fact_1 : decode cX10_fact 1 = .ok (.getfield 33, 3) := by decide +kernel
theorem dX10_fact_4 : decode cX10_fact 4 = .ok (.ifCond .ne 5, 3) := by decide +kernel
theorem dX10_fact_9 : decode cX10_fact 9 = .ok (.iload_n 1, 1) := by decide +kernel
theorem dX10_fact_10 : decode cX10_fact 10 = .ok (.tableswitch 79 0 5 #[38, 43, 59, 64, 69, 74], 38) := by decide +kernel
theorem dX10_fact_48 : decode cX10_fact 48 = .ok (.aload_n 0, 1) := by decide +kernel
theorem dX10_fact_49 : decode cX10_fact 49 = .ok (.getfield 37, 3) := by decide +kernel
theorem tw_841 : (.fieldLink RX10 37 "PocketCompiler$Worker" "outcome" "I" : Cond) ∈ tw_W := tw_in (t8_2 (List.mem_of_getElem? (i := 165) rfl)) rfl
theorem dX10_fact_52 : decode cX10_fact 52 = .ok (.ireturn, 1) := by decide +kernel
theorem dX10_fact_53 : decode cX10_fact 53 = .ok (.aload_n 0, 1) := by decide +kernel
theorem dX10_fact_54 : decode cX10_fact 54 = .ok (.getfield 37, 3) := by decide +kernel
theorem dX10_fact_57 : decode cX10_fact 57 = .ok (.ifCond .ne 10, 3) := by decide +kernel
theorem dX10_fact_67 : decode cX10_fact 67 = .ok (.iconst 0, 1) := by decide +kernel
theorem dX10_fact_68 : decode cX10_fact 68 = .ok (.ireturn, 1) := by decide +kernel
theorem dX10_fact_60 : decode cX10_fact 60 = .ok (.aload_n 0, 1) := by decide +kernel
theorem dX10_fact_61 : decode cX10_fact 61 = .ok (.getfield 40, 3) := by decide +kernel
theorem tw_842 : (.fieldLink RX10 40 "PocketCompiler$Worker" "hand" "I" : Cond) ∈ tw_W := tw_in (t8_2 (List.mem_of_getElem? (i := 166) rfl)) rfl
theorem dX10_fact_64 : decode cX10_fact 64 = .ok (.goto 4, 3) := by decide +kernel
theorem dX10_fact_69 : decode cX10_fact 69 = .ok (.aload_n 0, 1) := by decide +kernel
theorem dX10_fact_70 : decode cX10_fact 70 = .ok (.getfield 43, 3) := by decide +kernel
theorem tw_843 : (.fieldLink RX10 43 "PocketCompiler$Worker" "turns" "I" : Cond) ∈ tw_W := tw_in (t8_2 (List.mem_of_getElem? (i := 171) rfl)) rfl
theorem dX10_fact_73 : decode cX10_fact 73 = .ok (.ireturn, 1) := by decide +kernel
theorem dX10_fact_74 : decode cX10_fact 74 = .ok (.aload_n 0, 1) := by decide +kernel
theorem dX10_fact_75 : decode cX10_fact 75 = .ok (.getfield 46, 3) := by decide +kernel
theorem tw_844 : (.fieldLink RX10 46 "PocketCompiler$Worker" "mostBytes" "I" : Cond) ∈ tw_W := tw_in (t8_2 (List.mem_of_getElem? (i := 172) rfl)) rfl
theorem dX10_fact_78 : decode cX10_fact 78 = .ok (.ireturn, 1) := by decide +kernel
theorem dX10_fact_79 : decode cX10_fact 79 = .ok (.aload_n 0, 1) := by decide +kernel
theorem dX10_fact_80 : decode cX10_fact 80 = .ok (.getfield 49, 3) := by decide +kernel
theorem tw_845 : (.fieldLink RX10 49 "PocketCompiler$Worker" "putCount" "I" : Cond) ∈ tw_W := tw_in (t8_2 (List.mem_of_getElem? (i := 173) rfl)) rfl
theorem dX10_fact_83 : decode cX10_fact 83 = .ok (.ireturn, 1) := by decide +kernel
theorem dX10_fact_84 : decode cX10_fact 84 = .ok (.aload_n 0, 1) := by decide +kernel
theorem dX10_fact_85 : decode cX10_fact 85 = .ok (.getfield 52, 3) := by decide +kernel
theorem tw_846 : (.fieldLink RX10 52 "PocketCompiler$Worker" "gotCount" "I" : Cond) ∈ tw_W := tw_in (t8_2 (List.mem_of_getElem? (i := 175) rfl)) rfl
theorem dX10_fact_88 : decode cX10_fact 88 = .ok (.ireturn, 1) := by decide +kernel
theorem dX10_fact_89 : decode cX10_fact 89 = .ok (.iconst (-1), 1) := by decide +kernel
theorem dX10_fact_90 : decode cX10_fact 90 = .ok (.ireturn, 1) := by decide +kernel
theorem dX10_fact_7 : decode cX10_fact 7 = .ok (.iconst (-1), 1) := by decide +kernel
theorem dX10_fact_8 : decode cX10_fact 8 = .ok (.ireturn, 1) := by decide +kernel
theorem dX10_cellAt_0 : decode cX10_cellAt 0 = .ok (.iload_n 1, 1) := by decide +kernel
theorem dX10_cellAt_1 : decode cX10_cellAt 1 = .ok (.ifCond .lt 21, 3) := by decide +kernel
theorem dX10_cellAt_22 : decode cX10_cellAt 22 = .ok (.iconst 0, 1) := by decide +kernel
theorem dX10_cellAt_23 : decode cX10_cellAt 23 = .ok (.ireturn, 1) := by decide +kernel
theorem dX10_cellAt_4 : decode cX10_cellAt 4 = .ok (.iload_n 1, 1) := by decide +kernel
theorem dX10_cellAt_5 : decode cX10_cellAt 5 = .ok (.aload_n 0, 1) := by decide +kernel
theorem dX10_cellAt_6 : decode cX10_cellAt 6 = .ok (.getfield 30, 3) := by decide +kernel
theorem tw_847 : (.fieldLink RX10 30 "PocketCompiler$Worker" "cells" "[I" : Cond) ∈ tw_W := tw_in (t8_2 (List.mem_of_getElem? (i := 160) rfl)) rfl
theorem dX10_cellAt_9 : decode cX10_cellAt 9 = .ok (.arraylength, 1) := by decide +kernel
theorem dX10_cellAt_10 : decode cX10_cellAt 10 = .ok (.if_icmp .ge 12, 3) := by decide +kernel
theorem dX10_cellAt_13 : decode cX10_cellAt 13 = .ok (.aload_n 0, 1) := by decide +kernel
theorem dX10_cellAt_14 : decode cX10_cellAt 14 = .ok (.getfield 30, 3) := by decide +kernel
theorem dX10_cellAt_17 : decode cX10_cellAt 17 = .ok (.iload_n 1, 1) := by decide +kernel
theorem dX10_cellAt_18 : decode cX10_cellAt 18 = .ok (.iaload, 1) := by decide +kernel
theorem dX10_cellAt_19 : decode cX10_cellAt 19 = .ok (.goto 4, 3) := by decide +kernel
theorem dX10_changeCell_0 : decode cX10_changeCell 0 = .ok (.iload_n 1, 1) := by decide +kernel
theorem dX10_changeCell_1 : decode cX10_changeCell 1 = .ok (.ifCond .lt 19, 3) := by decide +kernel
theorem dX10_changeCell_20 : decode cX10_changeCell 20 = .ok (.return_, 1) := by decide +kernel
theorem dX10_changeCell_4 : decode cX10_changeCell 4 = .ok (.iload_n 1, 1) := by decide +kernel
theorem dX10_changeCell_5 : decode cX10_changeCell 5 = .ok (.aload_n 0, 1) := by decide +kernel
theorem dX10_changeCell_6 : decode cX10_changeCell 6 = .ok (.getfield 30, 3) := by decide +kernel
theorem dX10_changeCell_9 : decode cX10_changeCell 9 = .ok (.arraylength, 1) := by decide +kernel
theorem dX10_changeCell_10 : decode cX10_changeCell 10 = .ok (.if_icmp .ge 10, 3) := by decide +kernel
theorem dX10_changeCell_13 : decode cX10_changeCell 13 = .ok (.aload_n 0, 1) := by decide +kernel
theorem dX10_changeCell_14 : decode cX10_changeCell 14 = .ok (.getfield 30, 3) := by decide +kernel
theorem dX10_changeCell_17 : decode cX10_changeCell 17 = .ok (.iload_n 1, 1) := by decide +kernel
theorem dX10_changeCell_18 : decode cX10_changeCell 18 = .ok (.iload_n 2, 1) := by decide +kernel
theorem dX10_changeCell_19 : decode cX10_changeCell 19 = .ok (.iastore, 1) := by decide +kernel
theorem dX10_frameWord_0 : decode cX10_frameWord 0 = .ok (.iload_n 1, 1) := by decide +kernel
theorem dX10_frameWord_1 : decode cX10_frameWord 1 = .ok (.ifCond .lt 21, 3) := by decide +kernel
theorem dX10_frameWord_22 : decode cX10_frameWord 22 = .ok (.iconst 0, 1) := by decide +kernel
theorem dX10_frameWord_23 : decode cX10_frameWord 23 = .ok (.ireturn, 1) := by decide +kernel
theorem dX10_frameWord_4 : decode cX10_frameWord 4 = .ok (.iload_n 1, 1) := by decide +kernel
theorem dX10_frameWord_5 : decode cX10_frameWord 5 = .ok (.aload_n 0, 1) := by decide +kernel
theorem dX10_frameWord_6 : decode cX10_frameWord 6 = .ok (.getfield 27, 3) := by decide +kernel
theorem tw_848 : (.fieldLink RX10 27 "PocketCompiler$Worker" "frames" "[I" : Cond) ∈ tw_W := tw_in (t8_2 (List.mem_of_getElem? (i := 159) rfl)) rfl
theorem dX10_frameWord_9 : decode cX10_frameWord 9 = .ok (.arraylength, 1) := by decide +kernel
theorem dX10_frameWord_10 : decode cX10_frameWord 10 = .ok (.if_icmp .ge 12, 3) := by decide +kernel
theorem dX10_frameWord_13 : decode cX10_frameWord 13 = .ok (.aload_n 0, 1) := by decide +kernel
theorem dX10_frameWord_14 : decode cX10_frameWord 14 = .ok (.getfield 27, 3) := by decide +kernel
theorem dX10_frameWord_17 : decode cX10_frameWord 17 = .ok (.iload_n 1, 1) := by decide +kernel
theorem dX10_frameWord_18 : decode cX10_frameWord 18 = .ok (.iaload, 1) := by decide +kernel
theorem dX10_frameWord_19 : decode cX10_frameWord 19 = .ok (.goto 4, 3) := by decide +kernel
theorem dX10_changeFrameWord_0 : decode cX10_changeFrameWord 0 = .ok (.iload_n 1, 1) := by decide +kernel
theorem dX10_changeFrameWord_1 : decode cX10_changeFrameWord 1 = .ok (.ifCond .lt 19, 3) := by decide +kernel
theorem dX10_changeFrameWord_20 : decode cX10_changeFrameWord 20 = .ok (.return_, 1) := by decide +kernel
theorem dX10_changeFrameWord_4 : decode cX10_changeFrameWord 4 = .ok (.iload_n 1, 1) := by decide +kernel
theorem dX10_changeFrameWord_5 : decode cX10_changeFrameWord 5 = .ok (.aload_n 0, 1) := by decide +kernel
theorem dX10_changeFrameWord_6 : decode cX10_changeFrameWord 6 = .ok (.getfield 27, 3) := by decide +kernel
theorem dX10_changeFrameWord_9 : decode cX10_changeFrameWord 9 = .ok (.arraylength, 1) := by decide +kernel
theorem dX10_changeFrameWord_10 : decode cX10_changeFrameWord 10 = .ok (.if_icmp .ge 10, 3) := by decide +kernel
theorem dX10_changeFrameWord_13 : decode cX10_changeFrameWord 13 = .ok (.aload_n 0, 1) := by decide +kernel
theorem dX10_changeFrameWord_14 : decode cX10_changeFrameWord 14 = .ok (.getfield 27, 3) := by decide +kernel
theorem dX10_changeFrameWord_17 : decode cX10_changeFrameWord 17 = .ok (.iload_n 1, 1) := by decide +kernel
theorem dX10_changeFrameWord_18 : decode cX10_changeFrameWord 18 = .ok (.iload_n 2, 1) := by decide +kernel
theorem dX10_changeFrameWord_19 : decode cX10_changeFrameWord 19 = .ok (.iastore, 1) := by decide +kernel
theorem dX10_placeOfSlot_0 : decode cX10_placeOfSlot 0 = .ok (.aload_n 0, 1) := by decide +kernel
theorem dX10_placeOfSlot_1 : decode cX10_placeOfSlot 1 = .ok (.getfield 55, 3) := by decide +kernel
theorem tw_849 : (.fieldLink RX10 55 "PocketCompiler$Worker" "base" "I" : Cond) ∈ tw_W := tw_in (t8_2 (List.mem_of_getElem? (i := 168) rfl)) rfl
theorem dX10_placeOfSlot_4 : decode cX10_placeOfSlot 4 = .ok (.iconst 2, 1) := by decide +kernel
theorem dX10_placeOfSlot_5 : decode cX10_placeOfSlot 5 = .ok (.iadd, 1) := by decide +kernel
theorem dX10_placeOfSlot_6 : decode cX10_placeOfSlot 6 = .ok (.iload_n 1, 1) := by decide +kernel
theorem dX10_placeOfSlot_7 : decode cX10_placeOfSlot 7 = .ok (.iadd, 1) := by decide +kernel
theorem dX10_placeOfSlot_8 : decode cX10_placeOfSlot 8 = .ok (.ireturn, 1) := by decide +kernel
theorem dX10_slotAt_0 : decode cX10_slotAt 0 = .ok (.aload_n 0, 1) := by decide +kernel
theorem dX10_slotAt_1 : decode cX10_slotAt 1 = .ok (.aload_n 0, 1) := by decide +kernel
theorem dX10_slotAt_2 : decode cX10_slotAt 2 = .ok (.iload_n 1, 1) := by decide +kernel
theorem dX10_slotAt_3 : decode cX10_slotAt 3 = .ok (.invokevirtual 58, 3) := by decide +kernel
theorem tw_850 : (.code yX10_placeOfSlot cX10_placeOfSlot 2 (some .int) : Cond) ∈ tw_W := tw_in (t8_8 (List.mem_of_getElem? (i := 184) rfl)) rfl
theorem tw_851 : ∀ w ∈ ([.methodLink RX10 58 yX10_placeOfSlot, .instanceMethod yX10_placeOfSlot, .selects RX10 yX10_placeOfSlot yX10_placeOfSlot, .initialized RX10] : List Cond), w ∈ tw_W := al_c (tw_in (t8_8 (List.mem_of_getElem? (i := 181) rfl)) rfl) (al_c (tw_in (t8_8 (List.mem_of_getElem? (i := 183) rfl)) rfl) (al_c (tw_in (t7_6 (q := (yX10_placeOfSlot, 17)) (List.mem_of_getElem? (i := 15) rfl)) rfl) (al_c (tw_in (t8_1 (List.mem_of_getElem? (i := 15) rfl)) rfl) al_n)))
theorem dX10_slotAt_6 : decode cX10_slotAt 6 = .ok (.invokevirtual 62, 3) := by decide +kernel
theorem tw_852 : (.code yX10_frameWord cX10_frameWord 2 (some .int) : Cond) ∈ tw_W := tw_in (t8_8 (List.mem_of_getElem? (i := 197) rfl)) rfl
theorem tw_853 : ∀ w ∈ ([.methodLink RX10 62 yX10_frameWord, .instanceMethod yX10_frameWord, .selects RX10 yX10_frameWord yX10_frameWord, .initialized RX10] : List Cond), w ∈ tw_W := al_c (tw_in (t8_8 (List.mem_of_getElem? (i := 194) rfl)) rfl) (al_c (tw_in (t8_8 (List.mem_of_getElem? (i := 196) rfl)) rfl) (al_c (tw_in (t7_7 (q := (yX10_frameWord, 17)) (List.mem_of_getElem? (i := 2) rfl)) rfl) (al_c (tw_in (t8_1 (List.mem_of_getElem? (i := 15) rfl)) rfl) al_n)))
theorem dX10_slotAt_9 : decode cX10_slotAt 9 = .ok (.ireturn, 1) := by decide +kernel
theorem dX10_changeSlot_0 : decode cX10_changeSlot 0 = .ok (.aload_n 0, 1) := by decide +kernel
theorem dX10_changeSlot_1 : decode cX10_changeSlot 1 = .ok (.aload_n 0, 1) := by decide +kernel
theorem dX10_changeSlot_2 : decode cX10_changeSlot 2 = .ok (.iload_n 1, 1) := by decide +kernel
theorem dX10_changeSlot_3 : decode cX10_changeSlot 3 = .ok (.invokevirtual 58, 3) := by decide +kernel
theorem dX10_changeSlot_6 : decode cX10_changeSlot 6 = .ok (.iload_n 2, 1) := by decide +kernel
theorem dX10_changeSlot_7 : decode cX10_changeSlot 7 = .ok (.invokevirtual 65, 3) := by decide +kernel
theorem tw_854 : (.code yX10_changeFrameWord cX10_changeFrameWord 3 none : Cond) ∈ tw_W := tw_in (t8_8 (List.mem_of_getElem? (i := 175) rfl)) rfl
theorem tw_855 : ∀ w ∈ ([.methodLink RX10 65 yX10_changeFrameWord, .instanceMethod yX10_changeFrameWord, .selects RX10 yX10_changeFrameWord yX10_changeFrameWord, .initialized RX10] : List Cond), w ∈ tw_W := al_c (tw_in (t8_8 (List.mem_of_getElem? (i := 172) rfl)) rfl) (al_c (tw_in (t8_8 (List.mem_of_getElem? (i := 174) rfl)) rfl) (al_c (tw_in (t7_6 (q := (yX10_changeFrameWord, 17)) (List.mem_of_getElem? (i := 13) rfl)) rfl) (al_c (tw_in (t8_1 (List.mem_of_getElem? (i := 15) rfl)) rfl) al_n)))
theorem dX10_changeSlot_10 : decode cX10_changeSlot 10 = .ok (.return_, 1) := by decide +kernel
theorem dX10_takeTurn_0 : decode cX10_takeTurn 0 = .ok (.aload_n 0, 1) := by decide +kernel
theorem dX10_takeTurn_1 : decode cX10_takeTurn 1 = .ok (.getfield 43, 3) := by decide +kernel
theorem dX10_takeTurn_4 : decode cX10_takeTurn 4 = .ok (.aload_n 0, 1) := by decide +kernel
theorem dX10_takeTurn_5 : decode cX10_takeTurn 5 = .ok (.getfield 72, 3) := by decide +kernel
theorem tw_856 : (.fieldLink RX10 72 "PocketCompiler$Worker" "mostTurns" "I" : Cond) ∈ tw_W := tw_in (t8_2 (List.mem_of_getElem? (i := 170) rfl)) rfl
theorem dX10_takeTurn_8 : decode cX10_takeTurn 8 = .ok (.if_icmp .lt 11, 3) := by decide +kernel
theorem dX10_takeTurn_19 : decode cX10_takeTurn 19 = .ok (.aload_n 0, 1) := by decide +kernel
theorem dX10_takeTurn_20 : decode cX10_takeTurn 20 = .ok (.dup, 1) := by decide +kernel
theorem dX10_takeTurn_21 : decode cX10_takeTurn 21 = .ok (.getfield 43, 3) := by decide +kernel
theorem dX10_takeTurn_24 : decode cX10_takeTurn 24 = .ok (.iconst 1, 1) := by decide +kernel
theorem dX10_takeTurn_25 : decode cX10_takeTurn 25 = .ok (.iadd, 1) := by decide +kernel
theorem dX10_takeTurn_26 : decode cX10_takeTurn 26 = .ok (.putfield 43, 3) := by decide +kernel
theorem dX10_takeTurn_29 : decode cX10_takeTurn 29 = .ok (.return_, 1) := by decide +kernel
theorem dX10_takeTurn_11 : decode cX10_takeTurn 11 = .ok (.aload_n 0, 1) := by decide +kernel
theorem dX10_takeTurn_12 : decode cX10_takeTurn 12 = .ok (.iconst 4, 1) := by decide +kernel
theorem dX10_takeTurn_13 : decode cX10_takeTurn 13 = .ok (.putfield 37, 3) := by decide +kernel
theorem dX10_takeTurn_16 : decode cX10_takeTurn 16 = .ok (.goto 13, 3) := by decide +kernel
theorem dX10_enter_0 : decode cX10_enter 0 = .ok (.aload_n 0, 1) := by decide +kernel
theorem dX10_enter_1 : decode cX10_enter 1 = .ok (.getfield 15, 3) := by decide +kernel
theorem tw_857 : (.fieldLink RX10 15 "PocketCompiler$Worker" "program" "LPocketCompiler$Program;" : Cond) ∈ tw_W := tw_in (t8_2 (List.mem_of_getElem? (i := 156) rfl)) rfl
theorem dX10_enter_4 : decode cX10_enter 4 = .ok (.iload_n 1, 1) := by decide +kernel
theorem dX10_enter_5 : decode cX10_enter 5 = .ok (.iconst 2, 1) := by decide +kernel
theorem dX10_enter_6 : decode cX10_enter 6 = .ok (.invokevirtual 83, 3) := by decide +kernel
theorem tw_858 : ∀ w ∈ ([.methodLink RX10 83 yX7_functionFact, .instanceMethod yX7_functionFact, .selects RX7 yX7_functionFact yX7_functionFact, .initialized RX7] : List Cond), w ∈ tw_W := al_c (tw_in (t8_8 (List.mem_of_getElem? (i := 163) rfl)) rfl) (al_c (tw_in (t8_3 (List.mem_of_getElem? (i := 212) rfl)) rfl) (al_c (tw_in (t8_3 (List.mem_of_getElem? (i := 213) rfl)) rfl) (al_c (tw_in (t8_1 (List.mem_of_getElem? (i := 8) rfl)) rfl) al_n)))
theorem dX10_enter_9 : decode cX10_enter 9 = .ok (.iconst 2, 1) := by decide +kernel
theorem dX10_enter_10 : decode cX10_enter 10 = .ok (.ishr, 1) := by decide +kernel
theorem dX10_enter_11 : decode cX10_enter 11 = .ok (.istore_n 3, 1) := by decide +kernel
theorem dX10_enter_12 : decode cX10_enter 12 = .ok (.iconst 4, 1) := by decide +kernel
theorem dX10_enter_13 : decode cX10_enter 13 = .ok (.aload_n 0, 1) := by decide +kernel
theorem dX10_enter_14 : decode cX10_enter 14 = .ok (.getfield 69, 3) := by decide +kernel
theorem tw_859 : (.fieldLink RX10 69 "PocketCompiler$Worker" "top" "I" : Cond) ∈ tw_W := tw_in (t8_2 (List.mem_of_getElem? (i := 169) rfl)) rfl
theorem dX10_enter_17 : decode cX10_enter 17 = .ok (.iload_n 3, 1) := by decide +kernel
theorem dX10_enter_18 : decode cX10_enter 18 = .ok (.iadd, 1) := by decide +kernel
theorem dX10_enter_19 : decode cX10_enter 19 = .ok (.imul, 1) := by decide +kernel
theorem dX10_enter_20 : decode cX10_enter 20 = .ok (.bipush 8, 2) := by decide +kernel
theorem dX10_enter_22 : decode cX10_enter 22 = .ok (.iadd, 1) := by decide +kernel
theorem dX10_enter_23 : decode cX10_enter 23 = .ok (.aload_n 0, 1) := by decide +kernel
theorem dX10_enter_24 : decode cX10_enter 24 = .ok (.getfield 23, 3) := by decide +kernel
theorem tw_860 : (.fieldLink RX10 23 "PocketCompiler$Worker" "memoryBytes" "I" : Cond) ∈ tw_W := tw_in (t8_2 (List.mem_of_getElem? (i := 158) rfl)) rfl
theorem dX10_enter_27 : decode cX10_enter 27 = .ok (.aload_n 0, 1) := by decide +kernel
theorem dX10_enter_28 : decode cX10_enter 28 = .ok (.getfield 15, 3) := by decide +kernel
theorem dX10_enter_31 : decode cX10_enter 31 = .ok (.getfield 97, 3) := by decide +kernel
theorem tw_861 : (.fieldLink RX10 97 "PocketCompiler$Program" "limit" "I" : Cond) ∈ tw_W := tw_in (t8_1 (List.mem_of_getElem? (i := 150) rfl)) rfl
theorem dX10_enter_34 : decode cX10_enter 34 = .ok (.isub, 1) := by decide +kernel
theorem dX10_enter_35 : decode cX10_enter 35 = .ok (.if_icmp .le 9, 3) := by decide +kernel
theorem dX10_enter_44 : decode cX10_enter 44 = .ok (.aload_n 0, 1) := by decide +kernel
theorem dX10_enter_45 : decode cX10_enter 45 = .ok (.invokevirtual 100, 3) := by decide +kernel
theorem tw_862 : (.code yX10_takeTurn cX10_takeTurn 1 none : Cond) ∈ tw_W := tw_in (t8_8 (List.mem_of_getElem? (i := 171) rfl)) rfl
theorem tw_863 : ∀ w ∈ ([.methodLink RX10 100 yX10_takeTurn, .instanceMethod yX10_takeTurn, .selects RX10 yX10_takeTurn yX10_takeTurn, .initialized RX10] : List Cond), w ∈ tw_W := al_c (tw_in (t8_8 (List.mem_of_getElem? (i := 168) rfl)) rfl) (al_c (tw_in (t8_8 (List.mem_of_getElem? (i := 170) rfl)) rfl) (al_c (tw_in (t7_6 (q := (yX10_takeTurn, 17)) (List.mem_of_getElem? (i := 12) rfl)) rfl) (al_c (tw_in (t8_1 (List.mem_of_getElem? (i := 15) rfl)) rfl) al_n)))
theorem dX10_enter_48 : decode cX10_enter 48 = .ok (.aload_n 0, 1) := by decide +kernel
theorem dX10_enter_49 : decode cX10_enter 49 = .ok (.getfield 37, 3) := by decide +kernel
theorem dX10_enter_52 : decode cX10_enter 52 = .ok (.iconst (-1), 1) := by decide +kernel
theorem dX10_enter_53 : decode cX10_enter 53 = .ok (.if_icmp .eq 4, 3) := by decide +kernel
theorem dX10_enter_57 : decode cX10_enter 57 = .ok (.aload_n 0, 1) := by decide +kernel
theorem dX10_enter_58 : decode cX10_enter 58 = .ok (.aload_n 0, 1) := by decide +kernel
theorem dX10_enter_59 : decode cX10_enter 59 = .ok (.getfield 69, 3) := by decide +kernel
theorem dX10_enter_62 : decode cX10_enter 62 = .ok (.iload_n 2, 1) := by decide +kernel
theorem dX10_enter_63 : decode cX10_enter 63 = .ok (.invokevirtual 65, 3) := by decide +kernel
theorem dX10_enter_66 : decode cX10_enter 66 = .ok (.aload_n 0, 1) := by decide +kernel
theorem dX10_enter_67 : decode cX10_enter 67 = .ok (.aload_n 0, 1) := by decide +kernel
theorem dX10_enter_68 : decode cX10_enter 68 = .ok (.getfield 69, 3) := by decide +kernel
theorem dX10_enter_71 : decode cX10_enter 71 = .ok (.iconst 1, 1) := by decide +kernel
theorem dX10_enter_72 : decode cX10_enter 72 = .ok (.iadd, 1) := by decide +kernel
theorem dX10_enter_73 : decode cX10_enter 73 = .ok (.aload_n 0, 1) := by decide +kernel
theorem dX10_enter_74 : decode cX10_enter 74 = .ok (.getfield 55, 3) := by decide +kernel
theorem dX10_enter_77 : decode cX10_enter 77 = .ok (.invokevirtual 65, 3) := by decide +kernel
theorem dX10_enter_80 : decode cX10_enter 80 = .ok (.aload_n 0, 1) := by decide +kernel
theorem dX10_enter_81 : decode cX10_enter 81 = .ok (.aload_n 0, 1) := by decide +kernel
theorem dX10_enter_82 : decode cX10_enter 82 = .ok (.getfield 69, 3) := by decide +kernel
theorem dX10_enter_85 : decode cX10_enter 85 = .ok (.putfield 55, 3) := by decide +kernel
theorem dX10_enter_88 : decode cX10_enter 88 = .ok (.aload_n 0, 1) := by decide +kernel
theorem dX10_enter_89 : decode cX10_enter 89 = .ok (.dup, 1) := by decide +kernel
theorem dX10_enter_90 : decode cX10_enter 90 = .ok (.getfield 69, 3) := by decide +kernel
theorem dX10_enter_93 : decode cX10_enter 93 = .ok (.iload_n 3, 1) := by decide +kernel
theorem dX10_enter_94 : decode cX10_enter 94 = .ok (.iadd, 1) := by decide +kernel
theorem dX10_enter_95 : decode cX10_enter 95 = .ok (.putfield 69, 3) := by decide +kernel
theorem dX10_enter_98 : decode cX10_enter 98 = .ok (.aload_n 0, 1) := by decide +kernel
theorem dX10_enter_99 : decode cX10_enter 99 = .ok (.aload_n 0, 1) := by decide +kernel
theorem dX10_enter_100 : decode cX10_enter 100 = .ok (.getfield 46, 3) := by decide +kernel
theorem dX10_enter_103 : decode cX10_enter 103 = .ok (.iconst 4, 1) := by decide +kernel
theorem dX10_enter_104 : decode cX10_enter 104 = .ok (.aload_n 0, 1) := by decide +kernel
theorem dX10_enter_105 : decode cX10_enter 105 = .ok (.getfield 69, 3) := by decide +kernel
theorem dX10_enter_108 : decode cX10_enter 108 = .ok (.imul, 1) := by decide +kernel
theorem dX10_enter_109 : decode cX10_enter 109 = .ok (.invokestatic 103, 3) := by decide +kernel
theorem tw_864 : (.methodLink RX10 103 Lib.Math.max.name : Cond) ∈ tw_W := tw_in (t8_8 (List.mem_of_getElem? (i := 176) rfl)) rfl
theorem dX10_enter_112 : decode cX10_enter 112 = .ok (.putfield 46, 3) := by decide +kernel
theorem dX10_enter_115 : decode cX10_enter 115 = .ok (.aload_n 0, 1) := by decide +kernel
theorem dX10_enter_116 : decode cX10_enter 116 = .ok (.aload_n 0, 1) := by decide +kernel
theorem dX10_enter_117 : decode cX10_enter 117 = .ok (.getfield 15, 3) := by decide +kernel
theorem dX10_enter_120 : decode cX10_enter 120 = .ok (.iload_n 1, 1) := by decide +kernel
theorem dX10_enter_121 : decode cX10_enter 121 = .ok (.iconst 5, 1) := by decide +kernel
theorem dX10_enter_122 : decode cX10_enter 122 = .ok (.invokevirtual 83, 3) := by decide +kernel
theorem dX10_enter_125 : decode cX10_enter 125 = .ok (.putfield 108, 3) := by decide +kernel
theorem tw_865 : (.fieldLink RX10 108 "PocketCompiler$Worker" "at" "I" : Cond) ∈ tw_W := tw_in (t8_2 (List.mem_of_getElem? (i := 167) rfl)) rfl
theorem dX10_enter_128 : decode cX10_enter 128 = .ok (.return_, 1) := by decide +kernel
theorem dX10_enter_56 : decode cX10_enter 56 = .ok (.return_, 1) := by decide +kernel
theorem dX10_enter_38 : decode cX10_enter 38 = .ok (.aload_n 0, 1) := by decide +kernel
theorem dX10_enter_39 : decode cX10_enter 39 = .ok (.iconst 1, 1) := by decide +kernel
theorem dX10_enter_40 : decode cX10_enter 40 = .ok (.putfield 37, 3) := by decide +kernel
theorem dX10_enter_43 : decode cX10_enter 43 = .ok (.return_, 1) := by decide +kernel
theorem dX10_begin_0 : decode cX10_begin 0 = .ok (.aload_n 0, 1) := by decide +kernel
theorem dX10_begin_1 : decode cX10_begin 1 = .ok (.aload_n 1, 1) := by decide +kernel
theorem dX10_begin_2 : decode cX10_begin 2 = .ok (.putfield 15, 3) := by decide +kernel
theorem dX10_begin_5 : decode cX10_begin 5 = .ok (.aload_n 0, 1) := by decide +kernel
theorem dX10_begin_6 : decode cX10_begin 6 = .ok (.iconst 1, 1) := by decide +kernel
theorem dX10_begin_7 : decode cX10_begin 7 = .ok (.putfield 33, 3) := by decide +kernel
theorem dX10_begin_10 : decode cX10_begin 10 = .ok (.aload_n 0, 1) := by decide +kernel
theorem dX10_begin_11 : decode cX10_begin 11 = .ok (.iconst (-1), 1) := by decide +kernel
theorem dX10_begin_12 : decode cX10_begin 12 = .ok (.putfield 37, 3) := by decide +kernel
theorem dX10_begin_15 : decode cX10_begin 15 = .ok (.aload_n 0, 1) := by decide +kernel
theorem dX10_begin_16 : decode cX10_begin 16 = .ok (.iconst 0, 1) := by decide +kernel
theorem dX10_begin_17 : decode cX10_begin 17 = .ok (.putfield 40, 3) := by decide +kernel
theorem dX10_begin_20 : decode cX10_begin 20 = .ok (.aload_n 0, 1) := by decide +kernel
theorem dX10_begin_21 : decode cX10_begin 21 = .ok (.iconst 0, 1) := by decide +kernel
theorem dX10_begin_22 : decode cX10_begin 22 = .ok (.putfield 55, 3) := by decide +kernel
theorem dX10_begin_25 : decode cX10_begin 25 = .ok (.aload_n 0, 1) := by decide +kernel
theorem dX10_begin_26 : decode cX10_begin 26 = .ok (.iconst 0, 1) := by decide +kernel
theorem dX10_begin_27 : decode cX10_begin 27 = .ok (.putfield 69, 3) := by decide +kernel
theorem dX10_begin_30 : decode cX10_begin 30 = .ok (.aload_n 0, 1) := by decide +kernel
theorem dX10_begin_31 : decode cX10_begin 31 = .ok (.iload_n 2, 1) := by decide +kernel
theorem dX10_begin_32 : decode cX10_begin 32 = .ok (.putfield 72, 3) := by decide +kernel
theorem dX10_begin_35 : decode cX10_begin 35 = .ok (.aload_n 0, 1) := by decide +kernel
theorem dX10_begin_36 : decode cX10_begin 36 = .ok (.iconst 0, 1) := by decide +kernel
theorem dX10_begin_37 : decode cX10_begin 37 = .ok (.putfield 43, 3) := by decide +kernel
theorem dX10_begin_40 : decode cX10_begin 40 = .ok (.aload_n 0, 1) := by decide +kernel
theorem dX10_begin_41 : decode cX10_begin 41 = .ok (.iconst 0, 1) := by decide +kernel
theorem dX10_begin_42 : decode cX10_begin 42 = .ok (.putfield 46, 3) := by decide +kernel
theorem dX10_begin_45 : decode cX10_begin 45 = .ok (.aload_n 0, 1) := by decide +kernel
theorem dX10_begin_46 : decode cX10_begin 46 = .ok (.iconst 0, 1) := by decide +kernel
theorem dX10_begin_47 : decode cX10_begin 47 = .ok (.putfield 49, 3) := by decide +kernel
theorem dX10_begin_50 : decode cX10_begin 50 = .ok (.aload_n 0, 1) := by decide +kernel
theorem dX10_begin_51 : decode cX10_begin 51 = .ok (.iconst 0, 1) := by decide +kernel
theorem dX10_begin_52 : decode cX10_begin 52 = .ok (.putfield 52, 3) := by decide +kernel
theorem dX10_begin_55 : decode cX10_begin 55 = .ok (.aload_n 0, 1) := by decide +kernel
theorem dX10_begin_56 : decode cX10_begin 56 = .ok (.getfield 30, 3) := by decide +kernel
theorem dX10_begin_59 : decode cX10_begin 59 = .ok (.iconst 0, 1) := by decide +kernel
theorem dX10_begin_60 : decode cX10_begin 60 = .ok (.invokestatic 75, 3) := by decide +kernel
theorem tw_866 : ∀ w ∈ ([.methodLink RX10 75 yJ7_fill_53178, .static yJ7_fill_53178, .initialized yJ7_fill_53178.cls] : List Cond), w ∈ tw_W := al_c (tw_in (t8_8 (List.mem_of_getElem? (i := 158) rfl)) rfl) (al_c (tw_in (t8_6 (List.mem_of_getElem? (i := 13) rfl)) rfl) (al_c (tw_in (t8_1 (List.mem_of_getElem? (i := 28) rfl)) rfl) al_n))
theorem dX10_begin_63 : decode cX10_begin 63 = .ok (.return_, 1) := by decide +kernel
theorem dX10_callFunction_0 : decode cX10_callFunction 0 = .ok (.aload_n 0, 1) := by decide +kernel
theorem dX10_callFunction_1 : decode cX10_callFunction 1 = .ok (.iload_n 2, 1) := by decide +kernel
theorem dX10_callFunction_2 : decode cX10_callFunction 2 = .ok (.invokevirtual 58, 3) := by decide +kernel
theorem dX10_callFunction_5 : decode cX10_callFunction 5 = .ok (.istore_n 3, 1) := by decide +kernel
theorem dX10_callFunction_6 : decode cX10_callFunction 6 = .ok (.aload_n 0, 1) := by decide +kernel
theorem dX10_callFunction_7 : decode cX10_callFunction 7 = .ok (.iload_n 1, 1) := by decide +kernel
theorem dX10_callFunction_8 : decode cX10_callFunction 8 = .ok (.aload_n 0, 1) := by decide +kernel
theorem dX10_callFunction_9 : decode cX10_callFunction 9 = .ok (.getfield 108, 3) := by decide +kernel
theorem dX10_callFunction_12 : decode cX10_callFunction 12 = .ok (.invokevirtual 87, 3) := by decide +kernel
theorem tw_867 : (.code yX10_enter cX10_enter 4 none : Cond) ∈ tw_W := tw_in (t8_8 (List.mem_of_getElem? (i := 167) rfl)) rfl
theorem tw_868 : ∀ w ∈ ([.methodLink RX10 87 yX10_enter, .instanceMethod yX10_enter, .selects RX10 yX10_enter yX10_enter, .initialized RX10] : List Cond), w ∈ tw_W := al_c (tw_in (t8_8 (List.mem_of_getElem? (i := 164) rfl)) rfl) (al_c (tw_in (t8_8 (List.mem_of_getElem? (i := 166) rfl)) rfl) (al_c (tw_in (t7_6 (q := (yX10_enter, 17)) (List.mem_of_getElem? (i := 11) rfl)) rfl) (al_c (tw_in (t8_1 (List.mem_of_getElem? (i := 15) rfl)) rfl) al_n)))
theorem dX10_callFunction_15 : decode cX10_callFunction 15 = .ok (.iconst 0, 1) := by decide +kernel
theorem dX10_callFunction_16 : decode cX10_callFunction 16 = .ok (.istore 4, 2) := by decide +kernel
theorem dX10_callFunction_18 : decode cX10_callFunction 18 = .ok (.iload 4, 2) := by decide +kernel
theorem dX10_callFunction_20 : decode cX10_callFunction 20 = .ok (.aload_n 0, 1) := by decide +kernel
theorem dX10_callFunction_21 : decode cX10_callFunction 21 = .ok (.getfield 15, 3) := by decide +kernel
theorem dX10_callFunction_24 : decode cX10_callFunction 24 = .ok (.iload_n 1, 1) := by decide +kernel
theorem dX10_callFunction_25 : decode cX10_callFunction 25 = .ok (.iconst 0, 1) := by decide +kernel
theorem dX10_callFunction_26 : decode cX10_callFunction 26 = .ok (.invokevirtual 83, 3) := by decide +kernel
theorem dX10_callFunction_29 : decode cX10_callFunction 29 = .ok (.if_icmp .ge 31, 3) := by decide +kernel
theorem dX10_callFunction_60 : decode cX10_callFunction 60 = .ok (.return_, 1) := by decide +kernel
theorem dX10_callFunction_32 : decode cX10_callFunction 32 = .ok (.aload_n 0, 1) := by decide +kernel
theorem dX10_callFunction_33 : decode cX10_callFunction 33 = .ok (.getfield 37, 3) := by decide +kernel
theorem dX10_callFunction_36 : decode cX10_callFunction 36 = .ok (.iconst (-1), 1) := by decide +kernel
theorem dX10_callFunction_37 : decode cX10_callFunction 37 = .ok (.if_icmp .ne 23, 3) := by decide +kernel
theorem dX10_callFunction_40 : decode cX10_callFunction 40 = .ok (.aload_n 0, 1) := by decide +kernel
theorem dX10_callFunction_41 : decode cX10_callFunction 41 = .ok (.iload 4, 2) := by decide +kernel
theorem dX10_callFunction_43 : decode cX10_callFunction 43 = .ok (.aload_n 0, 1) := by decide +kernel
theorem dX10_callFunction_44 : decode cX10_callFunction 44 = .ok (.iload_n 3, 1) := by decide +kernel
theorem dX10_callFunction_45 : decode cX10_callFunction 45 = .ok (.iload 4, 2) := by decide +kernel
theorem dX10_callFunction_47 : decode cX10_callFunction 47 = .ok (.iadd, 1) := by decide +kernel
theorem dX10_callFunction_48 : decode cX10_callFunction 48 = .ok (.invokevirtual 62, 3) := by decide +kernel
theorem dX10_callFunction_51 : decode cX10_callFunction 51 = .ok (.invokevirtual 90, 3) := by decide +kernel
theorem tw_869 : (.code yX10_changeSlot cX10_changeSlot 3 none : Cond) ∈ tw_W := tw_in (t8_8 (List.mem_of_getElem? (i := 180) rfl)) rfl
theorem tw_870 : ∀ w ∈ ([.methodLink RX10 90 yX10_changeSlot, .instanceMethod yX10_changeSlot, .selects RX10 yX10_changeSlot yX10_changeSlot, .initialized RX10] : List Cond), w ∈ tw_W := al_c (tw_in (t8_8 (List.mem_of_getElem? (i := 177) rfl)) rfl) (al_c (tw_in (t8_8 (List.mem_of_getElem? (i := 179) rfl)) rfl) (al_c (tw_in (t7_6 (q := (yX10_changeSlot, 17)) (List.mem_of_getElem? (i := 14) rfl)) rfl) (al_c (tw_in (t8_1 (List.mem_of_getElem? (i := 15) rfl)) rfl) al_n)))
theorem dX10_callFunction_54 : decode cX10_callFunction 54 = .ok (.iinc 4 1, 3) := by decide +kernel
theorem dX10_callFunction_57 : decode cX10_callFunction 57 = .ok (.goto (-39), 3) := by decide +kernel
theorem dX10_leaveFunction_0 : decode cX10_leaveFunction 0 = .ok (.aload_n 0, 1) := by decide +kernel
theorem dX10_leaveFunction_1 : decode cX10_leaveFunction 1 = .ok (.aload_n 0, 1) := by decide +kernel
theorem dX10_leaveFunction_2 : decode cX10_leaveFunction 2 = .ok (.getfield 55, 3) := by decide +kernel
theorem dX10_leaveFunction_5 : decode cX10_leaveFunction 5 = .ok (.invokevirtual 62, 3) := by decide +kernel
theorem dX10_leaveFunction_8 : decode cX10_leaveFunction 8 = .ok (.istore_n 1, 1) := by decide +kernel
theorem dX10_leaveFunction_9 : decode cX10_leaveFunction 9 = .ok (.aload_n 0, 1) := by decide +kernel
theorem dX10_leaveFunction_10 : decode cX10_leaveFunction 10 = .ok (.aload_n 0, 1) := by decide +kernel
theorem dX10_leaveFunction_11 : decode cX10_leaveFunction 11 = .ok (.getfield 55, 3) := by decide +kernel
theorem dX10_leaveFunction_14 : decode cX10_leaveFunction 14 = .ok (.putfield 69, 3) := by decide +kernel
theorem dX10_leaveFunction_17 : decode cX10_leaveFunction 17 = .ok (.aload_n 0, 1) := by decide +kernel
theorem dX10_leaveFunction_18 : decode cX10_leaveFunction 18 = .ok (.aload_n 0, 1) := by decide +kernel
theorem dX10_leaveFunction_19 : decode cX10_leaveFunction 19 = .ok (.aload_n 0, 1) := by decide +kernel
theorem dX10_leaveFunction_20 : decode cX10_leaveFunction 20 = .ok (.getfield 55, 3) := by decide +kernel
theorem dX10_leaveFunction_23 : decode cX10_leaveFunction 23 = .ok (.iconst 1, 1) := by decide +kernel
theorem dX10_leaveFunction_24 : decode cX10_leaveFunction 24 = .ok (.iadd, 1) := by decide +kernel
theorem dX10_leaveFunction_25 : decode cX10_leaveFunction 25 = .ok (.invokevirtual 62, 3) := by decide +kernel
theorem dX10_leaveFunction_28 : decode cX10_leaveFunction 28 = .ok (.putfield 55, 3) := by decide +kernel
theorem dX10_leaveFunction_31 : decode cX10_leaveFunction 31 = .ok (.iload_n 1, 1) := by decide +kernel
theorem dX10_leaveFunction_32 : decode cX10_leaveFunction 32 = .ok (.iconst (-1), 1) := by decide +kernel
theorem dX10_leaveFunction_33 : decode cX10_leaveFunction 33 = .ok (.if_icmp .ne 11, 3) := by decide +kernel
theorem dX10_leaveFunction_44 : decode cX10_leaveFunction 44 = .ok (.aload_n 0, 1) := by decide +kernel
theorem dX10_leaveFunction_45 : decode cX10_leaveFunction 45 = .ok (.iload_n 1, 1) := by decide +kernel
theorem dX10_leaveFunction_46 : decode cX10_leaveFunction 46 = .ok (.putfield 108, 3) := by decide +kernel
theorem dX10_leaveFunction_49 : decode cX10_leaveFunction 49 = .ok (.return_, 1) := by decide +kernel
theorem dX10_leaveFunction_36 : decode cX10_leaveFunction 36 = .ok (.aload_n 0, 1) := by decide +kernel
theorem dX10_leaveFunction_37 : decode cX10_leaveFunction 37 = .ok (.iconst 0, 1) := by decide +kernel
theorem dX10_leaveFunction_38 : decode cX10_leaveFunction 38 = .ok (.putfield 37, 3) := by decide +kernel
theorem dX10_leaveFunction_41 : decode cX10_leaveFunction 41 = .ok (.goto 8, 3) := by decide +kernel
theorem dX10_index_0 : decode cX10_index 0 = .ok (.aload_n 0, 1) := by decide +kernel
theorem dX10_index_1 : decode cX10_index 1 = .ok (.getfield 40, 3) := by decide +kernel
theorem dX10_index_4 : decode cX10_index 4 = .ok (.ifCond .lt 19, 3) := by decide +kernel
theorem dX10_index_23 : decode cX10_index 23 = .ok (.aload_n 0, 1) := by decide +kernel
theorem dX10_index_24 : decode cX10_index 24 = .ok (.iconst 3, 1) := by decide +kernel
theorem dX10_index_25 : decode cX10_index 25 = .ok (.putfield 37, 3) := by decide +kernel
theorem dX10_index_28 : decode cX10_index 28 = .ok (.goto 20, 3) := by decide +kernel
theorem dX10_index_48 : decode cX10_index 48 = .ok (.return_, 1) := by decide +kernel
theorem dX10_index_7 : decode cX10_index 7 = .ok (.aload_n 0, 1) := by decide +kernel
theorem dX10_index_8 : decode cX10_index 8 = .ok (.getfield 40, 3) := by decide +kernel
theorem dX10_index_11 : decode cX10_index 11 = .ok (.aload_n 0, 1) := by decide +kernel
theorem dX10_index_12 : decode cX10_index 12 = .ok (.getfield 15, 3) := by decide +kernel
theorem dX10_index_15 : decode cX10_index 15 = .ok (.iload_n 1, 1) := by decide +kernel
theorem dX10_index_16 : decode cX10_index 16 = .ok (.iconst 0, 1) := by decide +kernel
theorem dX10_index_17 : decode cX10_index 17 = .ok (.invokevirtual 163, 3) := by decide +kernel
theorem tw_871 : ∀ w ∈ ([.methodLink RX10 163 yX7_globalFact, .instanceMethod yX7_globalFact, .selects RX7 yX7_globalFact yX7_globalFact, .initialized RX7] : List Cond), w ∈ tw_W := al_c (tw_in (t8_9 (List.mem_of_getElem? (i := 6) rfl)) rfl) (al_c (tw_in (t8_3 (List.mem_of_getElem? (i := 220) rfl)) rfl) (al_c (tw_in (t8_3 (List.mem_of_getElem? (i := 221) rfl)) rfl) (al_c (tw_in (t8_1 (List.mem_of_getElem? (i := 8) rfl)) rfl) al_n)))
theorem dX10_index_20 : decode cX10_index 20 = .ok (.if_icmp .lt 11, 3) := by decide +kernel
theorem dX10_index_31 : decode cX10_index 31 = .ok (.aload_n 0, 1) := by decide +kernel
theorem dX10_index_32 : decode cX10_index 32 = .ok (.dup, 1) := by decide +kernel
theorem dX10_index_33 : decode cX10_index 33 = .ok (.getfield 40, 3) := by decide +kernel
theorem dX10_index_36 : decode cX10_index 36 = .ok (.aload_n 0, 1) := by decide +kernel
theorem dX10_index_37 : decode cX10_index 37 = .ok (.getfield 15, 3) := by decide +kernel
theorem dX10_index_40 : decode cX10_index 40 = .ok (.iload_n 1, 1) := by decide +kernel
theorem dX10_index_41 : decode cX10_index 41 = .ok (.invokevirtual 150, 3) := by decide +kernel
theorem tw_872 : (.code yX7_firstCell cX7_firstCell 2 (some .int) : Cond) ∈ tw_W := tw_in (t8_8 (List.mem_of_getElem? (i := 233) rfl)) rfl
theorem tw_873 : ∀ w ∈ ([.methodLink RX10 150 yX7_firstCell, .instanceMethod yX7_firstCell, .selects RX7 yX7_firstCell yX7_firstCell, .initialized RX7] : List Cond), w ∈ tw_W := al_c (tw_in (t8_8 (List.mem_of_getElem? (i := 230) rfl)) rfl) (al_c (tw_in (t8_8 (List.mem_of_getElem? (i := 231) rfl)) rfl) (al_c (tw_in (t8_8 (List.mem_of_getElem? (i := 232) rfl)) rfl) (al_c (tw_in (t8_1 (List.mem_of_getElem? (i := 8) rfl)) rfl) al_n)))
theorem dX10_index_44 : decode cX10_index 44 = .ok (.iadd, 1) := by decide +kernel
theorem dX10_index_45 : decode cX10_index 45 = .ok (.putfield 40, 3) := by decide +kernel
theorem dX10_doJump_0 : decode cX10_doJump 0 = .ok (.iload_n 1, 1) := by decide +kernel
theorem dX10_doJump_1 : decode cX10_doJump 1 = .ok (.bipush 19, 2) := by decide +kernel
theorem dX10_doJump_3 : decode cX10_doJump 3 = .ok (.if_icmp .eq 29, 3) := by decide +kernel
theorem dX10_doJump_32 : decode cX10_doJump 32 = .ok (.iconst 1, 1) := by decide +kernel
theorem dX10_doJump_33 : decode cX10_doJump 33 = .ok (.goto 4, 3) := by decide +kernel
theorem dX10_doJump_37 : decode cX10_doJump 37 = .ok (.istore_n 3, 1) := by decide +kernel
theorem dX10_doJump_38 : decode cX10_doJump 38 = .ok (.iload_n 3, 1) := by decide +kernel
theorem dX10_doJump_39 : decode cX10_doJump 39 = .ok (.ifCond .eq 8, 3) := by decide +kernel
theorem dX10_doJump_42 : decode cX10_doJump 42 = .ok (.aload_n 0, 1) := by decide +kernel
theorem dX10_doJump_43 : decode cX10_doJump 43 = .ok (.iload_n 2, 1) := by decide +kernel
theorem dX10_doJump_44 : decode cX10_doJump 44 = .ok (.putfield 108, 3) := by decide +kernel
theorem dX10_doJump_47 : decode cX10_doJump 47 = .ok (.iload_n 3, 1) := by decide +kernel
theorem dX10_doJump_48 : decode cX10_doJump 48 = .ok (.ifCond .eq 14, 3) := by decide +kernel
theorem dX10_doJump_51 : decode cX10_doJump 51 = .ok (.iload_n 1, 1) := by decide +kernel
theorem dX10_doJump_52 : decode cX10_doJump 52 = .ok (.bipush 18, 2) := by decide +kernel
theorem dX10_doJump_54 : decode cX10_doJump 54 = .ok (.if_icmp .ne 8, 3) := by decide +kernel
theorem dX10_doJump_62 : decode cX10_doJump 62 = .ok (.return_, 1) := by decide +kernel
theorem dX10_doJump_6 : decode cX10_doJump 6 = .ok (.iload_n 1, 1) := by decide +kernel
theorem dX10_doJump_7 : decode cX10_doJump 7 = .ok (.bipush 16, 2) := by decide +kernel
theorem dX10_doJump_9 : decode cX10_doJump 9 = .ok (.if_icmp .ne 7, 3) := by decide +kernel
theorem dX10_doJump_16 : decode cX10_doJump 16 = .ok (.iconst 0, 1) := by decide +kernel
theorem dX10_doJump_17 : decode cX10_doJump 17 = .ok (.aload_n 0, 1) := by decide +kernel
theorem dX10_doJump_18 : decode cX10_doJump 18 = .ok (.getfield 40, 3) := by decide +kernel
theorem dX10_doJump_21 : decode cX10_doJump 21 = .ok (.ifCond .ne 7, 3) := by decide +kernel
theorem dX10_doJump_28 : decode cX10_doJump 28 = .ok (.iconst 0, 1) := by decide +kernel
theorem dX10_doJump_29 : decode cX10_doJump 29 = .ok (.if_icmp .ne 7, 3) := by decide +kernel
theorem dX10_doJump_57 : decode cX10_doJump 57 = .ok (.aload_n 0, 1) := by decide +kernel
theorem dX10_doJump_58 : decode cX10_doJump 58 = .ok (.iconst 1, 1) := by decide +kernel
theorem dX10_doJump_59 : decode cX10_doJump 59 = .ok (.putfield 40, 3) := by decide +kernel
theorem dX10_doJump_24 : decode cX10_doJump 24 = .ok (.iconst 1, 1) := by decide +kernel
theorem dX10_doJump_25 : decode cX10_doJump 25 = .ok (.goto 4, 3) := by decide +kernel
theorem dX10_doJump_36 : decode cX10_doJump 36 = .ok (.iconst 0, 1) := by decide +kernel
theorem dX10_doJump_12 : decode cX10_doJump 12 = .ok (.iconst 1, 1) := by decide +kernel
theorem dX10_doJump_13 : decode cX10_doJump 13 = .ok (.goto 4, 3) := by decide +kernel
theorem dX10_compares_0 : decode cX10_compares 0 = .ok (.iload_n 0, 1) := by decide +kernel
theorem dX10_compares_1 : decode cX10_compares 1 = .ok (.tableswitch 90 63 67 #[35, 46, 57, 68, 79], 35) := by decide +kernel
theorem dX10_compares_36 : decode cX10_compares 36 = .ok (.iload_n 1, 1) := by decide +kernel
theorem dX10_compares_37 : decode cX10_compares 37 = .ok (.iload_n 2, 1) := by decide +kernel
theorem dX10_compares_38 : decode cX10_compares 38 = .ok (.if_icmp .ne 7, 3) := by decide +kernel
theorem dX10_compares_45 : decode cX10_compares 45 = .ok (.iconst 0, 1) := by decide +kernel
theorem dX10_compares_46 : decode cX10_compares 46 = .ok (.ireturn, 1) := by decide +kernel
theorem dX10_compares_41 : decode cX10_compares 41 = .ok (.iconst 1, 1) := by decide +kernel
theorem dX10_compares_42 : decode cX10_compares 42 = .ok (.goto 4, 3) := by decide +kernel
theorem dX10_compares_47 : decode cX10_compares 47 = .ok (.iload_n 1, 1) := by decide +kernel
theorem dX10_compares_48 : decode cX10_compares 48 = .ok (.iload_n 2, 1) := by decide +kernel
theorem dX10_compares_49 : decode cX10_compares 49 = .ok (.if_icmp .eq 7, 3) := by decide +kernel
theorem dX10_compares_56 : decode cX10_compares 56 = .ok (.iconst 0, 1) := by decide +kernel
theorem dX10_compares_57 : decode cX10_compares 57 = .ok (.ireturn, 1) := by decide +kernel
theorem dX10_compares_52 : decode cX10_compares 52 = .ok (.iconst 1, 1) := by decide +kernel
theorem dX10_compares_53 : decode cX10_compares 53 = .ok (.goto 4, 3) := by decide +kernel
theorem dX10_compares_58 : decode cX10_compares 58 = .ok (.iload_n 1, 1) := by decide +kernel
theorem dX10_compares_59 : decode cX10_compares 59 = .ok (.iload_n 2, 1) := by decide +kernel
theorem dX10_compares_60 : decode cX10_compares 60 = .ok (.if_icmp .ge 7, 3) := by decide +kernel
theorem dX10_compares_67 : decode cX10_compares 67 = .ok (.iconst 0, 1) := by decide +kernel
theorem dX10_compares_68 : decode cX10_compares 68 = .ok (.ireturn, 1) := by decide +kernel
theorem dX10_compares_63 : decode cX10_compares 63 = .ok (.iconst 1, 1) := by decide +kernel
theorem dX10_compares_64 : decode cX10_compares 64 = .ok (.goto 4, 3) := by decide +kernel
theorem dX10_compares_69 : decode cX10_compares 69 = .ok (.iload_n 1, 1) := by decide +kernel
theorem dX10_compares_70 : decode cX10_compares 70 = .ok (.iload_n 2, 1) := by decide +kernel
theorem dX10_compares_71 : decode cX10_compares 71 = .ok (.if_icmp .gt 7, 3) := by decide +kernel
theorem dX10_compares_78 : decode cX10_compares 78 = .ok (.iconst 0, 1) := by decide +kernel
theorem dX10_compares_79 : decode cX10_compares 79 = .ok (.ireturn, 1) := by decide +kernel
theorem dX10_compares_74 : decode cX10_compares 74 = .ok (.iconst 1, 1) := by decide +kernel
theorem dX10_compares_75 : decode cX10_compares 75 = .ok (.goto 4, 3) := by decide +kernel
theorem dX10_compares_80 : decode cX10_compares 80 = .ok (.iload_n 1, 1) := by decide +kernel
theorem dX10_compares_81 : decode cX10_compares 81 = .ok (.iload_n 2, 1) := by decide +kernel
theorem dX10_compares_82 : decode cX10_compares 82 = .ok (.if_icmp .le 7, 3) := by decide +kernel
theorem dX10_compares_89 : decode cX10_compares 89 = .ok (.iconst 0, 1) := by decide +kernel
theorem dX10_compares_90 : decode cX10_compares 90 = .ok (.ireturn, 1) := by decide +kernel
theorem dX10_compares_85 : decode cX10_compares 85 = .ok (.iconst 1, 1) := by decide +kernel
theorem dX10_compares_86 : decode cX10_compares 86 = .ok (.goto 4, 3) := by decide +kernel
theorem dX10_compares_91 : decode cX10_compares 91 = .ok (.iload_n 1, 1) := by decide +kernel
theorem dX10_compares_92 : decode cX10_compares 92 = .ok (.iload_n 2, 1) := by decide +kernel
theorem dX10_compares_93 : decode cX10_compares 93 = .ok (.if_icmp .lt 7, 3) := by decide +kernel
theorem dX10_compares_100 : decode cX10_compares 100 = .ok (.iconst 0, 1) := by decide +kernel
theorem dX10_compares_101 : decode cX10_compares 101 = .ok (.ireturn, 1) := by decide +kernel
theorem dX10_compares_96 : decode cX10_compares 96 = .ok (.iconst 1, 1) := by decide +kernel
theorem dX10_compares_97 : decode cX10_compares 97 = .ok (.goto 4, 3) := by decide +kernel
theorem dX10_divide_0 : decode cX10_divide 0 = .ok (.aload_n 0, 1) := by decide +kernel
theorem dX10_divide_1 : decode cX10_divide 1 = .ok (.getfield 40, 3) := by decide +kernel
theorem dX10_divide_4 : decode cX10_divide 4 = .ok (.ifCond .ne 11, 3) := by decide +kernel
theorem dX10_divide_15 : decode cX10_divide 15 = .ok (.aload_n 0, 1) := by decide +kernel
theorem dX10_divide_16 : decode cX10_divide 16 = .ok (.iload_n 1, 1) := by decide +kernel
theorem dX10_divide_17 : decode cX10_divide 17 = .ok (.ifCond .eq 12, 3) := by decide +kernel
theorem dX10_divide_29 : decode cX10_divide 29 = .ok (.iload_n 2, 1) := by decide +kernel
theorem dX10_divide_30 : decode cX10_divide 30 = .ok (.aload_n 0, 1) := by decide +kernel
theorem dX10_divide_31 : decode cX10_divide 31 = .ok (.getfield 40, 3) := by decide +kernel
theorem dX10_divide_34 : decode cX10_divide 34 = .ok (.irem, 1) := by decide +kernel
theorem dX10_divide_35 : decode cX10_divide 35 = .ok (.putfield 40, 3) := by decide +kernel
theorem dX10_divide_38 : decode cX10_divide 38 = .ok (.return_, 1) := by decide +kernel
theorem dX10_divide_20 : decode cX10_divide 20 = .ok (.iload_n 2, 1) := by decide +kernel
theorem dX10_divide_21 : decode cX10_divide 21 = .ok (.aload_n 0, 1) := by decide +kernel
theorem dX10_divide_22 : decode cX10_divide 22 = .ok (.getfield 40, 3) := by decide +kernel
theorem dX10_divide_25 : decode cX10_divide 25 = .ok (.idiv, 1) := by decide +kernel
theorem dX10_divide_26 : decode cX10_divide 26 = .ok (.goto 9, 3) := by decide +kernel
theorem dX10_divide_7 : decode cX10_divide 7 = .ok (.aload_n 0, 1) := by decide +kernel
theorem dX10_divide_8 : decode cX10_divide 8 = .ok (.iconst 2, 1) := by decide +kernel
theorem dX10_divide_9 : decode cX10_divide 9 = .ok (.putfield 37, 3) := by decide +kernel
theorem dX10_divide_12 : decode cX10_divide 12 = .ok (.goto 26, 3) := by decide +kernel
theorem dX10_join_0 : decode cX10_join 0 = .ok (.iload_n 1, 1) := by decide +kernel
theorem dX10_join_1 : decode cX10_join 1 = .ok (.tableswitch 178 53 62 #[55, 68, 81, 94, 94, 113, 126, 139, 152, 165], 55) := by decide +kernel
theorem dX10_join_56 : decode cX10_join 56 = .ok (.aload_n 0, 1) := by decide +kernel
theorem dX10_join_57 : decode cX10_join 57 = .ok (.iload_n 2, 1) := by decide +kernel
theorem dX10_join_58 : decode cX10_join 58 = .ok (.aload_n 0, 1) := by decide +kernel
theorem dX10_join_59 : decode cX10_join 59 = .ok (.getfield 40, 3) := by decide +kernel
theorem dX10_join_62 : decode cX10_join 62 = .ok (.iadd, 1) := by decide +kernel
theorem dX10_join_63 : decode cX10_join 63 = .ok (.putfield 40, 3) := by decide +kernel
theorem dX10_join_66 : decode cX10_join 66 = .ok (.goto 134, 3) := by decide +kernel
theorem dX10_join_200 : decode cX10_join 200 = .ok (.return_, 1) := by decide +kernel
theorem dX10_join_69 : decode cX10_join 69 = .ok (.aload_n 0, 1) := by decide +kernel
theorem dX10_join_70 : decode cX10_join 70 = .ok (.iload_n 2, 1) := by decide +kernel
theorem dX10_join_71 : decode cX10_join 71 = .ok (.aload_n 0, 1) := by decide +kernel
theorem dX10_join_72 : decode cX10_join 72 = .ok (.getfield 40, 3) := by decide +kernel
theorem dX10_join_75 : decode cX10_join 75 = .ok (.isub, 1) := by decide +kernel
theorem dX10_join_76 : decode cX10_join 76 = .ok (.putfield 40, 3) := by decide +kernel
theorem dX10_join_79 : decode cX10_join 79 = .ok (.goto 121, 3) := by decide +kernel
theorem dX10_join_82 : decode cX10_join 82 = .ok (.aload_n 0, 1) := by decide +kernel
theorem dX10_join_83 : decode cX10_join 83 = .ok (.iload_n 2, 1) := by decide +kernel
theorem dX10_join_84 : decode cX10_join 84 = .ok (.aload_n 0, 1) := by decide +kernel
theorem dX10_join_85 : decode cX10_join 85 = .ok (.getfield 40, 3) := by decide +kernel
theorem dX10_join_88 : decode cX10_join 88 = .ok (.imul, 1) := by decide +kernel
theorem dX10_join_89 : decode cX10_join 89 = .ok (.putfield 40, 3) := by decide +kernel
theorem dX10_join_92 : decode cX10_join 92 = .ok (.goto 108, 3) := by decide +kernel
theorem dX10_join_95 : decode cX10_join 95 = .ok (.aload_n 0, 1) := by decide +kernel
theorem dX10_join_96 : decode cX10_join 96 = .ok (.iload_n 1, 1) := by decide +kernel
theorem dX10_join_97 : decode cX10_join 97 = .ok (.bipush 56, 2) := by decide +kernel
theorem dX10_join_99 : decode cX10_join 99 = .ok (.if_icmp .ne 7, 3) := by decide +kernel
theorem dX10_join_102 : decode cX10_join 102 = .ok (.iconst 1, 1) := by decide +kernel
theorem dX10_join_103 : decode cX10_join 103 = .ok (.goto 4, 3) := by decide +kernel
theorem dX10_join_107 : decode cX10_join 107 = .ok (.iload_n 2, 1) := by decide +kernel
theorem dX10_join_108 : decode cX10_join 108 = .ok (.invokevirtual 168, 3) := by decide +kernel
theorem tw_874 : (.code yX10_divide cX10_divide 3 none : Cond) ∈ tw_W := tw_in (t8_8 (List.mem_of_getElem? (i := 209) rfl)) rfl
theorem tw_875 : ∀ w ∈ ([.methodLink RX10 168 yX10_divide, .instanceMethod yX10_divide, .selects RX10 yX10_divide yX10_divide, .initialized RX10] : List Cond), w ∈ tw_W := al_c (tw_in (t8_8 (List.mem_of_getElem? (i := 206) rfl)) rfl) (al_c (tw_in (t8_8 (List.mem_of_getElem? (i := 208) rfl)) rfl) (al_c (tw_in (t7_7 (q := (yX10_divide, 17)) (List.mem_of_getElem? (i := 5) rfl)) rfl) (al_c (tw_in (t8_1 (List.mem_of_getElem? (i := 15) rfl)) rfl) al_n)))
theorem dX10_join_111 : decode cX10_join 111 = .ok (.goto 89, 3) := by decide +kernel
theorem dX10_join_106 : decode cX10_join 106 = .ok (.iconst 0, 1) := by decide +kernel
theorem dX10_join_114 : decode cX10_join 114 = .ok (.aload_n 0, 1) := by decide +kernel
theorem dX10_join_115 : decode cX10_join 115 = .ok (.iload_n 2, 1) := by decide +kernel
theorem dX10_join_116 : decode cX10_join 116 = .ok (.aload_n 0, 1) := by decide +kernel
theorem dX10_join_117 : decode cX10_join 117 = .ok (.getfield 40, 3) := by decide +kernel
theorem dX10_join_120 : decode cX10_join 120 = .ok (.iand, 1) := by decide +kernel
theorem dX10_join_121 : decode cX10_join 121 = .ok (.putfield 40, 3) := by decide +kernel
theorem dX10_join_124 : decode cX10_join 124 = .ok (.goto 76, 3) := by decide +kernel
theorem dX10_join_127 : decode cX10_join 127 = .ok (.aload_n 0, 1) := by decide +kernel
theorem dX10_join_128 : decode cX10_join 128 = .ok (.iload_n 2, 1) := by decide +kernel
theorem dX10_join_129 : decode cX10_join 129 = .ok (.aload_n 0, 1) := by decide +kernel
theorem dX10_join_130 : decode cX10_join 130 = .ok (.getfield 40, 3) := by decide +kernel
theorem dX10_join_133 : decode cX10_join 133 = .ok (.ior, 1) := by decide +kernel
theorem dX10_join_134 : decode cX10_join 134 = .ok (.putfield 40, 3) := by decide +kernel
theorem dX10_join_137 : decode cX10_join 137 = .ok (.goto 63, 3) := by decide +kernel
theorem dX10_join_140 : decode cX10_join 140 = .ok (.aload_n 0, 1) := by decide +kernel
theorem dX10_join_141 : decode cX10_join 141 = .ok (.iload_n 2, 1) := by decide +kernel
theorem dX10_join_142 : decode cX10_join 142 = .ok (.aload_n 0, 1) := by decide +kernel
theorem dX10_join_143 : decode cX10_join 143 = .ok (.getfield 40, 3) := by decide +kernel
theorem dX10_join_146 : decode cX10_join 146 = .ok (.ixor, 1) := by decide +kernel
theorem dX10_join_147 : decode cX10_join 147 = .ok (.putfield 40, 3) := by decide +kernel
theorem dX10_join_150 : decode cX10_join 150 = .ok (.goto 50, 3) := by decide +kernel
theorem dX10_join_153 : decode cX10_join 153 = .ok (.aload_n 0, 1) := by decide +kernel
theorem dX10_join_154 : decode cX10_join 154 = .ok (.iload_n 2, 1) := by decide +kernel
theorem dX10_join_155 : decode cX10_join 155 = .ok (.aload_n 0, 1) := by decide +kernel
theorem dX10_join_156 : decode cX10_join 156 = .ok (.getfield 40, 3) := by decide +kernel
theorem dX10_join_159 : decode cX10_join 159 = .ok (.ishl, 1) := by decide +kernel
theorem dX10_join_160 : decode cX10_join 160 = .ok (.putfield 40, 3) := by decide +kernel
theorem dX10_join_163 : decode cX10_join 163 = .ok (.goto 37, 3) := by decide +kernel
theorem dX10_join_166 : decode cX10_join 166 = .ok (.aload_n 0, 1) := by decide +kernel
theorem dX10_join_167 : decode cX10_join 167 = .ok (.iload_n 2, 1) := by decide +kernel
theorem dX10_join_168 : decode cX10_join 168 = .ok (.aload_n 0, 1) := by decide +kernel
theorem dX10_join_169 : decode cX10_join 169 = .ok (.getfield 40, 3) := by decide +kernel
theorem dX10_join_172 : decode cX10_join 172 = .ok (.ishr, 1) := by decide +kernel
theorem dX10_join_173 : decode cX10_join 173 = .ok (.putfield 40, 3) := by decide +kernel
theorem dX10_join_176 : decode cX10_join 176 = .ok (.goto 24, 3) := by decide +kernel
theorem dX10_join_179 : decode cX10_join 179 = .ok (.aload_n 0, 1) := by decide +kernel
theorem dX10_join_180 : decode cX10_join 180 = .ok (.iload_n 1, 1) := by decide +kernel
theorem dX10_join_181 : decode cX10_join 181 = .ok (.iload_n 2, 1) := by decide +kernel
theorem dX10_join_182 : decode cX10_join 182 = .ok (.aload_n 0, 1) := by decide +kernel
theorem dX10_join_183 : decode cX10_join 183 = .ok (.getfield 40, 3) := by decide +kernel
theorem dX10_join_186 : decode cX10_join 186 = .ok (.invokestatic 172, 3) := by decide +kernel
theorem tw_876 : (.code yX10_compares cX10_compares 3 (some .boolean) : Cond) ∈ tw_W := tw_in (t8_8 (List.mem_of_getElem? (i := 212) rfl)) rfl
theorem tw_877 : ∀ w ∈ ([.methodLink RX10 172 yX10_compares, .static yX10_compares, .initialized yX10_compares.cls] : List Cond), w ∈ tw_W := al_c (tw_in (t8_8 (List.mem_of_getElem? (i := 210) rfl)) rfl) (al_c (tw_in (t8_8 (List.mem_of_getElem? (i := 211) rfl)) rfl) (al_c (tw_in (t8_1 (List.mem_of_getElem? (i := 15) rfl)) rfl) al_n))
theorem dX10_join_189 : decode cX10_join 189 = .ok (.ifCond .eq 7, 3) := by decide +kernel
theorem dX10_join_196 : decode cX10_join 196 = .ok (.iconst 0, 1) := by decide +kernel
theorem dX10_join_197 : decode cX10_join 197 = .ok (.putfield 40, 3) := by decide +kernel
theorem dX10_join_192 : decode cX10_join 192 = .ok (.iconst 1, 1) := by decide +kernel
theorem dX10_join_193 : decode cX10_join 193 = .ok (.goto 4, 3) := by decide +kernel
theorem dX10_doPlace_0 : decode cX10_doPlace 0 = .ok (.iload_n 1, 1) := by decide +kernel
theorem dX10_doPlace_1 : decode cX10_doPlace 1 = .ok (.tableswitch 132 5 11 #[43, 62, 81, 89, 104, 89, 116], 43) := by decide +kernel
theorem dX10_doPlace_44 : decode cX10_doPlace 44 = .ok (.aload_n 0, 1) := by decide +kernel
theorem dX10_doPlace_45 : decode cX10_doPlace 45 = .ok (.aload_n 0, 1) := by decide +kernel
theorem dX10_doPlace_46 : decode cX10_doPlace 46 = .ok (.aload_n 0, 1) := by decide +kernel
theorem dX10_doPlace_47 : decode cX10_doPlace 47 = .ok (.getfield 15, 3) := by decide +kernel
theorem dX10_doPlace_50 : decode cX10_doPlace 50 = .ok (.iload_n 2, 1) := by decide +kernel
theorem dX10_doPlace_51 : decode cX10_doPlace 51 = .ok (.invokevirtual 150, 3) := by decide +kernel
theorem dX10_doPlace_54 : decode cX10_doPlace 54 = .ok (.invokevirtual 153, 3) := by decide +kernel
theorem tw_878 : (.code yX10_cellAt cX10_cellAt 2 (some .int) : Cond) ∈ tw_W := tw_in (t8_8 (List.mem_of_getElem? (i := 237) rfl)) rfl
theorem tw_879 : ∀ w ∈ ([.methodLink RX10 153 yX10_cellAt, .instanceMethod yX10_cellAt, .selects RX10 yX10_cellAt yX10_cellAt, .initialized RX10] : List Cond), w ∈ tw_W := al_c (tw_in (t8_8 (List.mem_of_getElem? (i := 234) rfl)) rfl) (al_c (tw_in (t8_8 (List.mem_of_getElem? (i := 235) rfl)) rfl) (al_c (tw_in (t8_8 (List.mem_of_getElem? (i := 236) rfl)) rfl) (al_c (tw_in (t8_1 (List.mem_of_getElem? (i := 15) rfl)) rfl) al_n)))
theorem dX10_doPlace_57 : decode cX10_doPlace 57 = .ok (.putfield 40, 3) := by decide +kernel
theorem dX10_doPlace_60 : decode cX10_doPlace 60 = .ok (.goto 73, 3) := by decide +kernel
theorem dX10_doPlace_133 : decode cX10_doPlace 133 = .ok (.return_, 1) := by decide +kernel
theorem dX10_doPlace_63 : decode cX10_doPlace 63 = .ok (.aload_n 0, 1) := by decide +kernel
theorem dX10_doPlace_64 : decode cX10_doPlace 64 = .ok (.aload_n 0, 1) := by decide +kernel
theorem dX10_doPlace_65 : decode cX10_doPlace 65 = .ok (.getfield 15, 3) := by decide +kernel
theorem dX10_doPlace_68 : decode cX10_doPlace 68 = .ok (.iload_n 2, 1) := by decide +kernel
theorem dX10_doPlace_69 : decode cX10_doPlace 69 = .ok (.invokevirtual 150, 3) := by decide +kernel
theorem dX10_doPlace_72 : decode cX10_doPlace 72 = .ok (.aload_n 0, 1) := by decide +kernel
theorem dX10_doPlace_73 : decode cX10_doPlace 73 = .ok (.getfield 40, 3) := by decide +kernel
theorem dX10_doPlace_76 : decode cX10_doPlace 76 = .ok (.invokevirtual 156, 3) := by decide +kernel
theorem tw_880 : (.code yX10_changeCell cX10_changeCell 3 none : Cond) ∈ tw_W := tw_in (t8_9 (List.mem_of_getElem? (i := 1) rfl)) rfl
theorem tw_881 : ∀ w ∈ ([.methodLink RX10 156 yX10_changeCell, .instanceMethod yX10_changeCell, .selects RX10 yX10_changeCell yX10_changeCell, .initialized RX10] : List Cond), w ∈ tw_W := al_c (tw_in (t8_8 (List.mem_of_getElem? (i := 238) rfl)) rfl) (al_c (tw_in (t8_9 (List.mem_of_getElem? (i := 0) rfl)) rfl) (al_c (tw_in (t7_7 (q := (yX10_changeCell, 17)) (List.mem_of_getElem? (i := 10) rfl)) rfl) (al_c (tw_in (t8_1 (List.mem_of_getElem? (i := 15) rfl)) rfl) al_n)))
theorem dX10_doPlace_79 : decode cX10_doPlace 79 = .ok (.goto 54, 3) := by decide +kernel
theorem dX10_doPlace_82 : decode cX10_doPlace 82 = .ok (.aload_n 0, 1) := by decide +kernel
theorem dX10_doPlace_83 : decode cX10_doPlace 83 = .ok (.iload_n 2, 1) := by decide +kernel
theorem dX10_doPlace_84 : decode cX10_doPlace 84 = .ok (.invokevirtual 159, 3) := by decide +kernel
theorem tw_882 : (.code yX10_index cX10_index 2 none : Cond) ∈ tw_W := tw_in (t8_9 (List.mem_of_getElem? (i := 5) rfl)) rfl
theorem tw_883 : ∀ w ∈ ([.methodLink RX10 159 yX10_index, .instanceMethod yX10_index, .selects RX10 yX10_index yX10_index, .initialized RX10] : List Cond), w ∈ tw_W := al_c (tw_in (t8_9 (List.mem_of_getElem? (i := 2) rfl)) rfl) (al_c (tw_in (t8_9 (List.mem_of_getElem? (i := 4) rfl)) rfl) (al_c (tw_in (t7_7 (q := (yX10_index, 17)) (List.mem_of_getElem? (i := 11) rfl)) rfl) (al_c (tw_in (t8_1 (List.mem_of_getElem? (i := 15) rfl)) rfl) al_n)))
theorem dX10_doPlace_87 : decode cX10_doPlace 87 = .ok (.goto 46, 3) := by decide +kernel
theorem dX10_doPlace_90 : decode cX10_doPlace 90 = .ok (.aload_n 0, 1) := by decide +kernel
theorem dX10_doPlace_91 : decode cX10_doPlace 91 = .ok (.aload_n 0, 1) := by decide +kernel
theorem dX10_doPlace_92 : decode cX10_doPlace 92 = .ok (.aload_n 0, 1) := by decide +kernel
theorem dX10_doPlace_93 : decode cX10_doPlace 93 = .ok (.getfield 40, 3) := by decide +kernel
theorem dX10_doPlace_96 : decode cX10_doPlace 96 = .ok (.invokevirtual 153, 3) := by decide +kernel
theorem dX10_doPlace_99 : decode cX10_doPlace 99 = .ok (.putfield 40, 3) := by decide +kernel
theorem dX10_doPlace_102 : decode cX10_doPlace 102 = .ok (.goto 31, 3) := by decide +kernel
theorem dX10_doPlace_105 : decode cX10_doPlace 105 = .ok (.aload_n 0, 1) := by decide +kernel
theorem dX10_doPlace_106 : decode cX10_doPlace 106 = .ok (.iload_n 3, 1) := by decide +kernel
theorem dX10_doPlace_107 : decode cX10_doPlace 107 = .ok (.aload_n 0, 1) := by decide +kernel
theorem dX10_doPlace_108 : decode cX10_doPlace 108 = .ok (.getfield 40, 3) := by decide +kernel
theorem dX10_doPlace_111 : decode cX10_doPlace 111 = .ok (.invokevirtual 90, 3) := by decide +kernel
theorem dX10_doPlace_114 : decode cX10_doPlace 114 = .ok (.goto 19, 3) := by decide +kernel
theorem dX10_doPlace_117 : decode cX10_doPlace 117 = .ok (.aload_n 0, 1) := by decide +kernel
theorem dX10_doPlace_118 : decode cX10_doPlace 118 = .ok (.aload_n 0, 1) := by decide +kernel
theorem dX10_doPlace_119 : decode cX10_doPlace 119 = .ok (.iload_n 2, 1) := by decide +kernel
theorem dX10_doPlace_120 : decode cX10_doPlace 120 = .ok (.invokevirtual 126, 3) := by decide +kernel
theorem tw_884 : (.code yX10_slotAt cX10_slotAt 2 (some .int) : Cond) ∈ tw_W := tw_in (t8_8 (List.mem_of_getElem? (i := 201) rfl)) rfl
theorem tw_885 : ∀ w ∈ ([.methodLink RX10 126 yX10_slotAt, .instanceMethod yX10_slotAt, .selects RX10 yX10_slotAt yX10_slotAt, .initialized RX10] : List Cond), w ∈ tw_W := al_c (tw_in (t8_8 (List.mem_of_getElem? (i := 198) rfl)) rfl) (al_c (tw_in (t8_8 (List.mem_of_getElem? (i := 200) rfl)) rfl) (al_c (tw_in (t7_7 (q := (yX10_slotAt, 17)) (List.mem_of_getElem? (i := 3) rfl)) rfl) (al_c (tw_in (t8_1 (List.mem_of_getElem? (i := 15) rfl)) rfl) al_n)))
theorem dX10_doPlace_123 : decode cX10_doPlace 123 = .ok (.aload_n 0, 1) := by decide +kernel
theorem dX10_doPlace_124 : decode cX10_doPlace 124 = .ok (.getfield 40, 3) := by decide +kernel
theorem dX10_doPlace_127 : decode cX10_doPlace 127 = .ok (.invokevirtual 156, 3) := by decide +kernel
theorem dX10_doPlace_130 : decode cX10_doPlace 130 = .ok (.goto 3, 3) := by decide +kernel
set_option maxHeartbeats 4000000 in
set_option maxRecDepth 100000 in
theorem c_x_X10_drop (l : Launch) (dC : Nat → ClassId) (dI : Nat → Nat → Nat) (cI cB cZ cJ cR : ClassId) (tb : Nat → Nat) (sz : Nat) (ad : Nat → Nat) (pr : Int32 → Nat) (N : Nat) (L1 L2 : List Nat) (v : MS)   : Met l yX10_drop (Cond.code yX10_drop cX10_drop 1 none :: tw_W) ({ frames := 0, cells := 0, slots := 0, locals := 0 }) (pc_ (dC, dI) (tyS cI cB cZ cJ cR) tb (cW ad pr N cI cR L1 L2 v) sz [.ref (ad 907)]) (qv_ (dC, dI) (cW ad pr N cI cR L1 L2 v) sz (fun (u : MS) => FC [361] [0] v u ∧ (Q_x_X10_drop L1 L2 v u) ∧ (RS0 v u)) (fun (u : MS) => (cW ad pr N cI cR L1 L2 u))) 0 0 (va_A (cW ad pr N cI cR L1 L2 v) sz) := by
  refine Met.ofW (cc := cX10_drop) (maxL := 1) (ret := none) (by decide) rfl ?_
  intro p e s m args below meth c s₁ B hml hv
  obtain ⟨rfl, hsz, hP, hKK, hD0, hFx⟩ := hv
  have hK := hKK.1
  have hx := B.exec
  have hb := B.bytes
  have hr := B.returns
  have ht : ∀ w ∈ tw_W, w.before _ s = true := fun w h => atoms_spec (ws := Cond.code yX10_drop cX10_drop 1 none :: tw_W) B.pre w (List.mem_cons_of_mem _ h)
  have hown : s.vm.findClass RX10 = some m.cls := findClass_of_methodNamed B.named
  have hlocks := B.notSynchronized
  subst hsz
  unfold qv_
  have hD := hD0.self (sz := s.heap.size)
  generalize hAe : va_A (cW ad pr N cI cR L1 L2 v) s.heap.size = A at hD hFx ⊢
  have hA : ∀ q : Nat, s.heap.size ≤ q → A q := fun q h => by rw [← hAe]; exact Or.inr h
  have hS : va_S A s.heap s.heap [] := va_S.rf
  have hl := lv_entry ([.ref (ad 907)]) (n := 1) (Nat.le_of_ble_eq_true rfl)
  rw [lg_entry_eq]
  generalize (lg_sl ([.ref (ad 907)]) ++ List.replicate (1 - (lg_sl ([.ref (ad 907)])).length) Slot.unset).toArray = ls at hl ⊢
  have hl : lv_has ls 1 [(0, .ref (ad 907))] := hl
  refine lv_aload_n hx hb dX10_drop_0 rfl (lv_at hl 0 rfl) ?_
  refine lv_iconst (v := 0) hx hb dX10_drop_1 (by decide) ?_
  refine va_put (D := (dC, dI)) (ci := 13) (fs := oF_X10 ad pr v) (v := .int 0) (ty := .boolean) (C := RX10) (T := TX10) (N := 17) hx hb ht itX10 tyX10 tyX10_ok nmX10 hown hK hP hD hS 7 rfl rfl 6 (by decide) (ht _ tw_840) (fun _ h9 => h9) rfl (by decide +kernel) rfl rfl (Nat.le_of_ble_eq_true rfl) dX10_drop_2 (fun H locs hP hD hS => ?_)
  have hP := cP_ (cw_361 ad pr N cI cR L1 L2 v 0) hP
  have hD := cD_ (cw_361 ad pr N cI cR L1 L2 v 0) hD
  exact W.vret hx hb hr (fun t ht9 hW => ⟨⟨(wA v 0 361 0), rfl, ⟨(FC.f (FC.rf _) 0 (by decide)), rfl, (RS0.w RS0.rf (by decide))⟩, by rw [ht9]; exact hP, hD⟩, hS.F ht9⟩) hS.2.2 dX10_drop_5
set_option maxHeartbeats 4000000 in
set_option maxRecDepth 100000 in
theorem c_x_X10_fact (l : Launch) (dC : Nat → ClassId) (dI : Nat → Nat → Nat) (cI cB cZ cJ cR : ClassId) (tb : Nat → Nat) (sz : Nat) (ad : Nat → Nat) (pr : Int32 → Nat) (N : Nat) (L1 L2 : List Nat) (v : MS) (pa : Int32)  : Met l yX10_fact (Cond.code yX10_fact cX10_fact 2 (some .int) :: tw_W) ({ frames := 0, cells := 0, slots := 0, locals := 0 }) (pc_ (dC, dI) (tyS cI cB cZ cJ cR) tb (cW ad pr N cI cR L1 L2 v) sz [.ref (ad 907), .int pa]) (qi_ (dC, dI) (cW ad pr N cI cR L1 L2 v) sz (fun (r : Int32) (u : MS) => v = u ∧ (Q_x_X10_fact L1 L2 v pa r)) (fun (u : MS) => (cW ad pr N cI cR L1 L2 u))) 0 0 (va_A (cW ad pr N cI cR L1 L2 v) sz) := by
  refine Met.ofW (cc := cX10_fact) (maxL := 2) (ret := (some .int)) (by decide) rfl ?_
  intro p e s m args below meth c s₁ B hml hv
  obtain ⟨rfl, hsz, hP, hKK, hD0, hFx⟩ := hv
  have hK := hKK.1
  have hx := B.exec
  have hb := B.bytes
  have hr := B.returns
  have ht : ∀ w ∈ tw_W, w.before _ s = true := fun w h => atoms_spec (ws := Cond.code yX10_fact cX10_fact 2 (some .int) :: tw_W) B.pre w (List.mem_cons_of_mem _ h)
  have hown : s.vm.findClass RX10 = some m.cls := findClass_of_methodNamed B.named
  have hlocks := B.notSynchronized
  subst hsz
  unfold qi_
  have hD := hD0.self (sz := s.heap.size)
  generalize hAe : va_A (cW ad pr N cI cR L1 L2 v) s.heap.size = A at hD hFx ⊢
  have hA : ∀ q : Nat, s.heap.size ≤ q → A q := fun q h => by rw [← hAe]; exact Or.inr h
  have hS : va_S A s.heap s.heap [] := va_S.rf
  have hl := lv_entry ([.ref (ad 907), .int pa]) (n := 2) (Nat.le_of_ble_eq_true rfl)
  rw [lg_entry_eq]
  generalize (lg_sl ([.ref (ad 907), .int pa]) ++ List.replicate (2 - (lg_sl ([.ref (ad 907), .int pa])).length) Slot.unset).toArray = ls at hl ⊢
  have hl : lv_has ls 2 [(0, .ref (ad 907)), (1, .int pa)] := hl
  refine lv_aload_n hx hb dX10_fact_0 rfl (lv_at hl 0 rfl) ?_
  refine va_get (D := (dC, dI)) (ci := 13) (fs := oF_X10 ad pr v) (v := .int (v.1 0 361)) (C := RX10) (T := TX10) (N := 17) hx hb ht itX10 hown hK hP 7 rfl rfl 6 (by decide) (ht _ tw_840) (fun _ h9 => h9) rfl dX10_fact_1 ?_
  refine lv_if_ne (tgt := 9) hx hb dX10_fact_4 (by decide) (fun h1 => ?_) (fun h1 => ?_)
  · have z2 : (v.1 0 361).toInt ≠ (0 : Int) := ne_z rfl (show (0 : Int32).toInt = (0 : Int) by decide) h1
    refine lv_iload_n hx hb dX10_fact_9 rfl (lv_at hl 1 rfl) ?_
    by_cases h3 : pa = 0
    · refine lv_tableIn (off := 38) (tgt := 48) hx hb dX10_fact_10 (by rw [h3]; decide) (by rw [h3]; decide) (by rw [h3]; decide) (by decide) ?_
      refine lv_aload_n hx hb dX10_fact_48 rfl (lv_at hl 0 rfl) ?_
      refine va_get (D := (dC, dI)) (ci := 13) (fs := oF_X10 ad pr v) (v := .int (v.1 0 362)) (C := RX10) (T := TX10) (N := 17) hx hb ht itX10 hown hK hP 7 rfl rfl 7 (by decide) (ht _ tw_841) (fun _ h9 => h9) rfl dX10_fact_49 ?_
      exact W.iret (v := (v.1 0 362)) hx hb hr (fun t ht9 hW => ⟨⟨(v.1 0 362), v, rfl, ⟨rfl, (Or.inl ⟨z2, (Or.inl ⟨h3, rfl⟩)⟩)⟩, by rw [ht9]; exact hP, hD⟩, hS.F ht9⟩) hS.2.2 dX10_fact_52
    ·
      by_cases h4 : pa = 1
      · refine lv_tableIn (off := 43) (tgt := 53) hx hb dX10_fact_10 (by rw [h4]; decide) (by rw [h4]; decide) (by rw [h4]; decide) (by decide) ?_
        refine lv_aload_n hx hb dX10_fact_53 rfl (lv_at hl 0 rfl) ?_
        refine va_get (D := (dC, dI)) (ci := 13) (fs := oF_X10 ad pr v) (v := .int (v.1 0 362)) (C := RX10) (T := TX10) (N := 17) hx hb ht itX10 hown hK hP 7 rfl rfl 7 (by decide) (ht _ tw_841) (fun _ h9 => h9) rfl dX10_fact_54 ?_
        refine lv_if_ne (tgt := 67) hx hb dX10_fact_57 (by decide) (fun h5 => ?_) (fun h5 => ?_)
        · have z6 : (v.1 0 362).toInt ≠ (0 : Int) := ne_z rfl (show (0 : Int32).toInt = (0 : Int) by decide) h5
          refine lv_iconst (v := 0) hx hb dX10_fact_67 (by decide) ?_
          exact W.iret (v := 0) hx hb hr (fun t ht9 hW => ⟨⟨0, v, rfl, ⟨rfl, (Or.inl ⟨z2, (Or.inr (⟨h3, (Or.inl ⟨h4, (Or.inl ⟨z6, rfl⟩)⟩)⟩))⟩)⟩, by rw [ht9]; exact hP, hD⟩, hS.F ht9⟩) hS.2.2 dX10_fact_68
        · have z7 : (v.1 0 362).toInt = (0 : Int) := eq_z rfl (show (0 : Int32).toInt = (0 : Int) by decide) h5
          refine lv_aload_n hx hb dX10_fact_60 rfl (lv_at hl 0 rfl) ?_
          refine va_get (D := (dC, dI)) (ci := 13) (fs := oF_X10 ad pr v) (v := .int (v.1 0 363)) (C := RX10) (T := TX10) (N := 17) hx hb ht itX10 hown hK hP 7 rfl rfl 8 (by decide) (ht _ tw_842) (fun _ h9 => h9) rfl dX10_fact_61 ?_
          refine lv_goto (tgt := 68) hx hb dX10_fact_64 (by decide) ?_
          exact W.iret (v := (v.1 0 363)) hx hb hr (fun t ht9 hW => ⟨⟨(v.1 0 363), v, rfl, ⟨rfl, (Or.inl ⟨z2, (Or.inr (⟨h3, (Or.inl ⟨h4, (Or.inr (⟨z7, rfl⟩))⟩)⟩))⟩)⟩, by rw [ht9]; exact hP, hD⟩, hS.F ht9⟩) hS.2.2 dX10_fact_68
      ·
        by_cases h8 : pa = 2
        · refine lv_tableIn (off := 59) (tgt := 69) hx hb dX10_fact_10 (by rw [h8]; decide) (by rw [h8]; decide) (by rw [h8]; decide) (by decide) ?_
          refine lv_aload_n hx hb dX10_fact_69 rfl (lv_at hl 0 rfl) ?_
          refine va_get (D := (dC, dI)) (ci := 13) (fs := oF_X10 ad pr v) (v := .int (v.1 0 368)) (C := RX10) (T := TX10) (N := 17) hx hb ht itX10 hown hK hP 7 rfl rfl 13 (by decide) (ht _ tw_843) (fun _ h9 => h9) rfl dX10_fact_70 ?_
          exact W.iret (v := (v.1 0 368)) hx hb hr (fun t ht9 hW => ⟨⟨(v.1 0 368), v, rfl, ⟨rfl, (Or.inl ⟨z2, (Or.inr (⟨h3, (Or.inr (⟨h4, (Or.inl ⟨h8, rfl⟩)⟩))⟩))⟩)⟩, by rw [ht9]; exact hP, hD⟩, hS.F ht9⟩) hS.2.2 dX10_fact_73
        ·
          by_cases h9 : pa = 3
          · refine lv_tableIn (off := 64) (tgt := 74) hx hb dX10_fact_10 (by rw [h9]; decide) (by rw [h9]; decide) (by rw [h9]; decide) (by decide) ?_
            refine lv_aload_n hx hb dX10_fact_74 rfl (lv_at hl 0 rfl) ?_
            refine va_get (D := (dC, dI)) (ci := 13) (fs := oF_X10 ad pr v) (v := .int (v.1 0 369)) (C := RX10) (T := TX10) (N := 17) hx hb ht itX10 hown hK hP 7 rfl rfl 14 (by decide) (ht _ tw_844) (fun _ h9 => h9) rfl dX10_fact_75 ?_
            exact W.iret (v := (v.1 0 369)) hx hb hr (fun t ht9 hW => ⟨⟨(v.1 0 369), v, rfl, ⟨rfl, (Or.inl ⟨z2, (Or.inr (⟨h3, (Or.inr (⟨h4, (Or.inr (⟨h8, (Or.inl ⟨h9, rfl⟩)⟩))⟩))⟩))⟩)⟩, by rw [ht9]; exact hP, hD⟩, hS.F ht9⟩) hS.2.2 dX10_fact_78
          ·
            by_cases h10 : pa = 4
            · refine lv_tableIn (off := 69) (tgt := 79) hx hb dX10_fact_10 (by rw [h10]; decide) (by rw [h10]; decide) (by rw [h10]; decide) (by decide) ?_
              refine lv_aload_n hx hb dX10_fact_79 rfl (lv_at hl 0 rfl) ?_
              refine va_get (D := (dC, dI)) (ci := 13) (fs := oF_X10 ad pr v) (v := .int (v.1 0 370)) (C := RX10) (T := TX10) (N := 17) hx hb ht itX10 hown hK hP 7 rfl rfl 15 (by decide) (ht _ tw_845) (fun _ h9 => h9) rfl dX10_fact_80 ?_
              exact W.iret (v := (v.1 0 370)) hx hb hr (fun t ht9 hW => ⟨⟨(v.1 0 370), v, rfl, ⟨rfl, (Or.inl ⟨z2, (Or.inr (⟨h3, (Or.inr (⟨h4, (Or.inr (⟨h8, (Or.inr (⟨h9, (Or.inl ⟨h10, rfl⟩)⟩))⟩))⟩))⟩))⟩)⟩, by rw [ht9]; exact hP, hD⟩, hS.F ht9⟩) hS.2.2 dX10_fact_83
            ·
              by_cases h11 : pa = 5
              · refine lv_tableIn (off := 74) (tgt := 84) hx hb dX10_fact_10 (by rw [h11]; decide) (by rw [h11]; decide) (by rw [h11]; decide) (by decide) ?_
                refine lv_aload_n hx hb dX10_fact_84 rfl (lv_at hl 0 rfl) ?_
                refine va_get (D := (dC, dI)) (ci := 13) (fs := oF_X10 ad pr v) (v := .int (v.1 0 371)) (C := RX10) (T := TX10) (N := 17) hx hb ht itX10 hown hK hP 7 rfl rfl 16 (by decide) (ht _ tw_846) (fun _ h9 => h9) rfl dX10_fact_85 ?_
                exact W.iret (v := (v.1 0 371)) hx hb hr (fun t ht9 hW => ⟨⟨(v.1 0 371), v, rfl, ⟨rfl, (Or.inl ⟨z2, (Or.inr (⟨h3, (Or.inr (⟨h4, (Or.inr (⟨h8, (Or.inr (⟨h9, (Or.inr (⟨h10, (Or.inl ⟨h11, rfl⟩)⟩))⟩))⟩))⟩))⟩))⟩)⟩, by rw [ht9]; exact hP, hD⟩, hS.F ht9⟩) hS.2.2 dX10_fact_88
              ·
                refine lv_tableOut (tgt := 89) hx hb dX10_fact_10 (by have := lv_neT h3 (a := 0) (by decide); have := lv_neT h4 (a := 1) (by decide); have := lv_neT h8 (a := 2) (by decide); have := lv_neT h9 (a := 3) (by decide); have := lv_neT h10 (a := 4) (by decide); have := lv_neT h11 (a := 5) (by decide); omega) (by decide) ?_
                refine lv_iconst (v := -1) hx hb dX10_fact_89 (by decide) ?_
                exact W.iret (v := (-1)) hx hb hr (fun t ht9 hW => ⟨⟨(-1), v, rfl, ⟨rfl, (Or.inl ⟨z2, (Or.inr (⟨h3, (Or.inr (⟨h4, (Or.inr (⟨h8, (Or.inr (⟨h9, (Or.inr (⟨h10, (Or.inr (⟨h11, rfl⟩))⟩))⟩))⟩))⟩))⟩))⟩)⟩, by rw [ht9]; exact hP, hD⟩, hS.F ht9⟩) hS.2.2 dX10_fact_90
  · have z12 : (v.1 0 361).toInt = (0 : Int) := eq_z rfl (show (0 : Int32).toInt = (0 : Int) by decide) h1
    refine lv_iconst (v := -1) hx hb dX10_fact_7 (by decide) ?_
    exact W.iret (v := (-1)) hx hb hr (fun t ht9 hW => ⟨⟨(-1), v, rfl, ⟨rfl, (Or.inr (⟨z12, rfl⟩))⟩, by rw [ht9]; exact hP, hD⟩, hS.F ht9⟩) hS.2.2 dX10_fact_8
set_option maxHeartbeats 4000000 in
set_option maxRecDepth 100000 in
theorem c_x_X10_cellAt (l : Launch) (dC : Nat → ClassId) (dI : Nat → Nat → Nat) (cI cB cZ cJ cR : ClassId) (tb : Nat → Nat) (sz : Nat) (ad : Nat → Nat) (pr : Int32 → Nat) (N : Nat) (L1 L2 : List Nat) (v : MS) (pa : Int32) (zNN : (N : Int) ≤ 4096) : Met l yX10_cellAt (Cond.code yX10_cellAt cX10_cellAt 2 (some .int) :: tw_W) ({ frames := 0, cells := 0, slots := 0, locals := 0 }) (pc_ (dC, dI) (tyS cI cB cZ cJ cR) tb (cW ad pr N cI cR L1 L2 v) sz [.ref (ad 907), .int pa]) (qi_ (dC, dI) (cW ad pr N cI cR L1 L2 v) sz (fun (r : Int32) (u : MS) => v = u ∧ (Q_x_X10_cellAt L1 L2 N v pa r)) (fun (u : MS) => (cW ad pr N cI cR L1 L2 u))) 0 0 (va_A (cW ad pr N cI cR L1 L2 v) sz) := by
  refine Met.ofW (cc := cX10_cellAt) (maxL := 2) (ret := (some .int)) (by decide) rfl ?_
  intro p e s m args below meth c s₁ B hml hv
  obtain ⟨rfl, hsz, hP, hKK, hD0, hFx⟩ := hv
  have hK := hKK.1
  have hx := B.exec
  have hb := B.bytes
  have hr := B.returns
  have ht : ∀ w ∈ tw_W, w.before _ s = true := fun w h => atoms_spec (ws := Cond.code yX10_cellAt cX10_cellAt 2 (some .int) :: tw_W) B.pre w (List.mem_cons_of_mem _ h)
  have hown : s.vm.findClass RX10 = some m.cls := findClass_of_methodNamed B.named
  have hlocks := B.notSynchronized
  subst hsz
  unfold qi_
  have hD := hD0.self (sz := s.heap.size)
  generalize hAe : va_A (cW ad pr N cI cR L1 L2 v) s.heap.size = A at hD hFx ⊢
  have hA : ∀ q : Nat, s.heap.size ≤ q → A q := fun q h => by rw [← hAe]; exact Or.inr h
  have hS : va_S A s.heap s.heap [] := va_S.rf
  have hl := lv_entry ([.ref (ad 907), .int pa]) (n := 2) (Nat.le_of_ble_eq_true rfl)
  rw [lg_entry_eq]
  generalize (lg_sl ([.ref (ad 907), .int pa]) ++ List.replicate (2 - (lg_sl ([.ref (ad 907), .int pa])).length) Slot.unset).toArray = ls at hl ⊢
  have hl : lv_has ls 2 [(0, .ref (ad 907)), (1, .int pa)] := hl
  refine lv_iload_n hx hb dX10_cellAt_0 rfl (lv_at hl 1 rfl) ?_
  refine lv_if_lt (tgt := 22) hx hb dX10_cellAt_1 (by decide) (fun h1 => ?_) (fun h1 => ?_)
  · have z2 : pa.toInt < (0 : Int) := lt_z rfl (show (0 : Int32).toInt = (0 : Int) by decide) h1
    refine lv_iconst (v := 0) hx hb dX10_cellAt_22 (by decide) ?_
    exact W.iret (v := 0) hx hb hr (fun t ht9 hW => ⟨⟨0, v, rfl, ⟨rfl, (Or.inl ⟨z2, rfl⟩)⟩, by rw [ht9]; exact hP, hD⟩, hS.F ht9⟩) hS.2.2 dX10_cellAt_23
  · have z3 : (0 : Int) ≤ pa.toInt := nlt_z rfl (show (0 : Int32).toInt = (0 : Int) by decide) h1
    refine lv_iload_n hx hb dX10_cellAt_4 rfl (lv_at hl 1 rfl) ?_
    refine lv_aload_n hx hb dX10_cellAt_5 rfl (lv_at hl 0 rfl) ?_
    refine va_get (D := (dC, dI)) (ci := 13) (fs := oF_X10 ad pr v) (v := .ref (ad 359)) (C := RX10) (T := TX10) (N := 17) hx hb ht itX10 hown hK hP 7 rfl rfl 4 (by decide) (ht _ tw_847) (fun _ h9 => h9) rfl dX10_cellAt_6 ?_
    refine va_alen (D := (dC, dI)) (v := (nI N)) hx hb hK hP 26 0 rfl rfl rfl dX10_cellAt_9 ?_
    have zN4 : (nI N).toInt = (N : Int) := nI_N (by have := (om_1c2c49c46c zNN); omega)
    refine lv_icmp_ge (tgt := 22) hx hb dX10_cellAt_10 (by decide) (fun h5 => ?_) (fun h5 => ?_)
    · have z6 : (nI N).toInt ≤ pa.toInt := le_z rfl rfl h5
      refine lv_iconst (v := 0) hx hb dX10_cellAt_22 (by decide) ?_
      exact W.iret (v := 0) hx hb hr (fun t ht9 hW => ⟨⟨0, v, rfl, ⟨rfl, (Or.inr (⟨z3, (Or.inl ⟨z6, rfl⟩)⟩))⟩, by rw [ht9]; exact hP, hD⟩, hS.F ht9⟩) hS.2.2 dX10_cellAt_23
    · have z7 : pa.toInt < (nI N).toInt := nle_z rfl rfl h5
      refine lv_aload_n hx hb dX10_cellAt_13 rfl (lv_at hl 0 rfl) ?_
      refine va_get (D := (dC, dI)) (ci := 13) (fs := oF_X10 ad pr v) (v := .ref (ad 359)) (C := RX10) (T := TX10) (N := 17) hx hb ht itX10 hown hK hP 7 rfl rfl 4 (by decide) (ht _ tw_847) (fun _ h9 => h9) rfl dX10_cellAt_14 ?_
      refine lv_iload_n hx hb dX10_cellAt_17 rfl (lv_at hl 1 rfl) ?_
      refine va_iald (D := (dC, dI)) (f := (v.1 359)) hx hb hK hP 26 0 rfl rfl (in_y (a := pa.toInt) (b := (N : Int)) rfl (om_51058f7f87 z3) (om_267f7d2370 zN4 z7) rfl) dX10_cellAt_18 ?_
      refine lv_goto (tgt := 23) hx hb dX10_cellAt_19 (by decide) ?_
      exact W.iret (v := ((v.1 359) pa.toNatClampNeg)) hx hb hr (fun t ht9 hW => ⟨⟨((v.1 359) pa.toNatClampNeg), v, rfl, ⟨rfl, (Or.inr (⟨z3, (Or.inr (⟨z7, rfl⟩))⟩))⟩, by rw [ht9]; exact hP, hD⟩, hS.F ht9⟩) hS.2.2 dX10_cellAt_23
set_option maxHeartbeats 4000000 in
set_option maxRecDepth 100000 in
theorem c_x_X10_changeCell (l : Launch) (dC : Nat → ClassId) (dI : Nat → Nat → Nat) (cI cB cZ cJ cR : ClassId) (tb : Nat → Nat) (sz : Nat) (ad : Nat → Nat) (pr : Int32 → Nat) (N : Nat) (L1 L2 : List Nat) (v : MS) (pa : Int32) (pb : Int32) (zNN : (N : Int) ≤ 4096) : Met l yX10_changeCell (Cond.code yX10_changeCell cX10_changeCell 3 none :: tw_W) ({ frames := 0, cells := 0, slots := 0, locals := 0 }) (pc_ (dC, dI) (tyS cI cB cZ cJ cR) tb (cW ad pr N cI cR L1 L2 v) sz [.ref (ad 907), .int pa, .int pb]) (qv_ (dC, dI) (cW ad pr N cI cR L1 L2 v) sz (fun (u : MS) => FC [] [359] v u ∧ (Q_x_X10_changeCell L1 L2 N v pa pb u) ∧ (RS0 v u)) (fun (u : MS) => (cW ad pr N cI cR L1 L2 u))) 0 0 (va_A (cW ad pr N cI cR L1 L2 v) sz) := by
  refine Met.ofW (cc := cX10_changeCell) (maxL := 3) (ret := none) (by decide) rfl ?_
  intro p e s m args below meth c s₁ B hml hv
  obtain ⟨rfl, hsz, hP, hKK, hD0, hFx⟩ := hv
  have hK := hKK.1
  have hx := B.exec
  have hb := B.bytes
  have hr := B.returns
  have ht : ∀ w ∈ tw_W, w.before _ s = true := fun w h => atoms_spec (ws := Cond.code yX10_changeCell cX10_changeCell 3 none :: tw_W) B.pre w (List.mem_cons_of_mem _ h)
  have hown : s.vm.findClass RX10 = some m.cls := findClass_of_methodNamed B.named
  have hlocks := B.notSynchronized
  subst hsz
  unfold qv_
  have hD := hD0.self (sz := s.heap.size)
  generalize hAe : va_A (cW ad pr N cI cR L1 L2 v) s.heap.size = A at hD hFx ⊢
  have hA : ∀ q : Nat, s.heap.size ≤ q → A q := fun q h => by rw [← hAe]; exact Or.inr h
  have hS : va_S A s.heap s.heap [] := va_S.rf
  have hl := lv_entry ([.ref (ad 907), .int pa, .int pb]) (n := 3) (Nat.le_of_ble_eq_true rfl)
  rw [lg_entry_eq]
  generalize (lg_sl ([.ref (ad 907), .int pa, .int pb]) ++ List.replicate (3 - (lg_sl ([.ref (ad 907), .int pa, .int pb])).length) Slot.unset).toArray = ls at hl ⊢
  have hl : lv_has ls 3 [(0, .ref (ad 907)), (1, .int pa), (2, .int pb)] := hl
  refine lv_iload_n hx hb dX10_changeCell_0 rfl (lv_at hl 1 rfl) ?_
  refine lv_if_lt (tgt := 20) hx hb dX10_changeCell_1 (by decide) (fun h1 => ?_) (fun h1 => ?_)
  · have z2 : pa.toInt < (0 : Int) := lt_z rfl (show (0 : Int32).toInt = (0 : Int) by decide) h1
    exact W.vret hx hb hr (fun t ht9 hW => ⟨⟨v, rfl, ⟨(FC.rf _), (Or.inl ⟨z2, rfl⟩), RS0.rf⟩, by rw [ht9]; exact hP, hD⟩, hS.F ht9⟩) hS.2.2 dX10_changeCell_20
  · have z3 : (0 : Int) ≤ pa.toInt := nlt_z rfl (show (0 : Int32).toInt = (0 : Int) by decide) h1
    refine lv_iload_n hx hb dX10_changeCell_4 rfl (lv_at hl 1 rfl) ?_
    refine lv_aload_n hx hb dX10_changeCell_5 rfl (lv_at hl 0 rfl) ?_
    refine va_get (D := (dC, dI)) (ci := 13) (fs := oF_X10 ad pr v) (v := .ref (ad 359)) (C := RX10) (T := TX10) (N := 17) hx hb ht itX10 hown hK hP 7 rfl rfl 4 (by decide) (ht _ tw_847) (fun _ h9 => h9) rfl dX10_changeCell_6 ?_
    refine va_alen (D := (dC, dI)) (v := (nI N)) hx hb hK hP 26 0 rfl rfl rfl dX10_changeCell_9 ?_
    have zN4 : (nI N).toInt = (N : Int) := nI_N (by have := (om_1c2c49c46c zNN); omega)
    refine lv_icmp_ge (tgt := 20) hx hb dX10_changeCell_10 (by decide) (fun h5 => ?_) (fun h5 => ?_)
    · have z6 : (nI N).toInt ≤ pa.toInt := le_z rfl rfl h5
      exact W.vret hx hb hr (fun t ht9 hW => ⟨⟨v, rfl, ⟨(FC.rf _), (Or.inr (⟨z3, (Or.inl ⟨z6, rfl⟩)⟩)), RS0.rf⟩, by rw [ht9]; exact hP, hD⟩, hS.F ht9⟩) hS.2.2 dX10_changeCell_20
    · have z7 : pa.toInt < (nI N).toInt := nle_z rfl rfl h5
      refine lv_aload_n hx hb dX10_changeCell_13 rfl (lv_at hl 0 rfl) ?_
      refine va_get (D := (dC, dI)) (ci := 13) (fs := oF_X10 ad pr v) (v := .ref (ad 359)) (C := RX10) (T := TX10) (N := 17) hx hb ht itX10 hown hK hP 7 rfl rfl 4 (by decide) (ht _ tw_847) (fun _ h9 => h9) rfl dX10_changeCell_14 ?_
      refine lv_iload_n hx hb dX10_changeCell_17 rfl (lv_at hl 1 rfl) ?_
      refine lv_iload_n hx hb dX10_changeCell_18 rfl (lv_at hl 2 rfl) ?_
      refine va_iast (D := (dC, dI)) (f := (v.1 359)) hx hb hK hP hD hS 26 0 rfl rfl (in_y (a := pa.toInt) (b := (N : Int)) rfl (om_51058f7f87 z3) (om_267f7d2370 zN4 z7) rfl) dX10_changeCell_19 (fun H locs hP hD hS => ?_)
      have hP := cP_ (cq_359 ad pr N cI cR L1 L2 v pa.toNatClampNeg pb) hP
      have hD := cD_ (cq_359 ad pr N cI cR L1 L2 v pa.toNatClampNeg pb) hD
      exact W.vret hx hb hr (fun t ht9 hW => ⟨⟨(wA v 359 pa.toNatClampNeg pb), rfl, ⟨(FC.a (FC.rf _) pa.toNatClampNeg pb (by decide) (by decide)), (Or.inr (⟨z3, (Or.inr (⟨z7, rfl⟩))⟩)), (RS0.w RS0.rf (by decide))⟩, by rw [ht9]; exact hP, hD⟩, hS.F ht9⟩) hS.2.2 dX10_changeCell_20
set_option maxHeartbeats 4000000 in
set_option maxRecDepth 100000 in
theorem c_x_X10_frameWord (l : Launch) (dC : Nat → ClassId) (dI : Nat → Nat → Nat) (cI cB cZ cJ cR : ClassId) (tb : Nat → Nat) (sz : Nat) (ad : Nat → Nat) (pr : Int32 → Nat) (N : Nat) (L1 L2 : List Nat) (v : MS) (pa : Int32) (zNN : (N : Int) ≤ 4096) : Met l yX10_frameWord (Cond.code yX10_frameWord cX10_frameWord 2 (some .int) :: tw_W) ({ frames := 0, cells := 0, slots := 0, locals := 0 }) (pc_ (dC, dI) (tyS cI cB cZ cJ cR) tb (cW ad pr N cI cR L1 L2 v) sz [.ref (ad 907), .int pa]) (qi_ (dC, dI) (cW ad pr N cI cR L1 L2 v) sz (fun (r : Int32) (u : MS) => v = u ∧ (Q_x_X10_frameWord L1 L2 N v pa r)) (fun (u : MS) => (cW ad pr N cI cR L1 L2 u))) 0 0 (va_A (cW ad pr N cI cR L1 L2 v) sz) := by
  refine Met.ofW (cc := cX10_frameWord) (maxL := 2) (ret := (some .int)) (by decide) rfl ?_
  intro p e s m args below meth c s₁ B hml hv
  obtain ⟨rfl, hsz, hP, hKK, hD0, hFx⟩ := hv
  have hK := hKK.1
  have hx := B.exec
  have hb := B.bytes
  have hr := B.returns
  have ht : ∀ w ∈ tw_W, w.before _ s = true := fun w h => atoms_spec (ws := Cond.code yX10_frameWord cX10_frameWord 2 (some .int) :: tw_W) B.pre w (List.mem_cons_of_mem _ h)
  have hown : s.vm.findClass RX10 = some m.cls := findClass_of_methodNamed B.named
  have hlocks := B.notSynchronized
  subst hsz
  unfold qi_
  have hD := hD0.self (sz := s.heap.size)
  generalize hAe : va_A (cW ad pr N cI cR L1 L2 v) s.heap.size = A at hD hFx ⊢
  have hA : ∀ q : Nat, s.heap.size ≤ q → A q := fun q h => by rw [← hAe]; exact Or.inr h
  have hS : va_S A s.heap s.heap [] := va_S.rf
  have hl := lv_entry ([.ref (ad 907), .int pa]) (n := 2) (Nat.le_of_ble_eq_true rfl)
  rw [lg_entry_eq]
  generalize (lg_sl ([.ref (ad 907), .int pa]) ++ List.replicate (2 - (lg_sl ([.ref (ad 907), .int pa])).length) Slot.unset).toArray = ls at hl ⊢
  have hl : lv_has ls 2 [(0, .ref (ad 907)), (1, .int pa)] := hl
  refine lv_iload_n hx hb dX10_frameWord_0 rfl (lv_at hl 1 rfl) ?_
  refine lv_if_lt (tgt := 22) hx hb dX10_frameWord_1 (by decide) (fun h1 => ?_) (fun h1 => ?_)
  · have z2 : pa.toInt < (0 : Int) := lt_z rfl (show (0 : Int32).toInt = (0 : Int) by decide) h1
    refine lv_iconst (v := 0) hx hb dX10_frameWord_22 (by decide) ?_
    exact W.iret (v := 0) hx hb hr (fun t ht9 hW => ⟨⟨0, v, rfl, ⟨rfl, (Or.inl ⟨z2, rfl⟩)⟩, by rw [ht9]; exact hP, hD⟩, hS.F ht9⟩) hS.2.2 dX10_frameWord_23
  · have z3 : (0 : Int) ≤ pa.toInt := nlt_z rfl (show (0 : Int32).toInt = (0 : Int) by decide) h1
    refine lv_iload_n hx hb dX10_frameWord_4 rfl (lv_at hl 1 rfl) ?_
    refine lv_aload_n hx hb dX10_frameWord_5 rfl (lv_at hl 0 rfl) ?_
    refine va_get (D := (dC, dI)) (ci := 13) (fs := oF_X10 ad pr v) (v := .ref (ad 358)) (C := RX10) (T := TX10) (N := 17) hx hb ht itX10 hown hK hP 7 rfl rfl 3 (by decide) (ht _ tw_848) (fun _ h9 => h9) rfl dX10_frameWord_6 ?_
    refine va_alen (D := (dC, dI)) (v := (nI N)) hx hb hK hP 25 0 rfl rfl rfl dX10_frameWord_9 ?_
    have zN4 : (nI N).toInt = (N : Int) := nI_N (by have := (om_1c2c49c46c zNN); omega)
    refine lv_icmp_ge (tgt := 22) hx hb dX10_frameWord_10 (by decide) (fun h5 => ?_) (fun h5 => ?_)
    · have z6 : (nI N).toInt ≤ pa.toInt := le_z rfl rfl h5
      refine lv_iconst (v := 0) hx hb dX10_frameWord_22 (by decide) ?_
      exact W.iret (v := 0) hx hb hr (fun t ht9 hW => ⟨⟨0, v, rfl, ⟨rfl, (Or.inr (⟨z3, (Or.inl ⟨z6, rfl⟩)⟩))⟩, by rw [ht9]; exact hP, hD⟩, hS.F ht9⟩) hS.2.2 dX10_frameWord_23
    · have z7 : pa.toInt < (nI N).toInt := nle_z rfl rfl h5
      refine lv_aload_n hx hb dX10_frameWord_13 rfl (lv_at hl 0 rfl) ?_
      refine va_get (D := (dC, dI)) (ci := 13) (fs := oF_X10 ad pr v) (v := .ref (ad 358)) (C := RX10) (T := TX10) (N := 17) hx hb ht itX10 hown hK hP 7 rfl rfl 3 (by decide) (ht _ tw_848) (fun _ h9 => h9) rfl dX10_frameWord_14 ?_
      refine lv_iload_n hx hb dX10_frameWord_17 rfl (lv_at hl 1 rfl) ?_
      refine va_iald (D := (dC, dI)) (f := (v.1 358)) hx hb hK hP 25 0 rfl rfl (in_y (a := pa.toInt) (b := (N : Int)) rfl (om_51058f7f87 z3) (om_267f7d2370 zN4 z7) rfl) dX10_frameWord_18 ?_
      refine lv_goto (tgt := 23) hx hb dX10_frameWord_19 (by decide) ?_
      exact W.iret (v := ((v.1 358) pa.toNatClampNeg)) hx hb hr (fun t ht9 hW => ⟨⟨((v.1 358) pa.toNatClampNeg), v, rfl, ⟨rfl, (Or.inr (⟨z3, (Or.inr (⟨z7, rfl⟩))⟩))⟩, by rw [ht9]; exact hP, hD⟩, hS.F ht9⟩) hS.2.2 dX10_frameWord_23
set_option maxHeartbeats 4000000 in
set_option maxRecDepth 100000 in
theorem c_x_X10_changeFrameWord (l : Launch) (dC : Nat → ClassId) (dI : Nat → Nat → Nat) (cI cB cZ cJ cR : ClassId) (tb : Nat → Nat) (sz : Nat) (ad : Nat → Nat) (pr : Int32 → Nat) (N : Nat) (L1 L2 : List Nat) (v : MS) (pa : Int32) (pb : Int32) (zNN : (N : Int) ≤ 4096) : Met l yX10_changeFrameWord (Cond.code yX10_changeFrameWord cX10_changeFrameWord 3 none :: tw_W) ({ frames := 0, cells := 0, slots := 0, locals := 0 }) (pc_ (dC, dI) (tyS cI cB cZ cJ cR) tb (cW ad pr N cI cR L1 L2 v) sz [.ref (ad 907), .int pa, .int pb]) (qv_ (dC, dI) (cW ad pr N cI cR L1 L2 v) sz (fun (u : MS) => FC [] [358] v u ∧ (Q_x_X10_changeFrameWord L1 L2 N v pa pb u) ∧ (RS0 v u)) (fun (u : MS) => (cW ad pr N cI cR L1 L2 u))) 0 0 (va_A (cW ad pr N cI cR L1 L2 v) sz) := by
  refine Met.ofW (cc := cX10_changeFrameWord) (maxL := 3) (ret := none) (by decide) rfl ?_
  intro p e s m args below meth c s₁ B hml hv
  obtain ⟨rfl, hsz, hP, hKK, hD0, hFx⟩ := hv
  have hK := hKK.1
  have hx := B.exec
  have hb := B.bytes
  have hr := B.returns
  have ht : ∀ w ∈ tw_W, w.before _ s = true := fun w h => atoms_spec (ws := Cond.code yX10_changeFrameWord cX10_changeFrameWord 3 none :: tw_W) B.pre w (List.mem_cons_of_mem _ h)
  have hown : s.vm.findClass RX10 = some m.cls := findClass_of_methodNamed B.named
  have hlocks := B.notSynchronized
  subst hsz
  unfold qv_
  have hD := hD0.self (sz := s.heap.size)
  generalize hAe : va_A (cW ad pr N cI cR L1 L2 v) s.heap.size = A at hD hFx ⊢
  have hA : ∀ q : Nat, s.heap.size ≤ q → A q := fun q h => by rw [← hAe]; exact Or.inr h
  have hS : va_S A s.heap s.heap [] := va_S.rf
  have hl := lv_entry ([.ref (ad 907), .int pa, .int pb]) (n := 3) (Nat.le_of_ble_eq_true rfl)
  rw [lg_entry_eq]
  generalize (lg_sl ([.ref (ad 907), .int pa, .int pb]) ++ List.replicate (3 - (lg_sl ([.ref (ad 907), .int pa, .int pb])).length) Slot.unset).toArray = ls at hl ⊢
  have hl : lv_has ls 3 [(0, .ref (ad 907)), (1, .int pa), (2, .int pb)] := hl
  refine lv_iload_n hx hb dX10_changeFrameWord_0 rfl (lv_at hl 1 rfl) ?_
  refine lv_if_lt (tgt := 20) hx hb dX10_changeFrameWord_1 (by decide) (fun h1 => ?_) (fun h1 => ?_)
  · have z2 : pa.toInt < (0 : Int) := lt_z rfl (show (0 : Int32).toInt = (0 : Int) by decide) h1
    exact W.vret hx hb hr (fun t ht9 hW => ⟨⟨v, rfl, ⟨(FC.rf _), (Or.inl ⟨z2, rfl⟩), RS0.rf⟩, by rw [ht9]; exact hP, hD⟩, hS.F ht9⟩) hS.2.2 dX10_changeFrameWord_20
  · have z3 : (0 : Int) ≤ pa.toInt := nlt_z rfl (show (0 : Int32).toInt = (0 : Int) by decide) h1
    refine lv_iload_n hx hb dX10_changeFrameWord_4 rfl (lv_at hl 1 rfl) ?_
    refine lv_aload_n hx hb dX10_changeFrameWord_5 rfl (lv_at hl 0 rfl) ?_
    refine va_get (D := (dC, dI)) (ci := 13) (fs := oF_X10 ad pr v) (v := .ref (ad 358)) (C := RX10) (T := TX10) (N := 17) hx hb ht itX10 hown hK hP 7 rfl rfl 3 (by decide) (ht _ tw_848) (fun _ h9 => h9) rfl dX10_changeFrameWord_6 ?_
    refine va_alen (D := (dC, dI)) (v := (nI N)) hx hb hK hP 25 0 rfl rfl rfl dX10_changeFrameWord_9 ?_
    have zN4 : (nI N).toInt = (N : Int) := nI_N (by have := (om_1c2c49c46c zNN); omega)
    refine lv_icmp_ge (tgt := 20) hx hb dX10_changeFrameWord_10 (by decide) (fun h5 => ?_) (fun h5 => ?_)
    · have z6 : (nI N).toInt ≤ pa.toInt := le_z rfl rfl h5
      exact W.vret hx hb hr (fun t ht9 hW => ⟨⟨v, rfl, ⟨(FC.rf _), (Or.inr (⟨z3, (Or.inl ⟨z6, rfl⟩)⟩)), RS0.rf⟩, by rw [ht9]; exact hP, hD⟩, hS.F ht9⟩) hS.2.2 dX10_changeFrameWord_20
    · have z7 : pa.toInt < (nI N).toInt := nle_z rfl rfl h5
      refine lv_aload_n hx hb dX10_changeFrameWord_13 rfl (lv_at hl 0 rfl) ?_
      refine va_get (D := (dC, dI)) (ci := 13) (fs := oF_X10 ad pr v) (v := .ref (ad 358)) (C := RX10) (T := TX10) (N := 17) hx hb ht itX10 hown hK hP 7 rfl rfl 3 (by decide) (ht _ tw_848) (fun _ h9 => h9) rfl dX10_changeFrameWord_14 ?_
      refine lv_iload_n hx hb dX10_changeFrameWord_17 rfl (lv_at hl 1 rfl) ?_
      refine lv_iload_n hx hb dX10_changeFrameWord_18 rfl (lv_at hl 2 rfl) ?_
      refine va_iast (D := (dC, dI)) (f := (v.1 358)) hx hb hK hP hD hS 25 0 rfl rfl (in_y (a := pa.toInt) (b := (N : Int)) rfl (om_51058f7f87 z3) (om_267f7d2370 zN4 z7) rfl) dX10_changeFrameWord_19 (fun H locs hP hD hS => ?_)
      have hP := cP_ (cq_358 ad pr N cI cR L1 L2 v pa.toNatClampNeg pb) hP
      have hD := cD_ (cq_358 ad pr N cI cR L1 L2 v pa.toNatClampNeg pb) hD
      exact W.vret hx hb hr (fun t ht9 hW => ⟨⟨(wA v 358 pa.toNatClampNeg pb), rfl, ⟨(FC.a (FC.rf _) pa.toNatClampNeg pb (by decide) (by decide)), (Or.inr (⟨z3, (Or.inr (⟨z7, rfl⟩))⟩)), (RS0.w RS0.rf (by decide))⟩, by rw [ht9]; exact hP, hD⟩, hS.F ht9⟩) hS.2.2 dX10_changeFrameWord_20
set_option maxHeartbeats 4000000 in
set_option maxRecDepth 100000 in
theorem c_x_X10_placeOfSlot (l : Launch) (dC : Nat → ClassId) (dI : Nat → Nat → Nat) (cI cB cZ cJ cR : ClassId) (tb : Nat → Nat) (sz : Nat) (ad : Nat → Nat) (pr : Int32 → Nat) (N : Nat) (L1 L2 : List Nat) (v : MS) (pa : Int32)  : Met l yX10_placeOfSlot (Cond.code yX10_placeOfSlot cX10_placeOfSlot 2 (some .int) :: tw_W) ({ frames := 0, cells := 0, slots := 0, locals := 0 }) (pc_ (dC, dI) (tyS cI cB cZ cJ cR) tb (cW ad pr N cI cR L1 L2 v) sz [.ref (ad 907), .int pa]) (qi_ (dC, dI) (cW ad pr N cI cR L1 L2 v) sz (fun (r : Int32) (u : MS) => v = u ∧ (Q_x_X10_placeOfSlot L1 L2 v pa r)) (fun (u : MS) => (cW ad pr N cI cR L1 L2 u))) 0 0 (va_A (cW ad pr N cI cR L1 L2 v) sz) := by
  refine Met.ofW (cc := cX10_placeOfSlot) (maxL := 2) (ret := (some .int)) (by decide) rfl ?_
  intro p e s m args below meth c s₁ B hml hv
  obtain ⟨rfl, hsz, hP, hKK, hD0, hFx⟩ := hv
  have hK := hKK.1
  have hx := B.exec
  have hb := B.bytes
  have hr := B.returns
  have ht : ∀ w ∈ tw_W, w.before _ s = true := fun w h => atoms_spec (ws := Cond.code yX10_placeOfSlot cX10_placeOfSlot 2 (some .int) :: tw_W) B.pre w (List.mem_cons_of_mem _ h)
  have hown : s.vm.findClass RX10 = some m.cls := findClass_of_methodNamed B.named
  have hlocks := B.notSynchronized
  subst hsz
  unfold qi_
  have hD := hD0.self (sz := s.heap.size)
  generalize hAe : va_A (cW ad pr N cI cR L1 L2 v) s.heap.size = A at hD hFx ⊢
  have hA : ∀ q : Nat, s.heap.size ≤ q → A q := fun q h => by rw [← hAe]; exact Or.inr h
  have hS : va_S A s.heap s.heap [] := va_S.rf
  have hl := lv_entry ([.ref (ad 907), .int pa]) (n := 2) (Nat.le_of_ble_eq_true rfl)
  rw [lg_entry_eq]
  generalize (lg_sl ([.ref (ad 907), .int pa]) ++ List.replicate (2 - (lg_sl ([.ref (ad 907), .int pa])).length) Slot.unset).toArray = ls at hl ⊢
  have hl : lv_has ls 2 [(0, .ref (ad 907)), (1, .int pa)] := hl
  refine lv_aload_n hx hb dX10_placeOfSlot_0 rfl (lv_at hl 0 rfl) ?_
  refine va_get (D := (dC, dI)) (ci := 13) (fs := oF_X10 ad pr v) (v := .int (v.1 0 365)) (C := RX10) (T := TX10) (N := 17) hx hb ht itX10 hown hK hP 7 rfl rfl 10 (by decide) (ht _ tw_849) (fun _ h9 => h9) rfl dX10_placeOfSlot_1 ?_
  refine lv_iconst (v := 2) hx hb dX10_placeOfSlot_4 (by decide) ?_
  refine lv_iadd hx hb dX10_placeOfSlot_5 ?_
  refine lv_iload_n hx hb dX10_placeOfSlot_6 rfl (lv_at hl 1 rfl) ?_
  refine lv_iadd hx hb dX10_placeOfSlot_7 ?_
  exact W.iret (v := (((v.1 0 365) + (2 : Int32)) + pa)) hx hb hr (fun t ht9 hW => ⟨⟨(((v.1 0 365) + (2 : Int32)) + pa), v, rfl, ⟨rfl, rfl⟩, by rw [ht9]; exact hP, hD⟩, hS.F ht9⟩) hS.2.2 dX10_placeOfSlot_8
set_option maxHeartbeats 4000000 in
set_option maxRecDepth 100000 in
theorem c_x_X10_slotAt (l : Launch) (dC : Nat → ClassId) (dI : Nat → Nat → Nat) (cI cB cZ cJ cR : ClassId) (tb : Nat → Nat) (sz : Nat) (ad : Nat → Nat) (pr : Int32 → Nat) (N : Nat) (L1 L2 : List Nat) (v : MS) (pa : Int32) (zNN : (N : Int) ≤ 4096) : Met l yX10_slotAt (Cond.code yX10_slotAt cX10_slotAt 2 (some .int) :: tw_W) ({ frames := 1, cells := 0, slots := 0, locals := 21 }) (pc_ (dC, dI) (tyS cI cB cZ cJ cR) tb (cW ad pr N cI cR L1 L2 v) sz [.ref (ad 907), .int pa]) (qi_ (dC, dI) (cW ad pr N cI cR L1 L2 v) sz (fun (r : Int32) (u : MS) => v = u ∧ (Q_x_X10_slotAt L1 L2 N v pa r)) (fun (u : MS) => (cW ad pr N cI cR L1 L2 u))) 0 0 (va_A (cW ad pr N cI cR L1 L2 v) sz) := by
  refine Met.ofW (cc := cX10_slotAt) (maxL := 2) (ret := (some .int)) (by decide) rfl ?_
  intro p e s m args below meth c s₁ B hml hv
  obtain ⟨rfl, hsz, hP, hKK, hD0, hFx⟩ := hv
  have hK := hKK.1
  have hx := B.exec
  have hb := B.bytes
  have hr := B.returns
  have ht : ∀ w ∈ tw_W, w.before _ s = true := fun w h => atoms_spec (ws := Cond.code yX10_slotAt cX10_slotAt 2 (some .int) :: tw_W) B.pre w (List.mem_cons_of_mem _ h)
  have hown : s.vm.findClass RX10 = some m.cls := findClass_of_methodNamed B.named
  have hlocks := B.notSynchronized
  subst hsz
  unfold qi_
  have hD := hD0.self (sz := s.heap.size)
  generalize hAe : va_A (cW ad pr N cI cR L1 L2 v) s.heap.size = A at hD hFx ⊢
  have hA : ∀ q : Nat, s.heap.size ≤ q → A q := fun q h => by rw [← hAe]; exact Or.inr h
  have hS : va_S A s.heap s.heap [] := va_S.rf
  have hl := lv_entry ([.ref (ad 907), .int pa]) (n := 2) (Nat.le_of_ble_eq_true rfl)
  rw [lg_entry_eq]
  generalize (lg_sl ([.ref (ad 907), .int pa]) ++ List.replicate (2 - (lg_sl ([.ref (ad 907), .int pa])).length) Slot.unset).toArray = ls at hl ⊢
  have hl : lv_has ls 2 [(0, .ref (ad 907)), (1, .int pa)] := hl
  refine lv_aload_n hx hb dX10_slotAt_0 rfl (lv_at hl 0 rfl) ?_
  refine lv_aload_n hx hb dX10_slotAt_1 rfl (lv_at hl 0 rfl) ?_
  refine lv_iload_n hx hb dX10_slotAt_2 rfl (lv_at hl 1 rfl) ?_
  refine cu_i (rn_Vk (n := 1) (As := [.int pa]) (rest := [.ref (ad 907)]) hx hb hml hown ht hKK hFx hP hD hS hA (c_x_X10_placeOfSlot l dC dI cI cB cZ cJ cR tb s.heap.size ad pr N L1 L2 v pa ) tw_850 tw_851 (by decide +kernel) rfl rfl ⟨Nat.le_of_ble_eq_true rfl, Nat.le_of_ble_eq_true rfl⟩ (List.range (cW ad pr N cI cR L1 L2 v).length) (rg_map _) (nd_range _) 7 rfl rfl rfl rfl hl.1 rfl (Nat.le_of_ble_eq_true rfl) dX10_slotAt_3 ⟨Nat.le_of_ble_eq_true rfl, Nat.le_of_ble_eq_true rfl⟩) hP hD hS hA (fun r3 u2 H locs hw1 hP hD hS => ?_)
  obtain ⟨rfl, ex1⟩ := hw1
  refine W.widen (k := 0) (n := 0) (Nat.le_refl _) (Nat.le_refl _) ?_
  refine cu_i (rn_Vk (n := 1) (As := [.int r3]) (rest := []) hx hb hml hown ht hKK hFx hP hD hS hA (c_x_X10_frameWord l dC dI cI cB cZ cJ cR tb H.size ad pr N L1 L2 v r3 (show (N : Int) ≤ 4096 from (om_1c2c49c46c zNN))) tw_852 tw_853 (by decide +kernel) rfl rfl ⟨Nat.le_of_ble_eq_true rfl, Nat.le_of_ble_eq_true rfl⟩ (List.range (cW ad pr N cI cR L1 L2 v).length) (rg_map _) (nd_range _) 7 rfl rfl rfl rfl hl.1 rfl (Nat.le_of_ble_eq_true rfl) dX10_slotAt_6 ⟨Nat.le_of_ble_eq_true rfl, Nat.le_of_ble_eq_true rfl⟩) hP hD hS hA (fun r6 u5 H locs hw4 hP hD hS => ?_)
  obtain ⟨rfl, ex4⟩ := hw4
  refine W.widen (k := 0) (n := 0) (Nat.le_refl _) (Nat.le_refl _) ?_
  exact W.iret (v := r6) hx hb hr (fun t ht9 hW => ⟨⟨r6, v, rfl, ⟨rfl, ⟨r3, ex1, r6, ex4, rfl⟩⟩, by rw [ht9]; exact hP, hD⟩, hS.F ht9⟩) hS.2.2 dX10_slotAt_9
set_option maxHeartbeats 4000000 in
set_option maxRecDepth 100000 in
theorem c_x_X10_changeSlot (l : Launch) (dC : Nat → ClassId) (dI : Nat → Nat → Nat) (cI cB cZ cJ cR : ClassId) (tb : Nat → Nat) (sz : Nat) (ad : Nat → Nat) (pr : Int32 → Nat) (N : Nat) (L1 L2 : List Nat) (v : MS) (pa : Int32) (pb : Int32) (zNN : (N : Int) ≤ 4096) : Met l yX10_changeSlot (Cond.code yX10_changeSlot cX10_changeSlot 3 none :: tw_W) ({ frames := 1, cells := 0, slots := 0, locals := 22 }) (pc_ (dC, dI) (tyS cI cB cZ cJ cR) tb (cW ad pr N cI cR L1 L2 v) sz [.ref (ad 907), .int pa, .int pb]) (qv_ (dC, dI) (cW ad pr N cI cR L1 L2 v) sz (fun (u : MS) => FC [] [358] v u ∧ (Q_x_X10_changeSlot L1 L2 N v pa pb u) ∧ (RS0 v u)) (fun (u : MS) => (cW ad pr N cI cR L1 L2 u))) 0 0 (va_A (cW ad pr N cI cR L1 L2 v) sz) := by
  refine Met.ofW (cc := cX10_changeSlot) (maxL := 3) (ret := none) (by decide) rfl ?_
  intro p e s m args below meth c s₁ B hml hv
  obtain ⟨rfl, hsz, hP, hKK, hD0, hFx⟩ := hv
  have hK := hKK.1
  have hx := B.exec
  have hb := B.bytes
  have hr := B.returns
  have ht : ∀ w ∈ tw_W, w.before _ s = true := fun w h => atoms_spec (ws := Cond.code yX10_changeSlot cX10_changeSlot 3 none :: tw_W) B.pre w (List.mem_cons_of_mem _ h)
  have hown : s.vm.findClass RX10 = some m.cls := findClass_of_methodNamed B.named
  have hlocks := B.notSynchronized
  subst hsz
  unfold qv_
  have hD := hD0.self (sz := s.heap.size)
  generalize hAe : va_A (cW ad pr N cI cR L1 L2 v) s.heap.size = A at hD hFx ⊢
  have hA : ∀ q : Nat, s.heap.size ≤ q → A q := fun q h => by rw [← hAe]; exact Or.inr h
  have hS : va_S A s.heap s.heap [] := va_S.rf
  have hl := lv_entry ([.ref (ad 907), .int pa, .int pb]) (n := 3) (Nat.le_of_ble_eq_true rfl)
  rw [lg_entry_eq]
  generalize (lg_sl ([.ref (ad 907), .int pa, .int pb]) ++ List.replicate (3 - (lg_sl ([.ref (ad 907), .int pa, .int pb])).length) Slot.unset).toArray = ls at hl ⊢
  have hl : lv_has ls 3 [(0, .ref (ad 907)), (1, .int pa), (2, .int pb)] := hl
  refine lv_aload_n hx hb dX10_changeSlot_0 rfl (lv_at hl 0 rfl) ?_
  refine lv_aload_n hx hb dX10_changeSlot_1 rfl (lv_at hl 0 rfl) ?_
  refine lv_iload_n hx hb dX10_changeSlot_2 rfl (lv_at hl 1 rfl) ?_
  refine cu_i (rn_Vk (n := 1) (As := [.int pa]) (rest := [.ref (ad 907)]) hx hb hml hown ht hKK hFx hP hD hS hA (c_x_X10_placeOfSlot l dC dI cI cB cZ cJ cR tb s.heap.size ad pr N L1 L2 v pa ) tw_850 tw_851 (by decide +kernel) rfl rfl ⟨Nat.le_of_ble_eq_true rfl, Nat.le_of_ble_eq_true rfl⟩ (List.range (cW ad pr N cI cR L1 L2 v).length) (rg_map _) (nd_range _) 7 rfl rfl rfl rfl hl.1 rfl (Nat.le_of_ble_eq_true rfl) dX10_changeSlot_3 ⟨Nat.le_of_ble_eq_true rfl, Nat.le_of_ble_eq_true rfl⟩) hP hD hS hA (fun r3 u2 H locs hw1 hP hD hS => ?_)
  obtain ⟨rfl, ex1⟩ := hw1
  refine W.widen (k := 0) (n := 0) (Nat.le_refl _) (Nat.le_refl _) ?_
  refine lv_iload_n hx hb dX10_changeSlot_6 rfl (lv_at hl 2 rfl) ?_
  refine cu_v (rn_Vk (n := 2) (As := [.int r3, .int pb]) (rest := []) hx hb hml hown ht hKK hFx hP hD hS hA (c_x_X10_changeFrameWord l dC dI cI cB cZ cJ cR tb H.size ad pr N L1 L2 v r3 pb (show (N : Int) ≤ 4096 from (om_1c2c49c46c zNN))) tw_854 tw_855 (by decide +kernel) rfl rfl ⟨Nat.le_of_ble_eq_true rfl, Nat.le_of_ble_eq_true rfl⟩ (List.range (cW ad pr N cI cR L1 L2 v).length) (rg_map _) (nd_range _) 7 rfl rfl rfl rfl hl.1 rfl (Nat.le_of_ble_eq_true rfl) dX10_changeSlot_7 ⟨Nat.le_of_ble_eq_true rfl, Nat.le_of_ble_eq_true rfl⟩) hP hD hS hA (fun u5 H locs hw4 hP hD hS => ?_)
  obtain ⟨fr4, ex4, rs4⟩ := hw4
  refine W.widen (k := 0) (n := 0) (Nat.le_refl _) (Nat.le_refl _) ?_
  exact W.vret hx hb hr (fun t ht9 hW => ⟨⟨u5, rfl, ⟨(FC.tr (FC.rf _) (FC.up fr4 (by decide) (by decide))), ⟨r3, ex1, u5, ex4, ⟨fr4, rs4⟩, rfl⟩, (RS0.tr RS0.rf rs4)⟩, by rw [ht9]; exact hP, hD⟩, hS.F ht9⟩) hS.2.2 dX10_changeSlot_10
set_option maxHeartbeats 4000000 in
set_option maxRecDepth 100000 in
theorem c_x_X10_takeTurn (l : Launch) (dC : Nat → ClassId) (dI : Nat → Nat → Nat) (cI cB cZ cJ cR : ClassId) (tb : Nat → Nat) (sz : Nat) (ad : Nat → Nat) (pr : Int32 → Nat) (N : Nat) (L1 L2 : List Nat) (v : MS)   : Met l yX10_takeTurn (Cond.code yX10_takeTurn cX10_takeTurn 1 none :: tw_W) ({ frames := 0, cells := 0, slots := 0, locals := 0 }) (pc_ (dC, dI) (tyS cI cB cZ cJ cR) tb (cW ad pr N cI cR L1 L2 v) sz [.ref (ad 907)]) (qv_ (dC, dI) (cW ad pr N cI cR L1 L2 v) sz (fun (u : MS) => FC [362, 368] [0] v u ∧ (Q_x_X10_takeTurn L1 L2 v u) ∧ (RS0 v u)) (fun (u : MS) => (cW ad pr N cI cR L1 L2 u))) 0 0 (va_A (cW ad pr N cI cR L1 L2 v) sz) := by
  refine Met.ofW (cc := cX10_takeTurn) (maxL := 1) (ret := none) (by decide) rfl ?_
  intro p e s m args below meth c s₁ B hml hv
  obtain ⟨rfl, hsz, hP, hKK, hD0, hFx⟩ := hv
  have hK := hKK.1
  have hx := B.exec
  have hb := B.bytes
  have hr := B.returns
  have ht : ∀ w ∈ tw_W, w.before _ s = true := fun w h => atoms_spec (ws := Cond.code yX10_takeTurn cX10_takeTurn 1 none :: tw_W) B.pre w (List.mem_cons_of_mem _ h)
  have hown : s.vm.findClass RX10 = some m.cls := findClass_of_methodNamed B.named
  have hlocks := B.notSynchronized
  subst hsz
  unfold qv_
  have hD := hD0.self (sz := s.heap.size)
  generalize hAe : va_A (cW ad pr N cI cR L1 L2 v) s.heap.size = A at hD hFx ⊢
  have hA : ∀ q : Nat, s.heap.size ≤ q → A q := fun q h => by rw [← hAe]; exact Or.inr h
  have hS : va_S A s.heap s.heap [] := va_S.rf
  have hl := lv_entry ([.ref (ad 907)]) (n := 1) (Nat.le_of_ble_eq_true rfl)
  rw [lg_entry_eq]
  generalize (lg_sl ([.ref (ad 907)]) ++ List.replicate (1 - (lg_sl ([.ref (ad 907)])).length) Slot.unset).toArray = ls at hl ⊢
  have hl : lv_has ls 1 [(0, .ref (ad 907))] := hl
  refine lv_aload_n hx hb dX10_takeTurn_0 rfl (lv_at hl 0 rfl) ?_
  refine va_get (D := (dC, dI)) (ci := 13) (fs := oF_X10 ad pr v) (v := .int (v.1 0 368)) (C := RX10) (T := TX10) (N := 17) hx hb ht itX10 hown hK hP 7 rfl rfl 13 (by decide) (ht _ tw_843) (fun _ h9 => h9) rfl dX10_takeTurn_1 ?_
  refine lv_aload_n hx hb dX10_takeTurn_4 rfl (lv_at hl 0 rfl) ?_
  refine va_get (D := (dC, dI)) (ci := 13) (fs := oF_X10 ad pr v) (v := .int (v.1 0 367)) (C := RX10) (T := TX10) (N := 17) hx hb ht itX10 hown hK hP 7 rfl rfl 12 (by decide) (ht _ tw_856) (fun _ h9 => h9) rfl dX10_takeTurn_5 ?_
  refine lv_icmp_lt (tgt := 19) hx hb dX10_takeTurn_8 (by decide) (fun h1 => ?_) (fun h1 => ?_)
  · have z2 : (v.1 0 368).toInt < (v.1 0 367).toInt := lt_z rfl rfl h1
    refine lv_aload_n hx hb dX10_takeTurn_19 rfl (lv_at hl 0 rfl) ?_
    refine lv_dup hx hb dX10_takeTurn_20 rfl ?_
    refine va_get (D := (dC, dI)) (ci := 13) (fs := oF_X10 ad pr v) (v := .int (v.1 0 368)) (C := RX10) (T := TX10) (N := 17) hx hb ht itX10 hown hK hP 7 rfl rfl 13 (by decide) (ht _ tw_843) (fun _ h9 => h9) rfl dX10_takeTurn_21 ?_
    refine lv_iconst (v := 1) hx hb dX10_takeTurn_24 (by decide) ?_
    refine lv_iadd hx hb dX10_takeTurn_25 ?_
    have z3 : ((v.1 0 368) + (1 : Int32)).toInt = (v.1 0 368).toInt + 1 := inc_lt z2
    refine va_put (D := (dC, dI)) (ci := 13) (fs := oF_X10 ad pr v) (v := .int ((v.1 0 368) + (1 : Int32))) (ty := .int) (C := RX10) (T := TX10) (N := 17) hx hb ht itX10 tyX10 tyX10_ok nmX10 hown hK hP hD hS 7 rfl rfl 13 (by decide) (ht _ tw_843) (fun _ h9 => h9) rfl (by decide +kernel) rfl rfl (Nat.le_of_ble_eq_true rfl) dX10_takeTurn_26 (fun H locs hP hD hS => ?_)
    have hP := cP_ (cw_368 ad pr N cI cR L1 L2 v ((v.1 0 368) + (1 : Int32))) hP
    have hD := cD_ (cw_368 ad pr N cI cR L1 L2 v ((v.1 0 368) + (1 : Int32))) hD
    exact W.vret hx hb hr (fun t ht9 hW => ⟨⟨(wA v 0 368 ((v.1 0 368) + (1 : Int32))), rfl, ⟨(FC.f (FC.rf _) ((v.1 0 368) + (1 : Int32)) (by decide)), (Or.inl ⟨z2, rfl⟩), (RS0.w RS0.rf (by decide))⟩, by rw [ht9]; exact hP, hD⟩, hS.F ht9⟩) hS.2.2 dX10_takeTurn_29
  · have z4 : (v.1 0 367).toInt ≤ (v.1 0 368).toInt := nlt_z rfl rfl h1
    refine lv_aload_n hx hb dX10_takeTurn_11 rfl (lv_at hl 0 rfl) ?_
    refine lv_iconst (v := 4) hx hb dX10_takeTurn_12 (by decide) ?_
    refine va_put (D := (dC, dI)) (ci := 13) (fs := oF_X10 ad pr v) (v := .int 4) (ty := .int) (C := RX10) (T := TX10) (N := 17) hx hb ht itX10 tyX10 tyX10_ok nmX10 hown hK hP hD hS 7 rfl rfl 7 (by decide) (ht _ tw_841) (fun _ h9 => h9) rfl (by decide +kernel) rfl rfl (Nat.le_of_ble_eq_true rfl) dX10_takeTurn_13 (fun H locs hP hD hS => ?_)
    have hP := cP_ (cw_362 ad pr N cI cR L1 L2 v 4) hP
    have hD := cD_ (cw_362 ad pr N cI cR L1 L2 v 4) hD
    refine lv_goto (tgt := 29) hx hb dX10_takeTurn_16 (by decide) ?_
    exact W.vret hx hb hr (fun t ht9 hW => ⟨⟨(wA v 0 362 4), rfl, ⟨(FC.f (FC.rf _) 4 (by decide)), (Or.inr (⟨z4, rfl⟩)), (RS0.w RS0.rf (by decide))⟩, by rw [ht9]; exact hP, hD⟩, hS.F ht9⟩) hS.2.2 dX10_takeTurn_29
set_option maxHeartbeats 4000000 in
set_option maxRecDepth 100000 in
theorem c_x_X10_enter (l : Launch) (dC : Nat → ClassId) (dI : Nat → Nat → Nat) (cI cB cZ cJ cR : ClassId) (tb : Nat → Nat) (sz : Nat) (ad : Nat → Nat) (pr : Int32 → Nat) (N : Nat) (L1 L2 : List Nat) (v : MS) (pa : Int32) (pb : Int32) (ps : Int32) (zNN : (N : Int) ≤ 4096) (hL1 : L1.length = 40) (hL2 : L2.length = 60) (rp : RP v) (hps : pr ps = ad 908) (es355 : (v.1 0 355) = ps) : Met l yX10_enter (Cond.code yX10_enter cX10_enter 4 none :: tw_W) ({ frames := 1, cells := 0, slots := 0, locals := 22 }) (pc_ (dC, dI) (tyS cI cB cZ cJ cR) tb (cW ad pr N cI cR L1 L2 v) sz [.ref (ad 907), .int pa, .int pb]) (qv_ (dC, dI) (cW ad pr N cI cR L1 L2 v) sz (fun (u : MS) => FC [362, 364, 365, 366, 368, 369] [0, 358] v u ∧ (Q_x_X10_enter L1 L2 N v pa pb u) ∧ (RS0 v u)) (fun (u : MS) => (cW ad pr N cI cR L1 L2 u))) 0 0 (va_A (cW ad pr N cI cR L1 L2 v) sz) := by
  refine Met.ofW (cc := cX10_enter) (maxL := 4) (ret := none) (by decide) rfl ?_
  intro p e s m args below meth c s₁ B hml hv
  obtain ⟨rfl, hsz, hP, hKK, hD0, hFx⟩ := hv
  have hK := hKK.1
  have hx := B.exec
  have hb := B.bytes
  have hr := B.returns
  have ht : ∀ w ∈ tw_W, w.before _ s = true := fun w h => atoms_spec (ws := Cond.code yX10_enter cX10_enter 4 none :: tw_W) B.pre w (List.mem_cons_of_mem _ h)
  have hown : s.vm.findClass RX10 = some m.cls := findClass_of_methodNamed B.named
  have hlocks := B.notSynchronized
  subst hsz
  unfold qv_
  have hD := hD0.self (sz := s.heap.size)
  generalize hAe : va_A (cW ad pr N cI cR L1 L2 v) s.heap.size = A at hD hFx ⊢
  have hA : ∀ q : Nat, s.heap.size ≤ q → A q := fun q h => by rw [← hAe]; exact Or.inr h
  have hS : va_S A s.heap s.heap [] := va_S.rf
  have hl := lv_entry ([.ref (ad 907), .int pa, .int pb]) (n := 4) (Nat.le_of_ble_eq_true rfl)
  rw [lg_entry_eq]
  generalize (lg_sl ([.ref (ad 907), .int pa, .int pb]) ++ List.replicate (4 - (lg_sl ([.ref (ad 907), .int pa, .int pb])).length) Slot.unset).toArray = ls at hl ⊢
  have hl : lv_has ls 4 [(0, .ref (ad 907)), (1, .int pa), (2, .int pb)] := hl
  refine lv_aload_n hx hb dX10_enter_0 rfl (lv_at hl 0 rfl) ?_
  refine va_get (D := (dC, dI)) (ci := 13) (fs := oF_X10 ad pr v) (v := .ref (pr (v.1 0 355))) (C := RX10) (T := TX10) (N := 17) hx hb ht itX10 hown hK hP 7 rfl rfl 0 (by decide) (ht _ tw_857) (fun _ h9 => h9) rfl dX10_enter_1 ?_
  refine lv_iload_n hx hb dX10_enter_4 rfl (lv_at hl 1 rfl) ?_
  refine lv_iconst (v := 2) hx hb dX10_enter_5 (by decide) ?_
  refine W.eq (g2 := F0 m 6 ls [.int 2, .int pa, .ref (ad 908)]) (by rw [show pr (v.1 0 355) = (ad 908) from (by rw [show (v.1 0 355) = ps from es355]; exact hps)]) ?_
  refine cu_i (rn_Vk (n := 2) (As := [.int pa, .int 2]) (rest := []) hx hb hml hown ht hKK hFx hP hD hS hA (c_x_X7_functionFact l dC dI cI cB cZ cJ cR tb s.heap.size ad pr N L1 L2 v pa (2 : Int32) (show L1.length = 40 from hL1) (show L2.length = 60 from hL2) (show RP v from rp)) tw_398 tw_858 (by decide +kernel) rfl rfl ⟨Nat.le_of_ble_eq_true rfl, Nat.le_of_ble_eq_true rfl⟩ (List.range (cW ad pr N cI cR L1 L2 v).length) (rg_map _) (nd_range _) 8 rfl rfl rfl rfl hl.1 rfl (Nat.le_of_ble_eq_true rfl) dX10_enter_6 ⟨Nat.le_of_ble_eq_true rfl, Nat.le_of_ble_eq_true rfl⟩) hP hD hS hA (fun r3 u2 H locs hw1 hP hD hS => ?_)
  obtain ⟨rfl, ex1, c1, d1⟩ := hw1
  have c1 : ((2 : Int) ≠ 0 ∨ r3.toInt ≤ 1000) := c1
  refine W.widen (k := 0) (n := 0) (Nat.le_refl _) (Nat.le_refl _) ?_
  refine lv_iconst (v := 2) hx hb dX10_enter_9 (by decide) ?_
  refine lv_ishr hx hb dX10_enter_10 ?_
  refine lv_istore_n (lv' := [(3, .int (r3 >>> ((2 : Int32) &&& 31))), (0, .ref (ad 907)), (1, .int pa), (2, .int pb)]) hx hb dX10_enter_11 rfl hl (by decide) rfl (fun ls hl => ?_)
  refine lv_iconst (v := 4) hx hb dX10_enter_12 (by decide) ?_
  refine lv_aload_n hx hb dX10_enter_13 rfl (lv_at hl 1 rfl) ?_
  refine va_get (D := (dC, dI)) (ci := 13) (fs := oF_X10 ad pr v) (v := .int (v.1 0 366)) (C := RX10) (T := TX10) (N := 17) hx hb ht itX10 hown hK hP 7 rfl rfl 11 (by decide) (ht _ tw_859) (fun _ h9 => h9) rfl dX10_enter_14 ?_
  refine lv_iload_n hx hb dX10_enter_17 rfl (lv_at hl 0 rfl) ?_
  refine lv_iadd hx hb dX10_enter_18 ?_
  refine lv_imul hx hb dX10_enter_19 ?_
  refine lv_bipush (v := 8) hx hb dX10_enter_20 (by decide) ?_
  refine lv_iadd hx hb dX10_enter_22 ?_
  refine lv_aload_n hx hb dX10_enter_23 rfl (lv_at hl 1 rfl) ?_
  refine va_get (D := (dC, dI)) (ci := 13) (fs := oF_X10 ad pr v) (v := .int (v.1 0 357)) (C := RX10) (T := TX10) (N := 17) hx hb ht itX10 hown hK hP 7 rfl rfl 2 (by decide) (ht _ tw_860) (fun _ h9 => h9) rfl dX10_enter_24 ?_
  refine lv_aload_n hx hb dX10_enter_27 rfl (lv_at hl 1 rfl) ?_
  refine va_get (D := (dC, dI)) (ci := 13) (fs := oF_X10 ad pr v) (v := .ref (pr (v.1 0 355))) (C := RX10) (T := TX10) (N := 17) hx hb ht itX10 hown hK hP 7 rfl rfl 0 (by decide) (ht _ tw_857) (fun _ h9 => h9) rfl dX10_enter_28 ?_
  refine W.eq (g2 := F0 m 31 ls [.ref (ad 908), .int (v.1 0 357), .int (((4 : Int32) * ((v.1 0 366) + (r3 >>> ((2 : Int32) &&& 31)))) + (8 : Int32))]) (by rw [show pr (v.1 0 355) = (ad 908) from (by rw [show (v.1 0 355) = ps from es355]; exact hps)]) ?_
  refine va_get (D := (dC, dI)) (ci := 10) (fs := oF_X7 ad pr v) (v := .int (v.1 0 384)) (C := RX7) (T := TX7) (N := 13) hx hb ht itX7 hown hK hP 8 rfl rfl 12 (by decide) (ht _ tw_861) (fun _ h9 => h9) rfl dX10_enter_31 ?_
  refine lv_isub hx hb dX10_enter_34 ?_
  refine lv_icmp_le (tgt := 44) hx hb dX10_enter_35 (by decide) (fun h4 => ?_) (fun h4 => ?_)
  · have z5 : (((4 : Int32) * ((v.1 0 366) + (r3 >>> ((2 : Int32) &&& 31)))) + (8 : Int32)).toInt ≤ ((v.1 0 357) - (v.1 0 384)).toInt := le_z rfl rfl h4
    refine lv_aload_n hx hb dX10_enter_44 rfl (lv_at hl 1 rfl) ?_
    refine cu_v (rn_Vk (n := 0) (As := []) (rest := []) hx hb hml hown ht hKK hFx hP hD hS hA (c_x_X10_takeTurn l dC dI cI cB cZ cJ cR tb H.size ad pr N L1 L2 v  ) tw_862 tw_863 (by decide +kernel) rfl rfl ⟨Nat.le_of_ble_eq_true rfl, Nat.le_of_ble_eq_true rfl⟩ (List.range (cW ad pr N cI cR L1 L2 v).length) (rg_map _) (nd_range _) 7 rfl rfl rfl rfl hl.1 rfl (Nat.le_of_ble_eq_true rfl) dX10_enter_45 ⟨Nat.le_of_ble_eq_true rfl, Nat.le_of_ble_eq_true rfl⟩) hP hD hS hA (fun u7 H locs hw6 hP hD hS => ?_)
    obtain ⟨fr6, ex6, rs6⟩ := hw6
    refine W.widen (k := 0) (n := 0) (Nat.le_refl _) (Nat.le_refl _) ?_
    refine lv_aload_n hx hb dX10_enter_48 rfl (lv_at hl 1 rfl) ?_
    refine va_get (D := (dC, dI)) (ci := 13) (fs := oF_X10 ad pr u7) (v := .int (u7.1 0 362)) (C := RX10) (T := TX10) (N := 17) hx hb ht itX10 hown hK hP 7 rfl rfl 7 (by decide) (ht _ tw_841) (fun _ h9 => h9) rfl dX10_enter_49 ?_
    refine lv_iconst (v := -1) hx hb dX10_enter_52 (by decide) ?_
    refine lv_icmp_eq (tgt := 57) hx hb dX10_enter_53 (by decide) (fun h9 => ?_) (fun h9 => ?_)
    · have z10 : (u7.1 0 362).toInt = (-1 : Int) := eq_z rfl (show ((-1) : Int32).toInt = (-1 : Int) by decide) h9
      refine lv_aload_n hx hb dX10_enter_57 rfl (lv_at hl 1 rfl) ?_
      refine lv_aload_n hx hb dX10_enter_58 rfl (lv_at hl 1 rfl) ?_
      refine va_get (D := (dC, dI)) (ci := 13) (fs := oF_X10 ad pr u7) (v := .int (u7.1 0 366)) (C := RX10) (T := TX10) (N := 17) hx hb ht itX10 hown hK hP 7 rfl rfl 11 (by decide) (ht _ tw_859) (fun _ h9 => h9) rfl dX10_enter_59 ?_
      refine lv_iload_n hx hb dX10_enter_62 rfl (lv_at hl 3 rfl) ?_
      refine cu_v (rn_Vk (n := 2) (As := [.int (u7.1 0 366), .int pb]) (rest := []) hx hb hml hown ht hKK hFx hP hD hS hA (c_x_X10_changeFrameWord l dC dI cI cB cZ cJ cR tb H.size ad pr N L1 L2 u7 (u7.1 0 366) pb (show (N : Int) ≤ 4096 from (om_1c2c49c46c zNN))) tw_854 tw_855 (by decide +kernel) rfl rfl ⟨Nat.le_of_ble_eq_true rfl, Nat.le_of_ble_eq_true rfl⟩ (List.range (cW ad pr N cI cR L1 L2 u7).length) (rg_map _) (nd_range _) 7 rfl rfl rfl rfl hl.1 rfl (Nat.le_of_ble_eq_true rfl) dX10_enter_63 ⟨Nat.le_of_ble_eq_true rfl, Nat.le_of_ble_eq_true rfl⟩) hP hD hS hA (fun u12 H locs hw11 hP hD hS => ?_)
      obtain ⟨fr11, ex11, rs11⟩ := hw11
      have rs11 : RS0 u7 u12 := rs11
      refine W.widen (k := 0) (n := 0) (Nat.le_refl _) (Nat.le_refl _) ?_
      refine lv_aload_n hx hb dX10_enter_66 rfl (lv_at hl 1 rfl) ?_
      refine lv_aload_n hx hb dX10_enter_67 rfl (lv_at hl 1 rfl) ?_
      refine va_get (D := (dC, dI)) (ci := 13) (fs := oF_X10 ad pr u12) (v := .int (u12.1 0 366)) (C := RX10) (T := TX10) (N := 17) hx hb ht itX10 hown hK hP 7 rfl rfl 11 (by decide) (ht _ tw_859) (fun _ h9 => h9) rfl dX10_enter_68 ?_
      refine lv_iconst (v := 1) hx hb dX10_enter_71 (by decide) ?_
      refine lv_iadd hx hb dX10_enter_72 ?_
      refine lv_aload_n hx hb dX10_enter_73 rfl (lv_at hl 1 rfl) ?_
      refine va_get (D := (dC, dI)) (ci := 13) (fs := oF_X10 ad pr u12) (v := .int (u12.1 0 365)) (C := RX10) (T := TX10) (N := 17) hx hb ht itX10 hown hK hP 7 rfl rfl 10 (by decide) (ht _ tw_849) (fun _ h9 => h9) rfl dX10_enter_74 ?_
      refine cu_v (rn_Vk (n := 2) (As := [.int ((u12.1 0 366) + (1 : Int32)), .int (u12.1 0 365)]) (rest := []) hx hb hml hown ht hKK hFx hP hD hS hA (c_x_X10_changeFrameWord l dC dI cI cB cZ cJ cR tb H.size ad pr N L1 L2 u12 ((u12.1 0 366) + (1 : Int32)) (u12.1 0 365) (show (N : Int) ≤ 4096 from (om_1c2c49c46c zNN))) tw_854 tw_855 (by decide +kernel) rfl rfl ⟨Nat.le_of_ble_eq_true rfl, Nat.le_of_ble_eq_true rfl⟩ (List.range (cW ad pr N cI cR L1 L2 u12).length) (rg_map _) (nd_range _) 7 rfl rfl rfl rfl hl.1 rfl (Nat.le_of_ble_eq_true rfl) dX10_enter_77 ⟨Nat.le_of_ble_eq_true rfl, Nat.le_of_ble_eq_true rfl⟩) hP hD hS hA (fun u15 H locs hw14 hP hD hS => ?_)
      obtain ⟨fr14, ex14, rs14⟩ := hw14
      have rs14 : RS0 u12 u15 := rs14
      refine W.widen (k := 0) (n := 0) (Nat.le_refl _) (Nat.le_refl _) ?_
      refine lv_aload_n hx hb dX10_enter_80 rfl (lv_at hl 1 rfl) ?_
      refine lv_aload_n hx hb dX10_enter_81 rfl (lv_at hl 1 rfl) ?_
      refine va_get (D := (dC, dI)) (ci := 13) (fs := oF_X10 ad pr u15) (v := .int (u15.1 0 366)) (C := RX10) (T := TX10) (N := 17) hx hb ht itX10 hown hK hP 7 rfl rfl 11 (by decide) (ht _ tw_859) (fun _ h9 => h9) rfl dX10_enter_82 ?_
      refine va_put (D := (dC, dI)) (ci := 13) (fs := oF_X10 ad pr u15) (v := .int (u15.1 0 366)) (ty := .int) (C := RX10) (T := TX10) (N := 17) hx hb ht itX10 tyX10 tyX10_ok nmX10 hown hK hP hD hS 7 rfl rfl 10 (by decide) (ht _ tw_849) (fun _ h9 => h9) rfl (by decide +kernel) rfl rfl (Nat.le_of_ble_eq_true rfl) dX10_enter_85 (fun H locs hP hD hS => ?_)
      have hP := cP_ (cw_365 ad pr N cI cR L1 L2 u15 (u15.1 0 366)) hP
      have hD := cD_ (cw_365 ad pr N cI cR L1 L2 u15 (u15.1 0 366)) hD
      refine lv_aload_n hx hb dX10_enter_88 rfl (lv_at hl 1 rfl) ?_
      refine lv_dup hx hb dX10_enter_89 rfl ?_
      refine va_get (D := (dC, dI)) (ci := 13) (fs := oF_X10 ad pr (wA u15 0 365 (u15.1 0 366))) (v := .int (u15.1 0 366)) (C := RX10) (T := TX10) (N := 17) hx hb ht itX10 hown hK hP 7 rfl rfl 11 (by decide) (ht _ tw_859) (fun _ h9 => h9) rfl dX10_enter_90 ?_
      refine lv_iload_n hx hb dX10_enter_93 rfl (lv_at hl 0 rfl) ?_
      refine lv_iadd hx hb dX10_enter_94 ?_
      refine va_put (D := (dC, dI)) (ci := 13) (fs := oF_X10 ad pr (wA u15 0 365 (u15.1 0 366))) (v := .int ((u15.1 0 366) + (r3 >>> ((2 : Int32) &&& 31)))) (ty := .int) (C := RX10) (T := TX10) (N := 17) hx hb ht itX10 tyX10 tyX10_ok nmX10 hown hK hP hD hS 7 rfl rfl 11 (by decide) (ht _ tw_859) (fun _ h9 => h9) rfl (by decide +kernel) rfl rfl (Nat.le_of_ble_eq_true rfl) dX10_enter_95 (fun H locs hP hD hS => ?_)
      have hP := cP_ (cw_366 ad pr N cI cR L1 L2 (wA u15 0 365 (u15.1 0 366)) ((u15.1 0 366) + (r3 >>> ((2 : Int32) &&& 31)))) hP
      have hD := cD_ (cw_366 ad pr N cI cR L1 L2 (wA u15 0 365 (u15.1 0 366)) ((u15.1 0 366) + (r3 >>> ((2 : Int32) &&& 31)))) hD
      refine lv_aload_n hx hb dX10_enter_98 rfl (lv_at hl 1 rfl) ?_
      refine lv_aload_n hx hb dX10_enter_99 rfl (lv_at hl 1 rfl) ?_
      refine va_get (D := (dC, dI)) (ci := 13) (fs := oF_X10 ad pr (wA (wA u15 0 365 (u15.1 0 366)) 0 366 ((u15.1 0 366) + (r3 >>> ((2 : Int32) &&& 31))))) (v := .int (u15.1 0 369)) (C := RX10) (T := TX10) (N := 17) hx hb ht itX10 hown hK hP 7 rfl rfl 14 (by decide) (ht _ tw_844) (fun _ h9 => h9) rfl dX10_enter_100 ?_
      refine lv_iconst (v := 4) hx hb dX10_enter_103 (by decide) ?_
      refine lv_aload_n hx hb dX10_enter_104 rfl (lv_at hl 1 rfl) ?_
      refine va_get (D := (dC, dI)) (ci := 13) (fs := oF_X10 ad pr (wA (wA u15 0 365 (u15.1 0 366)) 0 366 ((u15.1 0 366) + (r3 >>> ((2 : Int32) &&& 31))))) (v := .int ((u15.1 0 366) + (r3 >>> ((2 : Int32) &&& 31)))) (C := RX10) (T := TX10) (N := 17) hx hb ht itX10 hown hK hP 7 rfl rfl 11 (by decide) (ht _ tw_859) (fun _ h9 => h9) rfl dX10_enter_105 ?_
      refine lv_imul hx hb dX10_enter_108 ?_
      refine va_mmax hx hb (by rw [hml]; exact hl.1.symm) hown (ht _ tw_864) (ht _ tw_484) (ht _ tw_474) (ht _ tw_485) (Nat.le_of_ble_eq_true rfl) (Nat.le_of_ble_eq_true rfl) (Nat.le_of_ble_eq_true rfl) (Nat.le_of_ble_eq_true rfl) dX10_enter_109 ?_
      obtain ⟨g17, hg18⟩ : ∃ z : Int32, z = (if (u15.1 0 369) < ((4 : Int32) * ((u15.1 0 366) + (r3 >>> ((2 : Int32) &&& 31)))) then ((4 : Int32) * ((u15.1 0 366) + (r3 >>> ((2 : Int32) &&& 31)))) else (u15.1 0 369)) := ⟨_, rfl⟩
      refine tp_i (y := g17) hg18.symm ?_
      have z19 : ((u15.1 0 369).toInt ≤ g17.toInt ∧ ((4 : Int32) * ((u15.1 0 366) + (r3 >>> ((2 : Int32) &&& 31)))).toInt ≤ g17.toInt) ∧ (g17.toInt = (u15.1 0 369).toInt ∨ g17.toInt = ((4 : Int32) * ((u15.1 0 366) + (r3 >>> ((2 : Int32) &&& 31)))).toInt) := mmax_f hg18
      refine va_put (D := (dC, dI)) (ci := 13) (fs := oF_X10 ad pr (wA (wA u15 0 365 (u15.1 0 366)) 0 366 ((u15.1 0 366) + (r3 >>> ((2 : Int32) &&& 31))))) (v := .int g17) (ty := .int) (C := RX10) (T := TX10) (N := 17) hx hb ht itX10 tyX10 tyX10_ok nmX10 hown hK hP hD hS 7 rfl rfl 14 (by decide) (ht _ tw_844) (fun _ h9 => h9) rfl (by decide +kernel) rfl rfl (Nat.le_of_ble_eq_true rfl) dX10_enter_112 (fun H locs hP hD hS => ?_)
      have hP := cP_ (cw_369 ad pr N cI cR L1 L2 (wA (wA u15 0 365 (u15.1 0 366)) 0 366 ((u15.1 0 366) + (r3 >>> ((2 : Int32) &&& 31)))) g17) hP
      have hD := cD_ (cw_369 ad pr N cI cR L1 L2 (wA (wA u15 0 365 (u15.1 0 366)) 0 366 ((u15.1 0 366) + (r3 >>> ((2 : Int32) &&& 31)))) g17) hD
      refine lv_aload_n hx hb dX10_enter_115 rfl (lv_at hl 1 rfl) ?_
      refine lv_aload_n hx hb dX10_enter_116 rfl (lv_at hl 1 rfl) ?_
      refine va_get (D := (dC, dI)) (ci := 13) (fs := oF_X10 ad pr (wA (wA (wA u15 0 365 (u15.1 0 366)) 0 366 ((u15.1 0 366) + (r3 >>> ((2 : Int32) &&& 31)))) 0 369 g17)) (v := .ref (pr (u15.1 0 355))) (C := RX10) (T := TX10) (N := 17) hx hb ht itX10 hown hK hP 7 rfl rfl 0 (by decide) (ht _ tw_857) (fun _ h9 => h9) rfl dX10_enter_117 ?_
      refine lv_iload_n hx hb dX10_enter_120 rfl (lv_at hl 2 rfl) ?_
      refine lv_iconst (v := 5) hx hb dX10_enter_121 (by decide) ?_
      refine W.eq (g2 := F0 m 122 ls [.int 5, .int pa, .ref (ad 908), .ref (ad 907)]) (by rw [show pr (u15.1 0 355) = (ad 908) from (by rw [show (u15.1 0 355) = ps from (Eq.trans (fr14.2.1 355 (by decide)) (Eq.trans (fr11.2.1 355 (by decide)) (Eq.trans (fr6.2.1 355 (by decide)) es355)))]; exact hps)]) ?_
      refine cu_i (rn_Vk (n := 2) (As := [.int pa, .int 5]) (rest := [.ref (ad 907)]) hx hb hml hown ht hKK hFx hP hD hS hA (c_x_X7_functionFact l dC dI cI cB cZ cJ cR tb H.size ad pr N L1 L2 (wA (wA (wA u15 0 365 (u15.1 0 366)) 0 366 ((u15.1 0 366) + (r3 >>> ((2 : Int32) &&& 31)))) 0 369 g17) pa (5 : Int32) (show L1.length = 40 from hL1) (show L2.length = 60 from hL2) (show RP (wA (wA (wA u15 0 365 (u15.1 0 366)) 0 366 ((u15.1 0 366) + (r3 >>> ((2 : Int32) &&& 31)))) 0 369 g17) from ((show FC [362, 364, 365, 366, 368, 369] [0, 358] v (wA (wA (wA u15 0 365 (u15.1 0 366)) 0 366 ((u15.1 0 366) + (r3 >>> ((2 : Int32) &&& 31)))) 0 369 g17) from (FC.f (FC.f (FC.f (FC.tr (FC.tr (FC.tr (FC.rf _) (FC.up fr6 (by decide) (by decide))) (FC.up fr11 (by decide) (by decide))) (FC.up fr14 (by decide) (by decide))) (u15.1 0 366) (by decide)) ((u15.1 0 366) + (r3 >>> ((2 : Int32) &&& 31))) (by decide)) g17 (by decide))).1 rp))) tw_398 tw_858 (by decide +kernel) rfl rfl ⟨Nat.le_of_ble_eq_true rfl, Nat.le_of_ble_eq_true rfl⟩ (List.range (cW ad pr N cI cR L1 L2 (wA (wA (wA u15 0 365 (u15.1 0 366)) 0 366 ((u15.1 0 366) + (r3 >>> ((2 : Int32) &&& 31)))) 0 369 g17)).length) (rg_map _) (nd_range _) 8 rfl rfl rfl rfl hl.1 rfl (Nat.le_of_ble_eq_true rfl) dX10_enter_122 ⟨Nat.le_of_ble_eq_true rfl, Nat.le_of_ble_eq_true rfl⟩) hP hD hS hA (fun r22 u21 H locs hw20 hP hD hS => ?_)
      obtain ⟨rfl, ex20, c20, d20⟩ := hw20
      have c20 : ((5 : Int) ≠ 0 ∨ r22.toInt ≤ 1000) := c20
      have d20 : (r22.toInt ≤ 2147483647) := d20
      refine W.widen (k := 0) (n := 0) (Nat.le_refl _) (Nat.le_refl _) ?_
      refine va_put (D := (dC, dI)) (ci := 13) (fs := oF_X10 ad pr (wA (wA (wA u15 0 365 (u15.1 0 366)) 0 366 ((u15.1 0 366) + (r3 >>> ((2 : Int32) &&& 31)))) 0 369 g17)) (v := .int r22) (ty := .int) (C := RX10) (T := TX10) (N := 17) hx hb ht itX10 tyX10 tyX10_ok nmX10 hown hK hP hD hS 7 rfl rfl 9 (by decide) (ht _ tw_865) (fun _ h9 => h9) rfl (by decide +kernel) rfl rfl (Nat.le_of_ble_eq_true rfl) dX10_enter_125 (fun H locs hP hD hS => ?_)
      have hP := cP_ (cw_364 ad pr N cI cR L1 L2 (wA (wA (wA u15 0 365 (u15.1 0 366)) 0 366 ((u15.1 0 366) + (r3 >>> ((2 : Int32) &&& 31)))) 0 369 g17) r22) hP
      have hD := cD_ (cw_364 ad pr N cI cR L1 L2 (wA (wA (wA u15 0 365 (u15.1 0 366)) 0 366 ((u15.1 0 366) + (r3 >>> ((2 : Int32) &&& 31)))) 0 369 g17) r22) hD
      exact W.vret hx hb hr (fun t ht9 hW => ⟨⟨(wA (wA (wA (wA u15 0 365 (u15.1 0 366)) 0 366 ((u15.1 0 366) + (r3 >>> ((2 : Int32) &&& 31)))) 0 369 g17) 0 364 r22), rfl, ⟨(FC.f (FC.f (FC.f (FC.f (FC.tr (FC.tr (FC.tr (FC.rf _) (FC.up fr6 (by decide) (by decide))) (FC.up fr11 (by decide) (by decide))) (FC.up fr14 (by decide) (by decide))) (u15.1 0 366) (by decide)) ((u15.1 0 366) + (r3 >>> ((2 : Int32) &&& 31))) (by decide)) g17 (by decide)) r22 (by decide)), ⟨r3, ex1, ⟨c1, d1⟩, (Or.inl ⟨z5, u7, ex6, ⟨fr6, rs6⟩, (Or.inl ⟨z10, u12, ex11, ⟨fr11, rs11⟩, u15, ex14, ⟨fr14, rs14⟩, g17, hg18, r22, ex20, ⟨c20, d20⟩, rfl⟩)⟩)⟩, (RS0.w (RS0.w (RS0.w (RS0.w (RS0.tr (RS0.tr (RS0.tr RS0.rf rs6) rs11) rs14) (by decide)) (by decide)) (by decide)) (by decide))⟩, by rw [ht9]; exact hP, hD⟩, hS.F ht9⟩) hS.2.2 dX10_enter_128
    · have z23 : (u7.1 0 362).toInt ≠ (-1 : Int) := ne_z rfl (show ((-1) : Int32).toInt = (-1 : Int) by decide) h9
      exact W.vret hx hb hr (fun t ht9 hW => ⟨⟨u7, rfl, ⟨(FC.tr (FC.rf _) (FC.up fr6 (by decide) (by decide))), ⟨r3, ex1, ⟨c1, d1⟩, (Or.inl ⟨z5, u7, ex6, ⟨fr6, rs6⟩, (Or.inr (⟨z23, rfl⟩))⟩)⟩, (RS0.tr RS0.rf rs6)⟩, by rw [ht9]; exact hP, hD⟩, hS.F ht9⟩) hS.2.2 dX10_enter_56
  · have z24 : ((v.1 0 357) - (v.1 0 384)).toInt < (((4 : Int32) * ((v.1 0 366) + (r3 >>> ((2 : Int32) &&& 31)))) + (8 : Int32)).toInt := nle_z rfl rfl h4
    refine lv_aload_n hx hb dX10_enter_38 rfl (lv_at hl 1 rfl) ?_
    refine lv_iconst (v := 1) hx hb dX10_enter_39 (by decide) ?_
    refine va_put (D := (dC, dI)) (ci := 13) (fs := oF_X10 ad pr v) (v := .int 1) (ty := .int) (C := RX10) (T := TX10) (N := 17) hx hb ht itX10 tyX10 tyX10_ok nmX10 hown hK hP hD hS 7 rfl rfl 7 (by decide) (ht _ tw_841) (fun _ h9 => h9) rfl (by decide +kernel) rfl rfl (Nat.le_of_ble_eq_true rfl) dX10_enter_40 (fun H locs hP hD hS => ?_)
    have hP := cP_ (cw_362 ad pr N cI cR L1 L2 v 1) hP
    have hD := cD_ (cw_362 ad pr N cI cR L1 L2 v 1) hD
    exact W.vret hx hb hr (fun t ht9 hW => ⟨⟨(wA v 0 362 1), rfl, ⟨(FC.f (FC.rf _) 1 (by decide)), ⟨r3, ex1, ⟨c1, d1⟩, (Or.inr (⟨z24, rfl⟩))⟩, (RS0.w RS0.rf (by decide))⟩, by rw [ht9]; exact hP, hD⟩, hS.F ht9⟩) hS.2.2 dX10_enter_43
set_option maxHeartbeats 4000000 in
set_option maxRecDepth 100000 in
theorem c_x_X10_begin (l : Launch) (dC : Nat → ClassId) (dI : Nat → Nat → Nat) (cI cB cZ cJ cR : ClassId) (tb : Nat → Nat) (sz : Nat) (ad : Nat → Nat) (pr : Int32 → Nat) (N : Nat) (L1 L2 : List Nat) (v : MS) (pa : Int32) (ps : Int32) (zNN : (N : Int) ≤ 4096) (hps : pr ps = ad 908) : Met l yX10_begin (Cond.code yX10_begin cX10_begin 3 none :: tw_W) ({ frames := 1, cells := 0, slots := 0, locals := 23 }) (pc_ (dC, dI) (tyS cI cB cZ cJ cR) tb (cW ad pr N cI cR L1 L2 v) sz [.ref (ad 907), .ref (pr ps), .int pa]) (qv_ (dC, dI) (cW ad pr N cI cR L1 L2 v) sz (fun (u : MS) => FC [355, 361, 362, 363, 365, 366, 367, 368, 369, 370, 371] [0, 359] v u ∧ (Q_x_X10_begin L1 L2 N v pa ps u) ∧ ((u.1 0 370).toInt = 0) ∧ (u.1 0 355 = ps) ∧ (RS0 v u)) (fun (u : MS) => (cW ad pr N cI cR L1 L2 u))) 0 0 (va_A (cW ad pr N cI cR L1 L2 v) sz) := by
  refine Met.ofW (cc := cX10_begin) (maxL := 3) (ret := none) (by decide) rfl ?_
  intro p e s m args below meth c s₁ B hml hv
  obtain ⟨rfl, hsz, hP, hKK, hD0, hFx⟩ := hv
  have hK := hKK.1
  have hx := B.exec
  have hb := B.bytes
  have hr := B.returns
  have ht : ∀ w ∈ tw_W, w.before _ s = true := fun w h => atoms_spec (ws := Cond.code yX10_begin cX10_begin 3 none :: tw_W) B.pre w (List.mem_cons_of_mem _ h)
  have hown : s.vm.findClass RX10 = some m.cls := findClass_of_methodNamed B.named
  have hlocks := B.notSynchronized
  subst hsz
  unfold qv_
  have hD := hD0.self (sz := s.heap.size)
  generalize hAe : va_A (cW ad pr N cI cR L1 L2 v) s.heap.size = A at hD hFx ⊢
  have hA : ∀ q : Nat, s.heap.size ≤ q → A q := fun q h => by rw [← hAe]; exact Or.inr h
  have hS : va_S A s.heap s.heap [] := va_S.rf
  have hl := lv_entry ([.ref (ad 907), .ref (pr ps), .int pa]) (n := 3) (Nat.le_of_ble_eq_true rfl)
  rw [lg_entry_eq]
  generalize (lg_sl ([.ref (ad 907), .ref (pr ps), .int pa]) ++ List.replicate (3 - (lg_sl ([.ref (ad 907), .ref (pr ps), .int pa])).length) Slot.unset).toArray = ls at hl ⊢
  have hl : lv_has ls 3 [(0, .ref (ad 907)), (1, .ref (pr ps)), (2, .int pa)] := hl
  refine lv_aload_n hx hb dX10_begin_0 rfl (lv_at hl 0 rfl) ?_
  refine lv_aload_n hx hb dX10_begin_1 rfl (lv_at hl 1 rfl) ?_
  refine va_put (D := (dC, dI)) (ci := 13) (fs := oF_X10 ad pr v) (v := .ref (pr ps)) (ty := .object "PocketCompiler$Program") (C := RX10) (T := TX10) (N := 17) hx hb ht itX10 tyX10 tyX10_ok nmX10 hown hK hP hD hS 7 rfl rfl 0 (by decide) (ht _ tw_857) (fun _ h9 => h9) rfl (by decide +kernel) rfl rfl (Nat.le_of_ble_eq_true rfl) dX10_begin_2 (fun H locs hP hD hS => ?_)
  have hP := cP_ (cw_355 ad pr N cI cR L1 L2 v ps) hP
  have hD := cD_ (cw_355 ad pr N cI cR L1 L2 v ps) hD
  refine lv_aload_n hx hb dX10_begin_5 rfl (lv_at hl 0 rfl) ?_
  refine lv_iconst (v := 1) hx hb dX10_begin_6 (by decide) ?_
  refine va_put (D := (dC, dI)) (ci := 13) (fs := oF_X10 ad pr (wA v 0 355 ps)) (v := .int 1) (ty := .boolean) (C := RX10) (T := TX10) (N := 17) hx hb ht itX10 tyX10 tyX10_ok nmX10 hown hK hP hD hS 7 rfl rfl 6 (by decide) (ht _ tw_840) (fun _ h9 => h9) rfl (by decide +kernel) rfl rfl (Nat.le_of_ble_eq_true rfl) dX10_begin_7 (fun H locs hP hD hS => ?_)
  have hP := cP_ (cw_361 ad pr N cI cR L1 L2 (wA v 0 355 ps) 1) hP
  have hD := cD_ (cw_361 ad pr N cI cR L1 L2 (wA v 0 355 ps) 1) hD
  refine lv_aload_n hx hb dX10_begin_10 rfl (lv_at hl 0 rfl) ?_
  refine lv_iconst (v := -1) hx hb dX10_begin_11 (by decide) ?_
  refine va_put (D := (dC, dI)) (ci := 13) (fs := oF_X10 ad pr (wA (wA v 0 355 ps) 0 361 1)) (v := .int (-1)) (ty := .int) (C := RX10) (T := TX10) (N := 17) hx hb ht itX10 tyX10 tyX10_ok nmX10 hown hK hP hD hS 7 rfl rfl 7 (by decide) (ht _ tw_841) (fun _ h9 => h9) rfl (by decide +kernel) rfl rfl (Nat.le_of_ble_eq_true rfl) dX10_begin_12 (fun H locs hP hD hS => ?_)
  have hP := cP_ (cw_362 ad pr N cI cR L1 L2 (wA (wA v 0 355 ps) 0 361 1) (-1)) hP
  have hD := cD_ (cw_362 ad pr N cI cR L1 L2 (wA (wA v 0 355 ps) 0 361 1) (-1)) hD
  refine lv_aload_n hx hb dX10_begin_15 rfl (lv_at hl 0 rfl) ?_
  refine lv_iconst (v := 0) hx hb dX10_begin_16 (by decide) ?_
  refine va_put (D := (dC, dI)) (ci := 13) (fs := oF_X10 ad pr (wA (wA (wA v 0 355 ps) 0 361 1) 0 362 (-1))) (v := .int 0) (ty := .int) (C := RX10) (T := TX10) (N := 17) hx hb ht itX10 tyX10 tyX10_ok nmX10 hown hK hP hD hS 7 rfl rfl 8 (by decide) (ht _ tw_842) (fun _ h9 => h9) rfl (by decide +kernel) rfl rfl (Nat.le_of_ble_eq_true rfl) dX10_begin_17 (fun H locs hP hD hS => ?_)
  have hP := cP_ (cw_363 ad pr N cI cR L1 L2 (wA (wA (wA v 0 355 ps) 0 361 1) 0 362 (-1)) 0) hP
  have hD := cD_ (cw_363 ad pr N cI cR L1 L2 (wA (wA (wA v 0 355 ps) 0 361 1) 0 362 (-1)) 0) hD
  refine lv_aload_n hx hb dX10_begin_20 rfl (lv_at hl 0 rfl) ?_
  refine lv_iconst (v := 0) hx hb dX10_begin_21 (by decide) ?_
  refine va_put (D := (dC, dI)) (ci := 13) (fs := oF_X10 ad pr (wA (wA (wA (wA v 0 355 ps) 0 361 1) 0 362 (-1)) 0 363 0)) (v := .int 0) (ty := .int) (C := RX10) (T := TX10) (N := 17) hx hb ht itX10 tyX10 tyX10_ok nmX10 hown hK hP hD hS 7 rfl rfl 10 (by decide) (ht _ tw_849) (fun _ h9 => h9) rfl (by decide +kernel) rfl rfl (Nat.le_of_ble_eq_true rfl) dX10_begin_22 (fun H locs hP hD hS => ?_)
  have hP := cP_ (cw_365 ad pr N cI cR L1 L2 (wA (wA (wA (wA v 0 355 ps) 0 361 1) 0 362 (-1)) 0 363 0) 0) hP
  have hD := cD_ (cw_365 ad pr N cI cR L1 L2 (wA (wA (wA (wA v 0 355 ps) 0 361 1) 0 362 (-1)) 0 363 0) 0) hD
  refine lv_aload_n hx hb dX10_begin_25 rfl (lv_at hl 0 rfl) ?_
  refine lv_iconst (v := 0) hx hb dX10_begin_26 (by decide) ?_
  refine va_put (D := (dC, dI)) (ci := 13) (fs := oF_X10 ad pr (wA (wA (wA (wA (wA v 0 355 ps) 0 361 1) 0 362 (-1)) 0 363 0) 0 365 0)) (v := .int 0) (ty := .int) (C := RX10) (T := TX10) (N := 17) hx hb ht itX10 tyX10 tyX10_ok nmX10 hown hK hP hD hS 7 rfl rfl 11 (by decide) (ht _ tw_859) (fun _ h9 => h9) rfl (by decide +kernel) rfl rfl (Nat.le_of_ble_eq_true rfl) dX10_begin_27 (fun H locs hP hD hS => ?_)
  have hP := cP_ (cw_366 ad pr N cI cR L1 L2 (wA (wA (wA (wA (wA v 0 355 ps) 0 361 1) 0 362 (-1)) 0 363 0) 0 365 0) 0) hP
  have hD := cD_ (cw_366 ad pr N cI cR L1 L2 (wA (wA (wA (wA (wA v 0 355 ps) 0 361 1) 0 362 (-1)) 0 363 0) 0 365 0) 0) hD
  refine lv_aload_n hx hb dX10_begin_30 rfl (lv_at hl 0 rfl) ?_
  refine lv_iload_n hx hb dX10_begin_31 rfl (lv_at hl 2 rfl) ?_
  refine va_put (D := (dC, dI)) (ci := 13) (fs := oF_X10 ad pr (wA (wA (wA (wA (wA (wA v 0 355 ps) 0 361 1) 0 362 (-1)) 0 363 0) 0 365 0) 0 366 0)) (v := .int pa) (ty := .int) (C := RX10) (T := TX10) (N := 17) hx hb ht itX10 tyX10 tyX10_ok nmX10 hown hK hP hD hS 7 rfl rfl 12 (by decide) (ht _ tw_856) (fun _ h9 => h9) rfl (by decide +kernel) rfl rfl (Nat.le_of_ble_eq_true rfl) dX10_begin_32 (fun H locs hP hD hS => ?_)
  have hP := cP_ (cw_367 ad pr N cI cR L1 L2 (wA (wA (wA (wA (wA (wA v 0 355 ps) 0 361 1) 0 362 (-1)) 0 363 0) 0 365 0) 0 366 0) pa) hP
  have hD := cD_ (cw_367 ad pr N cI cR L1 L2 (wA (wA (wA (wA (wA (wA v 0 355 ps) 0 361 1) 0 362 (-1)) 0 363 0) 0 365 0) 0 366 0) pa) hD
  refine lv_aload_n hx hb dX10_begin_35 rfl (lv_at hl 0 rfl) ?_
  refine lv_iconst (v := 0) hx hb dX10_begin_36 (by decide) ?_
  refine va_put (D := (dC, dI)) (ci := 13) (fs := oF_X10 ad pr (wA (wA (wA (wA (wA (wA (wA v 0 355 ps) 0 361 1) 0 362 (-1)) 0 363 0) 0 365 0) 0 366 0) 0 367 pa)) (v := .int 0) (ty := .int) (C := RX10) (T := TX10) (N := 17) hx hb ht itX10 tyX10 tyX10_ok nmX10 hown hK hP hD hS 7 rfl rfl 13 (by decide) (ht _ tw_843) (fun _ h9 => h9) rfl (by decide +kernel) rfl rfl (Nat.le_of_ble_eq_true rfl) dX10_begin_37 (fun H locs hP hD hS => ?_)
  have hP := cP_ (cw_368 ad pr N cI cR L1 L2 (wA (wA (wA (wA (wA (wA (wA v 0 355 ps) 0 361 1) 0 362 (-1)) 0 363 0) 0 365 0) 0 366 0) 0 367 pa) 0) hP
  have hD := cD_ (cw_368 ad pr N cI cR L1 L2 (wA (wA (wA (wA (wA (wA (wA v 0 355 ps) 0 361 1) 0 362 (-1)) 0 363 0) 0 365 0) 0 366 0) 0 367 pa) 0) hD
  refine lv_aload_n hx hb dX10_begin_40 rfl (lv_at hl 0 rfl) ?_
  refine lv_iconst (v := 0) hx hb dX10_begin_41 (by decide) ?_
  refine va_put (D := (dC, dI)) (ci := 13) (fs := oF_X10 ad pr (wA (wA (wA (wA (wA (wA (wA (wA v 0 355 ps) 0 361 1) 0 362 (-1)) 0 363 0) 0 365 0) 0 366 0) 0 367 pa) 0 368 0)) (v := .int 0) (ty := .int) (C := RX10) (T := TX10) (N := 17) hx hb ht itX10 tyX10 tyX10_ok nmX10 hown hK hP hD hS 7 rfl rfl 14 (by decide) (ht _ tw_844) (fun _ h9 => h9) rfl (by decide +kernel) rfl rfl (Nat.le_of_ble_eq_true rfl) dX10_begin_42 (fun H locs hP hD hS => ?_)
  have hP := cP_ (cw_369 ad pr N cI cR L1 L2 (wA (wA (wA (wA (wA (wA (wA (wA v 0 355 ps) 0 361 1) 0 362 (-1)) 0 363 0) 0 365 0) 0 366 0) 0 367 pa) 0 368 0) 0) hP
  have hD := cD_ (cw_369 ad pr N cI cR L1 L2 (wA (wA (wA (wA (wA (wA (wA (wA v 0 355 ps) 0 361 1) 0 362 (-1)) 0 363 0) 0 365 0) 0 366 0) 0 367 pa) 0 368 0) 0) hD
  refine lv_aload_n hx hb dX10_begin_45 rfl (lv_at hl 0 rfl) ?_
  refine lv_iconst (v := 0) hx hb dX10_begin_46 (by decide) ?_
  refine va_put (D := (dC, dI)) (ci := 13) (fs := oF_X10 ad pr (wA (wA (wA (wA (wA (wA (wA (wA (wA v 0 355 ps) 0 361 1) 0 362 (-1)) 0 363 0) 0 365 0) 0 366 0) 0 367 pa) 0 368 0) 0 369 0)) (v := .int 0) (ty := .int) (C := RX10) (T := TX10) (N := 17) hx hb ht itX10 tyX10 tyX10_ok nmX10 hown hK hP hD hS 7 rfl rfl 15 (by decide) (ht _ tw_845) (fun _ h9 => h9) rfl (by decide +kernel) rfl rfl (Nat.le_of_ble_eq_true rfl) dX10_begin_47 (fun H locs hP hD hS => ?_)
  have hP := cP_ (cw_370 ad pr N cI cR L1 L2 (wA (wA (wA (wA (wA (wA (wA (wA (wA v 0 355 ps) 0 361 1) 0 362 (-1)) 0 363 0) 0 365 0) 0 366 0) 0 367 pa) 0 368 0) 0 369 0) 0) hP
  have hD := cD_ (cw_370 ad pr N cI cR L1 L2 (wA (wA (wA (wA (wA (wA (wA (wA (wA v 0 355 ps) 0 361 1) 0 362 (-1)) 0 363 0) 0 365 0) 0 366 0) 0 367 pa) 0 368 0) 0 369 0) 0) hD
  refine lv_aload_n hx hb dX10_begin_50 rfl (lv_at hl 0 rfl) ?_
  refine lv_iconst (v := 0) hx hb dX10_begin_51 (by decide) ?_
  refine va_put (D := (dC, dI)) (ci := 13) (fs := oF_X10 ad pr (wA (wA (wA (wA (wA (wA (wA (wA (wA (wA v 0 355 ps) 0 361 1) 0 362 (-1)) 0 363 0) 0 365 0) 0 366 0) 0 367 pa) 0 368 0) 0 369 0) 0 370 0)) (v := .int 0) (ty := .int) (C := RX10) (T := TX10) (N := 17) hx hb ht itX10 tyX10 tyX10_ok nmX10 hown hK hP hD hS 7 rfl rfl 16 (by decide) (ht _ tw_846) (fun _ h9 => h9) rfl (by decide +kernel) rfl rfl (Nat.le_of_ble_eq_true rfl) dX10_begin_52 (fun H locs hP hD hS => ?_)
  have hP := cP_ (cw_371 ad pr N cI cR L1 L2 (wA (wA (wA (wA (wA (wA (wA (wA (wA (wA v 0 355 ps) 0 361 1) 0 362 (-1)) 0 363 0) 0 365 0) 0 366 0) 0 367 pa) 0 368 0) 0 369 0) 0 370 0) 0) hP
  have hD := cD_ (cw_371 ad pr N cI cR L1 L2 (wA (wA (wA (wA (wA (wA (wA (wA (wA (wA v 0 355 ps) 0 361 1) 0 362 (-1)) 0 363 0) 0 365 0) 0 366 0) 0 367 pa) 0 368 0) 0 369 0) 0 370 0) 0) hD
  refine lv_aload_n hx hb dX10_begin_55 rfl (lv_at hl 0 rfl) ?_
  refine va_get (D := (dC, dI)) (ci := 13) (fs := oF_X10 ad pr (wA (wA (wA (wA (wA (wA (wA (wA (wA (wA (wA v 0 355 ps) 0 361 1) 0 362 (-1)) 0 363 0) 0 365 0) 0 366 0) 0 367 pa) 0 368 0) 0 369 0) 0 370 0) 0 371 0)) (v := .ref (ad 359)) (C := RX10) (T := TX10) (N := 17) hx hb ht itX10 hown hK hP 7 rfl rfl 4 (by decide) (ht _ tw_847) (fun _ h9 => h9) rfl dX10_begin_56 ?_
  refine lv_iconst (v := 0) hx hb dX10_begin_59 (by decide) ?_
  refine cu_v (rn_S (n := 2) (As := [.ref (ad 359), .int 0]) (rest := []) hx hb hml hown ht hKK hFx hP hD hS hA (c_x_fill359 l dC dI cI cB cZ cJ cR tb H.size ad pr N L1 L2 (wA (wA (wA (wA (wA (wA (wA (wA (wA (wA (wA v 0 355 ps) 0 361 1) 0 362 (-1)) 0 363 0) 0 365 0) 0 366 0) 0 367 pa) 0 368 0) 0 369 0) 0 370 0) 0 371 0) (0 : Int32) (show (N : Int) ≤ 4096 from (om_1c2c49c46c zNN))) tw_831 tw_866 (by decide +kernel) rfl rfl ⟨Nat.le_of_ble_eq_true rfl, Nat.le_of_ble_eq_true rfl⟩ (List.range (cW ad pr N cI cR L1 L2 (wA (wA (wA (wA (wA (wA (wA (wA (wA (wA (wA v 0 355 ps) 0 361 1) 0 362 (-1)) 0 363 0) 0 365 0) 0 366 0) 0 367 pa) 0 368 0) 0 369 0) 0 370 0) 0 371 0)).length) (rg_map _) (nd_range _) rfl hl.1 rfl (Nat.le_of_ble_eq_true rfl) dX10_begin_60 ⟨Nat.le_of_ble_eq_true rfl, Nat.le_of_ble_eq_true rfl⟩) hP hD hS hA (fun u2 H locs hw1 hP hD hS => ?_)
  obtain ⟨fr1, ex1, rs1⟩ := hw1
  have rs1 : RS0 (wA (wA (wA (wA (wA (wA (wA (wA (wA (wA (wA v 0 355 ps) 0 361 1) 0 362 (-1)) 0 363 0) 0 365 0) 0 366 0) 0 367 pa) 0 368 0) 0 369 0) 0 370 0) 0 371 0) u2 := rs1
  refine W.widen (k := 0) (n := 0) (Nat.le_refl _) (Nat.le_refl _) ?_
  have q4 : (u2.1 0 370).toInt = (0 : Int) := congrArg Int32.toInt ((fr1.2.1 370 (by decide)).trans (show (wA (wA (wA (wA (wA (wA (wA (wA (wA (wA (wA v 0 355 ps) 0 361 1) 0 362 (-1)) 0 363 0) 0 365 0) 0 366 0) 0 367 pa) 0 368 0) 0 369 0) 0 370 0) 0 371 0).1 0 370 = (0 : Int32) by rfl))
  exact W.vret hx hb hr (fun t ht9 hW => ⟨⟨u2, rfl, ⟨(FC.tr (FC.f (FC.f (FC.f (FC.f (FC.f (FC.f (FC.f (FC.f (FC.f (FC.f (FC.f (FC.rf _) ps (by decide)) 1 (by decide)) (-1) (by decide)) 0 (by decide)) 0 (by decide)) 0 (by decide)) pa (by decide)) 0 (by decide)) 0 (by decide)) 0 (by decide)) 0 (by decide)) (FC.up fr1 (by decide) (by decide))), ⟨u2, ex1, ⟨fr1, rs1⟩, rfl⟩, (show (u2.1 0 370).toInt = 0 from (om_770ca75dd5 q4)), (fr1.2.1 355 (by decide)), (RS0.tr (show RS0 v (wA (wA (wA (wA (wA (wA (wA (wA (wA (wA (wA v 0 355 ps) 0 361 1) 0 362 (-1)) 0 363 0) 0 365 0) 0 366 0) 0 367 pa) 0 368 0) 0 369 0) 0 370 0) 0 371 0) from (RS0.w (RS0.w (RS0.w (RS0.w (RS0.w (RS0.w (RS0.w (RS0.w (RS0.w (RS0.w (RS0.w RS0.rf (by decide)) (by decide)) (by decide)) (by decide)) (by decide)) (by decide)) (by decide)) (by decide)) (by decide)) (by decide)) (by decide))) rs1)⟩, by rw [ht9]; exact hP, hD⟩, hS.F ht9⟩) hS.2.2 dX10_begin_63
set_option maxHeartbeats 4000000 in
set_option maxRecDepth 100000 in
theorem c_x_X10_callFunction (l : Launch) (dC : Nat → ClassId) (dI : Nat → Nat → Nat) (cI cB cZ cJ cR : ClassId) (tb : Nat → Nat) (sz : Nat) (ad : Nat → Nat) (pr : Int32 → Nat) (N : Nat) (L1 L2 : List Nat) (v : MS) (pa : Int32) (pb : Int32) (ps : Int32) (zNN : (N : Int) ≤ 4096) (hL1 : L1.length = 40) (hL2 : L2.length = 60) (rp : RP v) (hps : pr ps = ad 908) (es355 : (v.1 0 355) = ps) : Met l yX10_callFunction (Cond.code yX10_callFunction cX10_callFunction 5 none :: tw_W) ({ frames := 2, cells := 0, slots := 0, locals := 45 }) (pc_ (dC, dI) (tyS cI cB cZ cJ cR) tb (cW ad pr N cI cR L1 L2 v) sz [.ref (ad 907), .int pa, .int pb]) (qv_ (dC, dI) (cW ad pr N cI cR L1 L2 v) sz (fun (u : MS) => FC [362, 364, 365, 366, 368, 369] [0, 358] v u ∧ (Q_x_X10_callFunction L1 L2 N v pa pb u) ∧ (RS0 v u)) (fun (u : MS) => (cW ad pr N cI cR L1 L2 u))) 0 0 (va_A (cW ad pr N cI cR L1 L2 v) sz) := by
  refine Met.ofW (cc := cX10_callFunction) (maxL := 5) (ret := none) (by decide) rfl ?_
  intro p e s m args below meth c s₁ B hml hv
  obtain ⟨rfl, hsz, hP, hKK, hD0, hFx⟩ := hv
  have hK := hKK.1
  have hx := B.exec
  have hb := B.bytes
  have hr := B.returns
  have ht : ∀ w ∈ tw_W, w.before _ s = true := fun w h => atoms_spec (ws := Cond.code yX10_callFunction cX10_callFunction 5 none :: tw_W) B.pre w (List.mem_cons_of_mem _ h)
  have hown : s.vm.findClass RX10 = some m.cls := findClass_of_methodNamed B.named
  have hlocks := B.notSynchronized
  subst hsz
  unfold qv_
  have hD := hD0.self (sz := s.heap.size)
  generalize hAe : va_A (cW ad pr N cI cR L1 L2 v) s.heap.size = A at hD hFx ⊢
  have hA : ∀ q : Nat, s.heap.size ≤ q → A q := fun q h => by rw [← hAe]; exact Or.inr h
  have hS : va_S A s.heap s.heap [] := va_S.rf
  have hl := lv_entry ([.ref (ad 907), .int pa, .int pb]) (n := 5) (Nat.le_of_ble_eq_true rfl)
  rw [lg_entry_eq]
  generalize (lg_sl ([.ref (ad 907), .int pa, .int pb]) ++ List.replicate (5 - (lg_sl ([.ref (ad 907), .int pa, .int pb])).length) Slot.unset).toArray = ls at hl ⊢
  have hl : lv_has ls 5 [(0, .ref (ad 907)), (1, .int pa), (2, .int pb)] := hl
  refine lv_aload_n hx hb dX10_callFunction_0 rfl (lv_at hl 0 rfl) ?_
  refine lv_iload_n hx hb dX10_callFunction_1 rfl (lv_at hl 2 rfl) ?_
  refine cu_i (rn_Vk (n := 1) (As := [.int pb]) (rest := []) hx hb hml hown ht hKK hFx hP hD hS hA (c_x_X10_placeOfSlot l dC dI cI cB cZ cJ cR tb s.heap.size ad pr N L1 L2 v pb ) tw_850 tw_851 (by decide +kernel) rfl rfl ⟨Nat.le_of_ble_eq_true rfl, Nat.le_of_ble_eq_true rfl⟩ (List.range (cW ad pr N cI cR L1 L2 v).length) (rg_map _) (nd_range _) 7 rfl rfl rfl rfl hl.1 rfl (Nat.le_of_ble_eq_true rfl) dX10_callFunction_2 ⟨Nat.le_of_ble_eq_true rfl, Nat.le_of_ble_eq_true rfl⟩) hP hD hS hA (fun r3 u2 H locs hw1 hP hD hS => ?_)
  obtain ⟨rfl, ex1⟩ := hw1
  refine W.widen (k := 0) (n := 0) (Nat.le_refl _) (Nat.le_refl _) ?_
  refine lv_istore_n (lv' := [(3, .int r3), (0, .ref (ad 907)), (1, .int pa), (2, .int pb)]) hx hb dX10_callFunction_5 rfl hl (by decide) rfl (fun ls hl => ?_)
  refine lv_aload_n hx hb dX10_callFunction_6 rfl (lv_at hl 1 rfl) ?_
  refine lv_iload_n hx hb dX10_callFunction_7 rfl (lv_at hl 2 rfl) ?_
  refine lv_aload_n hx hb dX10_callFunction_8 rfl (lv_at hl 1 rfl) ?_
  refine va_get (D := (dC, dI)) (ci := 13) (fs := oF_X10 ad pr v) (v := .int (v.1 0 364)) (C := RX10) (T := TX10) (N := 17) hx hb ht itX10 hown hK hP 7 rfl rfl 9 (by decide) (ht _ tw_865) (fun _ h9 => h9) rfl dX10_callFunction_9 ?_
  refine cu_v (rn_Vk (n := 2) (As := [.int pa, .int (v.1 0 364)]) (rest := []) hx hb hml hown ht hKK hFx hP hD hS hA (c_x_X10_enter l dC dI cI cB cZ cJ cR tb H.size ad pr N L1 L2 v pa (v.1 0 364) ps (show (N : Int) ≤ 4096 from (om_1c2c49c46c zNN)) (show L1.length = 40 from hL1) (show L2.length = 60 from hL2) (show RP v from rp) (show pr ps = ad 908 from hps) (show (v.1 0 355) = ps from es355)) tw_867 tw_868 (by decide +kernel) rfl rfl ⟨Nat.le_of_ble_eq_true rfl, Nat.le_of_ble_eq_true rfl⟩ (List.range (cW ad pr N cI cR L1 L2 v).length) (rg_map _) (nd_range _) 7 rfl rfl rfl rfl hl.1 rfl (Nat.le_of_ble_eq_true rfl) dX10_callFunction_12 ⟨Nat.le_of_ble_eq_true rfl, Nat.le_of_ble_eq_true rfl⟩) hP hD hS hA (fun u5 H locs hw4 hP hD hS => ?_)
  obtain ⟨fr4, ex4, rs4⟩ := hw4
  refine W.widen (k := 0) (n := 0) (Nat.le_refl _) (Nat.le_refl _) ?_
  refine lv_iconst (v := 0) hx hb dX10_callFunction_15 (by decide) ?_
  refine lv_istore (lv' := [(4, .int 0), (3, .int r3), (0, .ref (ad 907)), (1, .int pa), (2, .int pb)]) hx hb dX10_callFunction_16 hl (by decide) rfl (fun ls hl => ?_)
  refine lpm_ (X := Int32 × MS) (P := (fun (x9 : Int32 × MS) (H : Heap) (locs : List Loc) (ls : Array Slot) => (FC [362, 364, 365, 366, 368, 369] [0, 358] v x9.2) ∧ (0 ≤ x9.1.toInt ∧ x9.1.toInt ≤ 1000) ∧ (RS0 v x9.2) ∧ (RT (Q_x_X10_callFunction_L0 L1 L2 N v pa r3) (0, u5) (x9.1, x9.2)) ∧ va_P (dC, dI) vwCl (cW ad pr N cI cR L1 L2 x9.2) H ∧ va_D A (cW ad pr N cI cR L1 L2 x9.2) ∧ va_S A s.heap H locs ∧ lv_has ls 5 [(4, .int x9.1), (3, .int r3), (0, .ref (ad 907)), (1, .int pa), (2, .int pb)])) (fun x9 => (1000 - x9.1.toInt).toNat) 18 (fun x9 H locs ls hh ih18 => ?_) (0, u5) _ _ _ ⟨(show FC [362, 364, 365, 366, 368, 369] [0, 358] v u5 from (FC.tr (FC.rf _) (FC.up fr4 (by decide) (by decide)))), (show 0 ≤ (0 : Int) ∧ (0 : Int) ≤ 1000 from om_f3d64a281c), (show RS0 v u5 from (RS0.tr RS0.rf rs4)), RT.rf, hP, hD, hS, lv_sub hl [0, 1, 2, 3, 4] rfl⟩
  obtain ⟨ka, w18⟩ := x9
  obtain ⟨fwL18, f1L18, rsL18, exL18, hP, hD, hS, hl⟩ := hh
  have fwL18 : FC [362, 364, 365, 366, 368, 369] [0, 358] v w18 := fwL18
  have f1L18 : 0 ≤ ka.toInt ∧ ka.toInt ≤ 1000 := f1L18
  have rsL18 : RS0 v w18 := rsL18
  have hP : va_P (dC, dI) vwCl (cW ad pr N cI cR L1 L2 w18) H := hP
  have hD : va_D A (cW ad pr N cI cR L1 L2 w18) := hD
  have hl : lv_has ls 5 [(4, .int ka), (3, .int r3), (0, .ref (ad 907)), (1, .int pa), (2, .int pb)] := hl
  refine lv_iload hx hb dX10_callFunction_18 (lv_at hl 0 rfl) ?_
  refine lv_aload_n hx hb dX10_callFunction_20 rfl (lv_at hl 2 rfl) ?_
  refine va_get (D := (dC, dI)) (ci := 13) (fs := oF_X10 ad pr w18) (v := .ref (pr (w18.1 0 355))) (C := RX10) (T := TX10) (N := 17) hx hb ht itX10 hown hK hP 7 rfl rfl 0 (by decide) (ht _ tw_857) (fun _ h9 => h9) rfl dX10_callFunction_21 ?_
  refine lv_iload_n hx hb dX10_callFunction_24 rfl (lv_at hl 3 rfl) ?_
  refine lv_iconst (v := 0) hx hb dX10_callFunction_25 (by decide) ?_
  refine W.eq (g2 := F0 m 26 ls [.int 0, .int pa, .ref (ad 908), .int ka]) (by rw [show pr (w18.1 0 355) = (ad 908) from (by rw [show (w18.1 0 355) = ps from (Eq.trans (fwL18.2.1 355 (by decide)) es355)]; exact hps)]) ?_
  refine cu_i (rn_Vk (n := 2) (As := [.int pa, .int 0]) (rest := [.int ka]) hx hb hml hown ht hKK hFx hP hD hS hA (c_x_X7_functionFact l dC dI cI cB cZ cJ cR tb H.size ad pr N L1 L2 w18 pa (0 : Int32) (show L1.length = 40 from hL1) (show L2.length = 60 from hL2) (show RP w18 from ((show FC [362, 364, 365, 366, 368, 369] [0, 358] v w18 from (FC.tr (FC.rf _) (FC.up fwL18 (by decide) (by decide)))).1 rp))) tw_398 tw_858 (by decide +kernel) rfl rfl ⟨Nat.le_of_ble_eq_true rfl, Nat.le_of_ble_eq_true rfl⟩ (List.range (cW ad pr N cI cR L1 L2 w18).length) (rg_map _) (nd_range _) 8 rfl rfl rfl rfl hl.1 rfl (Nat.le_of_ble_eq_true rfl) dX10_callFunction_26 ⟨Nat.le_of_ble_eq_true rfl, Nat.le_of_ble_eq_true rfl⟩) hP hD hS hA (fun r9 u8 H locs hw7 hP hD hS => ?_)
  obtain ⟨rfl, ex7, c7, d7⟩ := hw7
  have c7 : ((0 : Int) ≠ 0 ∨ r9.toInt ≤ 1000) := c7
  have d7 : (r9.toInt ≤ 2147483647) := d7
  refine W.widen (k := 0) (n := 0) (Nat.le_refl _) (Nat.le_refl _) ?_
  refine lv_icmp_ge (tgt := 60) hx hb dX10_callFunction_29 (by decide) (fun h10 => ?_) (fun h10 => ?_)
  · have z11 : r9.toInt ≤ ka.toInt := le_z rfl rfl h10
    exact W.vret hx hb hr (fun t ht9 hW => ⟨⟨w18, rfl, ⟨(FC.tr (FC.rf _) (FC.up fwL18 (by decide) (by decide))), ⟨r3, ex1, u5, ex4, ⟨fr4, rs4⟩, ka, w18, exL18, fwL18, f1L18, rsL18, r9, ex7, ⟨c7, d7⟩, (Or.inl ⟨z11, rfl⟩)⟩, (RS0.tr RS0.rf rsL18)⟩, by rw [ht9]; exact hP, hD⟩, hS.F ht9⟩) hS.2.2 dX10_callFunction_60
  · have z12 : ka.toInt < r9.toInt := nle_z rfl rfl h10
    refine lv_aload_n hx hb dX10_callFunction_32 rfl (lv_at hl 2 rfl) ?_
    refine va_get (D := (dC, dI)) (ci := 13) (fs := oF_X10 ad pr w18) (v := .int (w18.1 0 362)) (C := RX10) (T := TX10) (N := 17) hx hb ht itX10 hown hK hP 7 rfl rfl 7 (by decide) (ht _ tw_841) (fun _ h9 => h9) rfl dX10_callFunction_33 ?_
    refine lv_iconst (v := -1) hx hb dX10_callFunction_36 (by decide) ?_
    refine lv_icmp_ne (tgt := 60) hx hb dX10_callFunction_37 (by decide) (fun h13 => ?_) (fun h13 => ?_)
    · have z14 : (w18.1 0 362).toInt ≠ (-1 : Int) := ne_z rfl (show ((-1) : Int32).toInt = (-1 : Int) by decide) h13
      exact W.vret hx hb hr (fun t ht9 hW => ⟨⟨w18, rfl, ⟨(FC.tr (FC.rf _) (FC.up fwL18 (by decide) (by decide))), ⟨r3, ex1, u5, ex4, ⟨fr4, rs4⟩, ka, w18, exL18, fwL18, f1L18, rsL18, r9, ex7, ⟨c7, d7⟩, (Or.inr (⟨z12, z14, rfl⟩))⟩, (RS0.tr RS0.rf rsL18)⟩, by rw [ht9]; exact hP, hD⟩, hS.F ht9⟩) hS.2.2 dX10_callFunction_60
    · have z15 : (w18.1 0 362).toInt = (-1 : Int) := eq_z rfl (show ((-1) : Int32).toInt = (-1 : Int) by decide) h13
      refine lv_aload_n hx hb dX10_callFunction_40 rfl (lv_at hl 2 rfl) ?_
      refine lv_iload hx hb dX10_callFunction_41 (lv_at hl 0 rfl) ?_
      refine lv_aload_n hx hb dX10_callFunction_43 rfl (lv_at hl 2 rfl) ?_
      refine lv_iload_n hx hb dX10_callFunction_44 rfl (lv_at hl 1 rfl) ?_
      refine lv_iload hx hb dX10_callFunction_45 (lv_at hl 0 rfl) ?_
      refine lv_iadd hx hb dX10_callFunction_47 ?_
      refine cu_i (rn_Vk (n := 1) (As := [.int (r3 + ka)]) (rest := [.int ka, .ref (ad 907)]) hx hb hml hown ht hKK hFx hP hD hS hA (c_x_X10_frameWord l dC dI cI cB cZ cJ cR tb H.size ad pr N L1 L2 w18 (r3 + ka) (show (N : Int) ≤ 4096 from (om_1c2c49c46c zNN))) tw_852 tw_853 (by decide +kernel) rfl rfl ⟨Nat.le_of_ble_eq_true rfl, Nat.le_of_ble_eq_true rfl⟩ (List.range (cW ad pr N cI cR L1 L2 w18).length) (rg_map _) (nd_range _) 7 rfl rfl rfl rfl hl.1 rfl (Nat.le_of_ble_eq_true rfl) dX10_callFunction_48 ⟨Nat.le_of_ble_eq_true rfl, Nat.le_of_ble_eq_true rfl⟩) hP hD hS hA (fun r18 u17 H locs hw16 hP hD hS => ?_)
      obtain ⟨rfl, ex16⟩ := hw16
      refine W.widen (k := 0) (n := 0) (Nat.le_refl _) (Nat.le_refl _) ?_
      refine cu_v (rn_Vk (n := 2) (As := [.int ka, .int r18]) (rest := []) hx hb hml hown ht hKK hFx hP hD hS hA (c_x_X10_changeSlot l dC dI cI cB cZ cJ cR tb H.size ad pr N L1 L2 w18 ka r18 (show (N : Int) ≤ 4096 from (om_1c2c49c46c zNN))) tw_869 tw_870 (by decide +kernel) rfl rfl ⟨Nat.le_of_ble_eq_true rfl, Nat.le_of_ble_eq_true rfl⟩ (List.range (cW ad pr N cI cR L1 L2 w18).length) (rg_map _) (nd_range _) 7 rfl rfl rfl rfl hl.1 rfl (Nat.le_of_ble_eq_true rfl) dX10_callFunction_51 ⟨Nat.le_of_ble_eq_true rfl, Nat.le_of_ble_eq_true rfl⟩) hP hD hS hA (fun u20 H locs hw19 hP hD hS => ?_)
      obtain ⟨fr19, ex19, rs19⟩ := hw19
      have rs19 : RS0 w18 u20 := rs19
      refine W.widen (k := 0) (n := 0) (Nat.le_refl _) (Nat.le_refl _) ?_
      refine lv_iinc (v := (ka + (1 : Int32))) (lv' := [(4, .int (ka + (1 : Int32))), (3, .int r3), (0, .ref (ad 907)), (1, .int pa), (2, .int pb)]) hx hb dX10_callFunction_54 hl (k := 0) rfl (rfl) (by decide) rfl (fun ls hl => ?_)
      have z22 : (ka + (1 : Int32)).toInt = ka.toInt + 1 := inc_lt z12
      refine lv_goto (tgt := 18) hx hb dX10_callFunction_57 (by decide) ?_
      exact ih18 ((ka + (1 : Int32)), u20) _ _ _ (show (1000 - (ka + (1 : Int32)).toInt).toNat < (1000 - ka.toInt).toNat from tn_z (om_35972f02ef z22) (om_4f94794187 c7 z12)) ⟨(show FC [362, 364, 365, 366, 368, 369] [0, 358] v u20 from (FC.tr (FC.tr (FC.rf _) (FC.up fwL18 (by decide) (by decide))) (FC.up fr19 (by decide) (by decide)))), (show 0 ≤ (ka + (1 : Int32)).toInt ∧ (ka + (1 : Int32)).toInt ≤ 1000 from (om_179671e5d5 f1L18 c7 z12 z22)), (show RS0 v u20 from (RS0.tr (RS0.tr RS0.rf rsL18) rs19)), (RT.st exL18 ⟨fwL18, f1L18, rsL18, r9, ex7, ⟨c7, d7⟩, z12, z15, r18, ex16, u20, ex19, ⟨fr19, rs19⟩, rfl⟩), hP, hD, hS, lv_sub hl [0, 1, 2, 3, 4] rfl⟩
set_option maxHeartbeats 4000000 in
set_option maxRecDepth 100000 in
theorem c_x_X10_leaveFunction (l : Launch) (dC : Nat → ClassId) (dI : Nat → Nat → Nat) (cI cB cZ cJ cR : ClassId) (tb : Nat → Nat) (sz : Nat) (ad : Nat → Nat) (pr : Int32 → Nat) (N : Nat) (L1 L2 : List Nat) (v : MS)  (zNN : (N : Int) ≤ 4096) : Met l yX10_leaveFunction (Cond.code yX10_leaveFunction cX10_leaveFunction 2 none :: tw_W) ({ frames := 1, cells := 0, slots := 0, locals := 21 }) (pc_ (dC, dI) (tyS cI cB cZ cJ cR) tb (cW ad pr N cI cR L1 L2 v) sz [.ref (ad 907)]) (qv_ (dC, dI) (cW ad pr N cI cR L1 L2 v) sz (fun (u : MS) => FC [362, 364, 365, 366] [0] v u ∧ (Q_x_X10_leaveFunction L1 L2 N v u) ∧ (RS0 v u)) (fun (u : MS) => (cW ad pr N cI cR L1 L2 u))) 0 0 (va_A (cW ad pr N cI cR L1 L2 v) sz) := by
  refine Met.ofW (cc := cX10_leaveFunction) (maxL := 2) (ret := none) (by decide) rfl ?_
  intro p e s m args below meth c s₁ B hml hv
  obtain ⟨rfl, hsz, hP, hKK, hD0, hFx⟩ := hv
  have hK := hKK.1
  have hx := B.exec
  have hb := B.bytes
  have hr := B.returns
  have ht : ∀ w ∈ tw_W, w.before _ s = true := fun w h => atoms_spec (ws := Cond.code yX10_leaveFunction cX10_leaveFunction 2 none :: tw_W) B.pre w (List.mem_cons_of_mem _ h)
  have hown : s.vm.findClass RX10 = some m.cls := findClass_of_methodNamed B.named
  have hlocks := B.notSynchronized
  subst hsz
  unfold qv_
  have hD := hD0.self (sz := s.heap.size)
  generalize hAe : va_A (cW ad pr N cI cR L1 L2 v) s.heap.size = A at hD hFx ⊢
  have hA : ∀ q : Nat, s.heap.size ≤ q → A q := fun q h => by rw [← hAe]; exact Or.inr h
  have hS : va_S A s.heap s.heap [] := va_S.rf
  have hl := lv_entry ([.ref (ad 907)]) (n := 2) (Nat.le_of_ble_eq_true rfl)
  rw [lg_entry_eq]
  generalize (lg_sl ([.ref (ad 907)]) ++ List.replicate (2 - (lg_sl ([.ref (ad 907)])).length) Slot.unset).toArray = ls at hl ⊢
  have hl : lv_has ls 2 [(0, .ref (ad 907))] := hl
  refine lv_aload_n hx hb dX10_leaveFunction_0 rfl (lv_at hl 0 rfl) ?_
  refine lv_aload_n hx hb dX10_leaveFunction_1 rfl (lv_at hl 0 rfl) ?_
  refine va_get (D := (dC, dI)) (ci := 13) (fs := oF_X10 ad pr v) (v := .int (v.1 0 365)) (C := RX10) (T := TX10) (N := 17) hx hb ht itX10 hown hK hP 7 rfl rfl 10 (by decide) (ht _ tw_849) (fun _ h9 => h9) rfl dX10_leaveFunction_2 ?_
  refine cu_i (rn_Vk (n := 1) (As := [.int (v.1 0 365)]) (rest := []) hx hb hml hown ht hKK hFx hP hD hS hA (c_x_X10_frameWord l dC dI cI cB cZ cJ cR tb s.heap.size ad pr N L1 L2 v (v.1 0 365) (show (N : Int) ≤ 4096 from (om_1c2c49c46c zNN))) tw_852 tw_853 (by decide +kernel) rfl rfl ⟨Nat.le_of_ble_eq_true rfl, Nat.le_of_ble_eq_true rfl⟩ (List.range (cW ad pr N cI cR L1 L2 v).length) (rg_map _) (nd_range _) 7 rfl rfl rfl rfl hl.1 rfl (Nat.le_of_ble_eq_true rfl) dX10_leaveFunction_5 ⟨Nat.le_of_ble_eq_true rfl, Nat.le_of_ble_eq_true rfl⟩) hP hD hS hA (fun r3 u2 H locs hw1 hP hD hS => ?_)
  obtain ⟨rfl, ex1⟩ := hw1
  refine W.widen (k := 0) (n := 0) (Nat.le_refl _) (Nat.le_refl _) ?_
  refine lv_istore_n (lv' := [(1, .int r3), (0, .ref (ad 907))]) hx hb dX10_leaveFunction_8 rfl hl (by decide) rfl (fun ls hl => ?_)
  refine lv_aload_n hx hb dX10_leaveFunction_9 rfl (lv_at hl 1 rfl) ?_
  refine lv_aload_n hx hb dX10_leaveFunction_10 rfl (lv_at hl 1 rfl) ?_
  refine va_get (D := (dC, dI)) (ci := 13) (fs := oF_X10 ad pr v) (v := .int (v.1 0 365)) (C := RX10) (T := TX10) (N := 17) hx hb ht itX10 hown hK hP 7 rfl rfl 10 (by decide) (ht _ tw_849) (fun _ h9 => h9) rfl dX10_leaveFunction_11 ?_
  refine va_put (D := (dC, dI)) (ci := 13) (fs := oF_X10 ad pr v) (v := .int (v.1 0 365)) (ty := .int) (C := RX10) (T := TX10) (N := 17) hx hb ht itX10 tyX10 tyX10_ok nmX10 hown hK hP hD hS 7 rfl rfl 11 (by decide) (ht _ tw_859) (fun _ h9 => h9) rfl (by decide +kernel) rfl rfl (Nat.le_of_ble_eq_true rfl) dX10_leaveFunction_14 (fun H locs hP hD hS => ?_)
  have hP := cP_ (cw_366 ad pr N cI cR L1 L2 v (v.1 0 365)) hP
  have hD := cD_ (cw_366 ad pr N cI cR L1 L2 v (v.1 0 365)) hD
  refine lv_aload_n hx hb dX10_leaveFunction_17 rfl (lv_at hl 1 rfl) ?_
  refine lv_aload_n hx hb dX10_leaveFunction_18 rfl (lv_at hl 1 rfl) ?_
  refine lv_aload_n hx hb dX10_leaveFunction_19 rfl (lv_at hl 1 rfl) ?_
  refine va_get (D := (dC, dI)) (ci := 13) (fs := oF_X10 ad pr (wA v 0 366 (v.1 0 365))) (v := .int (v.1 0 365)) (C := RX10) (T := TX10) (N := 17) hx hb ht itX10 hown hK hP 7 rfl rfl 10 (by decide) (ht _ tw_849) (fun _ h9 => h9) rfl dX10_leaveFunction_20 ?_
  refine lv_iconst (v := 1) hx hb dX10_leaveFunction_23 (by decide) ?_
  refine lv_iadd hx hb dX10_leaveFunction_24 ?_
  refine cu_i (rn_Vk (n := 1) (As := [.int ((v.1 0 365) + (1 : Int32))]) (rest := [.ref (ad 907)]) hx hb hml hown ht hKK hFx hP hD hS hA (c_x_X10_frameWord l dC dI cI cB cZ cJ cR tb H.size ad pr N L1 L2 (wA v 0 366 (v.1 0 365)) ((v.1 0 365) + (1 : Int32)) (show (N : Int) ≤ 4096 from (om_1c2c49c46c zNN))) tw_852 tw_853 (by decide +kernel) rfl rfl ⟨Nat.le_of_ble_eq_true rfl, Nat.le_of_ble_eq_true rfl⟩ (List.range (cW ad pr N cI cR L1 L2 (wA v 0 366 (v.1 0 365))).length) (rg_map _) (nd_range _) 7 rfl rfl rfl rfl hl.1 rfl (Nat.le_of_ble_eq_true rfl) dX10_leaveFunction_25 ⟨Nat.le_of_ble_eq_true rfl, Nat.le_of_ble_eq_true rfl⟩) hP hD hS hA (fun r6 u5 H locs hw4 hP hD hS => ?_)
  obtain ⟨rfl, ex4⟩ := hw4
  refine W.widen (k := 0) (n := 0) (Nat.le_refl _) (Nat.le_refl _) ?_
  refine va_put (D := (dC, dI)) (ci := 13) (fs := oF_X10 ad pr (wA v 0 366 (v.1 0 365))) (v := .int r6) (ty := .int) (C := RX10) (T := TX10) (N := 17) hx hb ht itX10 tyX10 tyX10_ok nmX10 hown hK hP hD hS 7 rfl rfl 10 (by decide) (ht _ tw_849) (fun _ h9 => h9) rfl (by decide +kernel) rfl rfl (Nat.le_of_ble_eq_true rfl) dX10_leaveFunction_28 (fun H locs hP hD hS => ?_)
  have hP := cP_ (cw_365 ad pr N cI cR L1 L2 (wA v 0 366 (v.1 0 365)) r6) hP
  have hD := cD_ (cw_365 ad pr N cI cR L1 L2 (wA v 0 366 (v.1 0 365)) r6) hD
  refine lv_iload_n hx hb dX10_leaveFunction_31 rfl (lv_at hl 0 rfl) ?_
  refine lv_iconst (v := -1) hx hb dX10_leaveFunction_32 (by decide) ?_
  refine lv_icmp_ne (tgt := 44) hx hb dX10_leaveFunction_33 (by decide) (fun h7 => ?_) (fun h7 => ?_)
  · have z8 : r3.toInt ≠ (-1 : Int) := ne_z rfl (show ((-1) : Int32).toInt = (-1 : Int) by decide) h7
    refine lv_aload_n hx hb dX10_leaveFunction_44 rfl (lv_at hl 1 rfl) ?_
    refine lv_iload_n hx hb dX10_leaveFunction_45 rfl (lv_at hl 0 rfl) ?_
    refine va_put (D := (dC, dI)) (ci := 13) (fs := oF_X10 ad pr (wA (wA v 0 366 (v.1 0 365)) 0 365 r6)) (v := .int r3) (ty := .int) (C := RX10) (T := TX10) (N := 17) hx hb ht itX10 tyX10 tyX10_ok nmX10 hown hK hP hD hS 7 rfl rfl 9 (by decide) (ht _ tw_865) (fun _ h9 => h9) rfl (by decide +kernel) rfl rfl (Nat.le_of_ble_eq_true rfl) dX10_leaveFunction_46 (fun H locs hP hD hS => ?_)
    have hP := cP_ (cw_364 ad pr N cI cR L1 L2 (wA (wA v 0 366 (v.1 0 365)) 0 365 r6) r3) hP
    have hD := cD_ (cw_364 ad pr N cI cR L1 L2 (wA (wA v 0 366 (v.1 0 365)) 0 365 r6) r3) hD
    exact W.vret hx hb hr (fun t ht9 hW => ⟨⟨(wA (wA (wA v 0 366 (v.1 0 365)) 0 365 r6) 0 364 r3), rfl, ⟨(FC.f (FC.f (FC.f (FC.rf _) (v.1 0 365) (by decide)) r6 (by decide)) r3 (by decide)), ⟨r3, ex1, r6, ex4, (Or.inl ⟨z8, rfl⟩)⟩, (RS0.w (RS0.w (RS0.w RS0.rf (by decide)) (by decide)) (by decide))⟩, by rw [ht9]; exact hP, hD⟩, hS.F ht9⟩) hS.2.2 dX10_leaveFunction_49
  · have z9 : r3.toInt = (-1 : Int) := eq_z rfl (show ((-1) : Int32).toInt = (-1 : Int) by decide) h7
    refine lv_aload_n hx hb dX10_leaveFunction_36 rfl (lv_at hl 1 rfl) ?_
    refine lv_iconst (v := 0) hx hb dX10_leaveFunction_37 (by decide) ?_
    refine va_put (D := (dC, dI)) (ci := 13) (fs := oF_X10 ad pr (wA (wA v 0 366 (v.1 0 365)) 0 365 r6)) (v := .int 0) (ty := .int) (C := RX10) (T := TX10) (N := 17) hx hb ht itX10 tyX10 tyX10_ok nmX10 hown hK hP hD hS 7 rfl rfl 7 (by decide) (ht _ tw_841) (fun _ h9 => h9) rfl (by decide +kernel) rfl rfl (Nat.le_of_ble_eq_true rfl) dX10_leaveFunction_38 (fun H locs hP hD hS => ?_)
    have hP := cP_ (cw_362 ad pr N cI cR L1 L2 (wA (wA v 0 366 (v.1 0 365)) 0 365 r6) 0) hP
    have hD := cD_ (cw_362 ad pr N cI cR L1 L2 (wA (wA v 0 366 (v.1 0 365)) 0 365 r6) 0) hD
    refine lv_goto (tgt := 49) hx hb dX10_leaveFunction_41 (by decide) ?_
    exact W.vret hx hb hr (fun t ht9 hW => ⟨⟨(wA (wA (wA v 0 366 (v.1 0 365)) 0 365 r6) 0 362 0), rfl, ⟨(FC.f (FC.f (FC.f (FC.rf _) (v.1 0 365) (by decide)) r6 (by decide)) 0 (by decide)), ⟨r3, ex1, r6, ex4, (Or.inr (⟨z9, rfl⟩))⟩, (RS0.w (RS0.w (RS0.w RS0.rf (by decide)) (by decide)) (by decide))⟩, by rw [ht9]; exact hP, hD⟩, hS.F ht9⟩) hS.2.2 dX10_leaveFunction_49
set_option maxHeartbeats 4000000 in
set_option maxRecDepth 100000 in
theorem c_x_X10_index (l : Launch) (dC : Nat → ClassId) (dI : Nat → Nat → Nat) (cI cB cZ cJ cR : ClassId) (tb : Nat → Nat) (sz : Nat) (ad : Nat → Nat) (pr : Int32 → Nat) (N : Nat) (L1 L2 : List Nat) (v : MS) (pa : Int32) (ps : Int32) (hL1 : L1.length = 40) (hL2 : L2.length = 60) (rp : RP v) (hps : pr ps = ad 908) (es355 : (v.1 0 355) = ps) : Met l yX10_index (Cond.code yX10_index cX10_index 2 none :: tw_W) ({ frames := 2, cells := 0, slots := 0, locals := 43 }) (pc_ (dC, dI) (tyS cI cB cZ cJ cR) tb (cW ad pr N cI cR L1 L2 v) sz [.ref (ad 907), .int pa]) (qv_ (dC, dI) (cW ad pr N cI cR L1 L2 v) sz (fun (u : MS) => FC [362, 363] [0] v u ∧ (Q_x_X10_index L1 L2 v pa u) ∧ (RS0 v u)) (fun (u : MS) => (cW ad pr N cI cR L1 L2 u))) 0 0 (va_A (cW ad pr N cI cR L1 L2 v) sz) := by
  refine Met.ofW (cc := cX10_index) (maxL := 2) (ret := none) (by decide) rfl ?_
  intro p e s m args below meth c s₁ B hml hv
  obtain ⟨rfl, hsz, hP, hKK, hD0, hFx⟩ := hv
  have hK := hKK.1
  have hx := B.exec
  have hb := B.bytes
  have hr := B.returns
  have ht : ∀ w ∈ tw_W, w.before _ s = true := fun w h => atoms_spec (ws := Cond.code yX10_index cX10_index 2 none :: tw_W) B.pre w (List.mem_cons_of_mem _ h)
  have hown : s.vm.findClass RX10 = some m.cls := findClass_of_methodNamed B.named
  have hlocks := B.notSynchronized
  subst hsz
  unfold qv_
  have hD := hD0.self (sz := s.heap.size)
  generalize hAe : va_A (cW ad pr N cI cR L1 L2 v) s.heap.size = A at hD hFx ⊢
  have hA : ∀ q : Nat, s.heap.size ≤ q → A q := fun q h => by rw [← hAe]; exact Or.inr h
  have hS : va_S A s.heap s.heap [] := va_S.rf
  have hl := lv_entry ([.ref (ad 907), .int pa]) (n := 2) (Nat.le_of_ble_eq_true rfl)
  rw [lg_entry_eq]
  generalize (lg_sl ([.ref (ad 907), .int pa]) ++ List.replicate (2 - (lg_sl ([.ref (ad 907), .int pa])).length) Slot.unset).toArray = ls at hl ⊢
  have hl : lv_has ls 2 [(0, .ref (ad 907)), (1, .int pa)] := hl
  refine lv_aload_n hx hb dX10_index_0 rfl (lv_at hl 0 rfl) ?_
  refine va_get (D := (dC, dI)) (ci := 13) (fs := oF_X10 ad pr v) (v := .int (v.1 0 363)) (C := RX10) (T := TX10) (N := 17) hx hb ht itX10 hown hK hP 7 rfl rfl 8 (by decide) (ht _ tw_842) (fun _ h9 => h9) rfl dX10_index_1 ?_
  refine lv_if_lt (tgt := 23) hx hb dX10_index_4 (by decide) (fun h1 => ?_) (fun h1 => ?_)
  · have z2 : (v.1 0 363).toInt < (0 : Int) := lt_z rfl (show (0 : Int32).toInt = (0 : Int) by decide) h1
    refine lv_aload_n hx hb dX10_index_23 rfl (lv_at hl 0 rfl) ?_
    refine lv_iconst (v := 3) hx hb dX10_index_24 (by decide) ?_
    refine va_put (D := (dC, dI)) (ci := 13) (fs := oF_X10 ad pr v) (v := .int 3) (ty := .int) (C := RX10) (T := TX10) (N := 17) hx hb ht itX10 tyX10 tyX10_ok nmX10 hown hK hP hD hS 7 rfl rfl 7 (by decide) (ht _ tw_841) (fun _ h9 => h9) rfl (by decide +kernel) rfl rfl (Nat.le_of_ble_eq_true rfl) dX10_index_25 (fun H locs hP hD hS => ?_)
    have hP := cP_ (cw_362 ad pr N cI cR L1 L2 v 3) hP
    have hD := cD_ (cw_362 ad pr N cI cR L1 L2 v 3) hD
    refine lv_goto (tgt := 48) hx hb dX10_index_28 (by decide) ?_
    exact W.vret hx hb hr (fun t ht9 hW => ⟨⟨(wA v 0 362 3), rfl, ⟨(FC.f (FC.rf _) 3 (by decide)), (Or.inl ⟨z2, rfl⟩), (RS0.w RS0.rf (by decide))⟩, by rw [ht9]; exact hP, hD⟩, hS.F ht9⟩) hS.2.2 dX10_index_48
  · have z3 : (0 : Int) ≤ (v.1 0 363).toInt := nlt_z rfl (show (0 : Int32).toInt = (0 : Int) by decide) h1
    refine lv_aload_n hx hb dX10_index_7 rfl (lv_at hl 0 rfl) ?_
    refine va_get (D := (dC, dI)) (ci := 13) (fs := oF_X10 ad pr v) (v := .int (v.1 0 363)) (C := RX10) (T := TX10) (N := 17) hx hb ht itX10 hown hK hP 7 rfl rfl 8 (by decide) (ht _ tw_842) (fun _ h9 => h9) rfl dX10_index_8 ?_
    refine lv_aload_n hx hb dX10_index_11 rfl (lv_at hl 0 rfl) ?_
    refine va_get (D := (dC, dI)) (ci := 13) (fs := oF_X10 ad pr v) (v := .ref (pr (v.1 0 355))) (C := RX10) (T := TX10) (N := 17) hx hb ht itX10 hown hK hP 7 rfl rfl 0 (by decide) (ht _ tw_857) (fun _ h9 => h9) rfl dX10_index_12 ?_
    refine lv_iload_n hx hb dX10_index_15 rfl (lv_at hl 1 rfl) ?_
    refine lv_iconst (v := 0) hx hb dX10_index_16 (by decide) ?_
    refine W.eq (g2 := F0 m 17 ls [.int 0, .int pa, .ref (ad 908), .int (v.1 0 363)]) (by rw [show pr (v.1 0 355) = (ad 908) from (by rw [show (v.1 0 355) = ps from es355]; exact hps)]) ?_
    refine cu_i (rn_Vk (n := 2) (As := [.int pa, .int 0]) (rest := [.int (v.1 0 363)]) hx hb hml hown ht hKK hFx hP hD hS hA (c_x_X7_globalFact l dC dI cI cB cZ cJ cR tb s.heap.size ad pr N L1 L2 v pa (0 : Int32) (show L1.length = 40 from hL1) (show L2.length = 60 from hL2) (show RP v from rp)) tw_402 tw_871 (by decide +kernel) rfl rfl ⟨Nat.le_of_ble_eq_true rfl, Nat.le_of_ble_eq_true rfl⟩ (List.range (cW ad pr N cI cR L1 L2 v).length) (rg_map _) (nd_range _) 8 rfl rfl rfl rfl hl.1 rfl (Nat.le_of_ble_eq_true rfl) dX10_index_17 ⟨Nat.le_of_ble_eq_true rfl, Nat.le_of_ble_eq_true rfl⟩) hP hD hS hA (fun r6 u5 H locs hw4 hP hD hS => ?_)
    obtain ⟨rfl, ex4, c4, d4⟩ := hw4
    have c4 : ((0 : Int) ≠ 0 ∨ r6.toInt ≤ 1000) := c4
    refine W.widen (k := 0) (n := 0) (Nat.le_refl _) (Nat.le_refl _) ?_
    refine lv_icmp_lt (tgt := 31) hx hb dX10_index_20 (by decide) (fun h7 => ?_) (fun h7 => ?_)
    · have z8 : (v.1 0 363).toInt < r6.toInt := lt_z rfl rfl h7
      refine lv_aload_n hx hb dX10_index_31 rfl (lv_at hl 0 rfl) ?_
      refine lv_dup hx hb dX10_index_32 rfl ?_
      refine va_get (D := (dC, dI)) (ci := 13) (fs := oF_X10 ad pr v) (v := .int (v.1 0 363)) (C := RX10) (T := TX10) (N := 17) hx hb ht itX10 hown hK hP 7 rfl rfl 8 (by decide) (ht _ tw_842) (fun _ h9 => h9) rfl dX10_index_33 ?_
      refine lv_aload_n hx hb dX10_index_36 rfl (lv_at hl 0 rfl) ?_
      refine va_get (D := (dC, dI)) (ci := 13) (fs := oF_X10 ad pr v) (v := .ref (pr (v.1 0 355))) (C := RX10) (T := TX10) (N := 17) hx hb ht itX10 hown hK hP 7 rfl rfl 0 (by decide) (ht _ tw_857) (fun _ h9 => h9) rfl dX10_index_37 ?_
      refine lv_iload_n hx hb dX10_index_40 rfl (lv_at hl 1 rfl) ?_
      refine W.eq (g2 := F0 m 41 ls [.int pa, .ref (ad 908), .int (v.1 0 363), .ref (ad 907)]) (by rw [show pr (v.1 0 355) = (ad 908) from (by rw [show (v.1 0 355) = ps from es355]; exact hps)]) ?_
      refine cu_i (rn_Vk (n := 1) (As := [.int pa]) (rest := [.int (v.1 0 363), .ref (ad 907)]) hx hb hml hown ht hKK hFx hP hD hS hA (c_x_X7_firstCell l dC dI cI cB cZ cJ cR tb H.size ad pr N L1 L2 v pa (show L1.length = 40 from hL1) (show L2.length = 60 from hL2) (show RP v from rp)) tw_872 tw_873 (by decide +kernel) rfl rfl ⟨Nat.le_of_ble_eq_true rfl, Nat.le_of_ble_eq_true rfl⟩ (List.range (cW ad pr N cI cR L1 L2 v).length) (rg_map _) (nd_range _) 8 rfl rfl rfl rfl hl.1 rfl (Nat.le_of_ble_eq_true rfl) dX10_index_41 ⟨Nat.le_of_ble_eq_true rfl, Nat.le_of_ble_eq_true rfl⟩) hP hD hS hA (fun r11 u10 H locs hw9 hP hD hS => ?_)
      obtain ⟨rfl, ex9⟩ := hw9
      refine W.widen (k := 0) (n := 0) (Nat.le_refl _) (Nat.le_refl _) ?_
      refine lv_iadd hx hb dX10_index_44 ?_
      refine va_put (D := (dC, dI)) (ci := 13) (fs := oF_X10 ad pr v) (v := .int ((v.1 0 363) + r11)) (ty := .int) (C := RX10) (T := TX10) (N := 17) hx hb ht itX10 tyX10 tyX10_ok nmX10 hown hK hP hD hS 7 rfl rfl 8 (by decide) (ht _ tw_842) (fun _ h9 => h9) rfl (by decide +kernel) rfl rfl (Nat.le_of_ble_eq_true rfl) dX10_index_45 (fun H locs hP hD hS => ?_)
      have hP := cP_ (cw_363 ad pr N cI cR L1 L2 v ((v.1 0 363) + r11)) hP
      have hD := cD_ (cw_363 ad pr N cI cR L1 L2 v ((v.1 0 363) + r11)) hD
      exact W.vret hx hb hr (fun t ht9 hW => ⟨⟨(wA v 0 363 ((v.1 0 363) + r11)), rfl, ⟨(FC.f (FC.rf _) ((v.1 0 363) + r11) (by decide)), (Or.inr (⟨z3, r6, ex4, ⟨c4, d4⟩, (Or.inl ⟨z8, r11, ex9, rfl⟩)⟩)), (RS0.w RS0.rf (by decide))⟩, by rw [ht9]; exact hP, hD⟩, hS.F ht9⟩) hS.2.2 dX10_index_48
    · have z12 : r6.toInt ≤ (v.1 0 363).toInt := nlt_z rfl rfl h7
      refine lv_aload_n hx hb dX10_index_23 rfl (lv_at hl 0 rfl) ?_
      refine lv_iconst (v := 3) hx hb dX10_index_24 (by decide) ?_
      refine va_put (D := (dC, dI)) (ci := 13) (fs := oF_X10 ad pr v) (v := .int 3) (ty := .int) (C := RX10) (T := TX10) (N := 17) hx hb ht itX10 tyX10 tyX10_ok nmX10 hown hK hP hD hS 7 rfl rfl 7 (by decide) (ht _ tw_841) (fun _ h9 => h9) rfl (by decide +kernel) rfl rfl (Nat.le_of_ble_eq_true rfl) dX10_index_25 (fun H locs hP hD hS => ?_)
      have hP := cP_ (cw_362 ad pr N cI cR L1 L2 v 3) hP
      have hD := cD_ (cw_362 ad pr N cI cR L1 L2 v 3) hD
      refine lv_goto (tgt := 48) hx hb dX10_index_28 (by decide) ?_
      exact W.vret hx hb hr (fun t ht9 hW => ⟨⟨(wA v 0 362 3), rfl, ⟨(FC.f (FC.rf _) 3 (by decide)), (Or.inr (⟨z3, r6, ex4, ⟨c4, d4⟩, (Or.inr (⟨z12, rfl⟩))⟩)), (RS0.w RS0.rf (by decide))⟩, by rw [ht9]; exact hP, hD⟩, hS.F ht9⟩) hS.2.2 dX10_index_48
theorem om_909fd809d7 {x0 : Int} (h0 : x0 = (19 : Int)) (h1 : x0 = (18 : Int)) : False := by omega
theorem om_e194a8dc1a {x0 : Int} (h0 : x0 = (16 : Int)) (h1 : x0 = (18 : Int)) : False := by omega
set_option maxHeartbeats 4000000 in
set_option maxRecDepth 100000 in
theorem c_x_X10_doJump (l : Launch) (dC : Nat → ClassId) (dI : Nat → Nat → Nat) (cI cB cZ cJ cR : ClassId) (tb : Nat → Nat) (sz : Nat) (ad : Nat → Nat) (pr : Int32 → Nat) (N : Nat) (L1 L2 : List Nat) (v : MS) (pa : Int32) (pb : Int32)  : Met l yX10_doJump (Cond.code yX10_doJump cX10_doJump 4 none :: tw_W) ({ frames := 0, cells := 0, slots := 0, locals := 0 }) (pc_ (dC, dI) (tyS cI cB cZ cJ cR) tb (cW ad pr N cI cR L1 L2 v) sz [.ref (ad 907), .int pa, .int pb]) (qv_ (dC, dI) (cW ad pr N cI cR L1 L2 v) sz (fun (u : MS) => FC [363, 364] [0] v u ∧ (Q_x_X10_doJump L1 L2 v pa pb u) ∧ (RS0 v u)) (fun (u : MS) => (cW ad pr N cI cR L1 L2 u))) 0 0 (va_A (cW ad pr N cI cR L1 L2 v) sz) := by
  refine Met.ofW (cc := cX10_doJump) (maxL := 4) (ret := none) (by decide) rfl ?_
  intro p e s m args below meth c s₁ B hml hv
  obtain ⟨rfl, hsz, hP, hKK, hD0, hFx⟩ := hv
  have hK := hKK.1
  have hx := B.exec
  have hb := B.bytes
  have hr := B.returns
  have ht : ∀ w ∈ tw_W, w.before _ s = true := fun w h => atoms_spec (ws := Cond.code yX10_doJump cX10_doJump 4 none :: tw_W) B.pre w (List.mem_cons_of_mem _ h)
  have hown : s.vm.findClass RX10 = some m.cls := findClass_of_methodNamed B.named
  have hlocks := B.notSynchronized
  subst hsz
  unfold qv_
  have hD := hD0.self (sz := s.heap.size)
  generalize hAe : va_A (cW ad pr N cI cR L1 L2 v) s.heap.size = A at hD hFx ⊢
  have hA : ∀ q : Nat, s.heap.size ≤ q → A q := fun q h => by rw [← hAe]; exact Or.inr h
  have hS : va_S A s.heap s.heap [] := va_S.rf
  have hl := lv_entry ([.ref (ad 907), .int pa, .int pb]) (n := 4) (Nat.le_of_ble_eq_true rfl)
  rw [lg_entry_eq]
  generalize (lg_sl ([.ref (ad 907), .int pa, .int pb]) ++ List.replicate (4 - (lg_sl ([.ref (ad 907), .int pa, .int pb])).length) Slot.unset).toArray = ls at hl ⊢
  have hl : lv_has ls 4 [(0, .ref (ad 907)), (1, .int pa), (2, .int pb)] := hl
  refine lv_iload_n hx hb dX10_doJump_0 rfl (lv_at hl 1 rfl) ?_
  refine lv_bipush (v := 19) hx hb dX10_doJump_1 (by decide) ?_
  refine lv_icmp_eq (tgt := 32) hx hb dX10_doJump_3 (by decide) (fun h1 => ?_) (fun h1 => ?_)
  · have z2 : pa.toInt = (19 : Int) := eq_z rfl (show (19 : Int32).toInt = (19 : Int) by decide) h1
    refine lv_iconst (v := 1) hx hb dX10_doJump_32 (by decide) ?_
    refine lv_goto (tgt := 37) hx hb dX10_doJump_33 (by decide) ?_
    refine lv_istore_n (lv' := [(3, .int 1), (0, .ref (ad 907)), (1, .int pa), (2, .int pb)]) hx hb dX10_doJump_37 rfl hl (by decide) rfl (fun ls hl => ?_)
    refine lv_iload_n hx hb dX10_doJump_38 rfl (lv_at hl 0 rfl) ?_
    refine lv_if_eq (tgt := 47) hx hb dX10_doJump_39 (by decide) (fun k3 => absurd k3 (by decide)) (fun _ => ?_)
    refine lv_aload_n hx hb dX10_doJump_42 rfl (lv_at hl 1 rfl) ?_
    refine lv_iload_n hx hb dX10_doJump_43 rfl (lv_at hl 3 rfl) ?_
    refine va_put (D := (dC, dI)) (ci := 13) (fs := oF_X10 ad pr v) (v := .int pb) (ty := .int) (C := RX10) (T := TX10) (N := 17) hx hb ht itX10 tyX10 tyX10_ok nmX10 hown hK hP hD hS 7 rfl rfl 9 (by decide) (ht _ tw_865) (fun _ h9 => h9) rfl (by decide +kernel) rfl rfl (Nat.le_of_ble_eq_true rfl) dX10_doJump_44 (fun H locs hP hD hS => ?_)
    have hP := cP_ (cw_364 ad pr N cI cR L1 L2 v pb) hP
    have hD := cD_ (cw_364 ad pr N cI cR L1 L2 v pb) hD
    refine lv_iload_n hx hb dX10_doJump_47 rfl (lv_at hl 0 rfl) ?_
    refine lv_if_eq (tgt := 62) hx hb dX10_doJump_48 (by decide) (fun k4 => absurd k4 (by decide)) (fun _ => ?_)
    refine lv_iload_n hx hb dX10_doJump_51 rfl (lv_at hl 2 rfl) ?_
    refine lv_bipush (v := 18) hx hb dX10_doJump_52 (by decide) ?_
    refine lv_icmp_ne (tgt := 62) hx hb dX10_doJump_54 (by decide) (fun h5 => ?_) (fun h5 => ?_)
    · have z6 : pa.toInt ≠ (18 : Int) := ne_z rfl (show (18 : Int32).toInt = (18 : Int) by decide) h5
      exact W.vret hx hb hr (fun t ht9 hW => ⟨⟨(wA v 0 364 pb), rfl, ⟨(FC.f (FC.rf _) pb (by decide)), (Or.inl ⟨z2, z6, rfl⟩), (RS0.w RS0.rf (by decide))⟩, by rw [ht9]; exact hP, hD⟩, hS.F ht9⟩) hS.2.2 dX10_doJump_62
    · have z7 : pa.toInt = (18 : Int) := eq_z rfl (show (18 : Int32).toInt = (18 : Int) by decide) h5
      exact False.elim (om_909fd809d7 z2 z7)
  · have z8 : pa.toInt ≠ (19 : Int) := ne_z rfl (show (19 : Int32).toInt = (19 : Int) by decide) h1
    refine lv_iload_n hx hb dX10_doJump_6 rfl (lv_at hl 1 rfl) ?_
    refine lv_bipush (v := 16) hx hb dX10_doJump_7 (by decide) ?_
    refine lv_icmp_ne (tgt := 16) hx hb dX10_doJump_9 (by decide) (fun h9 => ?_) (fun h9 => ?_)
    · have z10 : pa.toInt ≠ (16 : Int) := ne_z rfl (show (16 : Int32).toInt = (16 : Int) by decide) h9
      refine lv_iconst (v := 0) hx hb dX10_doJump_16 (by decide) ?_
      refine lv_aload_n hx hb dX10_doJump_17 rfl (lv_at hl 0 rfl) ?_
      refine va_get (D := (dC, dI)) (ci := 13) (fs := oF_X10 ad pr v) (v := .int (v.1 0 363)) (C := RX10) (T := TX10) (N := 17) hx hb ht itX10 hown hK hP 7 rfl rfl 8 (by decide) (ht _ tw_842) (fun _ h9 => h9) rfl dX10_doJump_18 ?_
      refine lv_if_ne (tgt := 28) hx hb dX10_doJump_21 (by decide) (fun h11 => ?_) (fun h11 => ?_)
      · have z12 : (v.1 0 363).toInt ≠ (0 : Int) := ne_z rfl (show (0 : Int32).toInt = (0 : Int) by decide) h11
        refine lv_iconst (v := 0) hx hb dX10_doJump_28 (by decide) ?_
        refine lv_icmp_ne (tgt := 36) hx hb dX10_doJump_29 (by decide) (fun k13 => absurd k13 (by decide)) (fun _ => ?_)
        refine lv_iconst (v := 1) hx hb dX10_doJump_32 (by decide) ?_
        refine lv_goto (tgt := 37) hx hb dX10_doJump_33 (by decide) ?_
        refine lv_istore_n (lv' := [(3, .int 1), (0, .ref (ad 907)), (1, .int pa), (2, .int pb)]) hx hb dX10_doJump_37 rfl hl (by decide) rfl (fun ls hl => ?_)
        refine lv_iload_n hx hb dX10_doJump_38 rfl (lv_at hl 0 rfl) ?_
        refine lv_if_eq (tgt := 47) hx hb dX10_doJump_39 (by decide) (fun k14 => absurd k14 (by decide)) (fun _ => ?_)
        refine lv_aload_n hx hb dX10_doJump_42 rfl (lv_at hl 1 rfl) ?_
        refine lv_iload_n hx hb dX10_doJump_43 rfl (lv_at hl 3 rfl) ?_
        refine va_put (D := (dC, dI)) (ci := 13) (fs := oF_X10 ad pr v) (v := .int pb) (ty := .int) (C := RX10) (T := TX10) (N := 17) hx hb ht itX10 tyX10 tyX10_ok nmX10 hown hK hP hD hS 7 rfl rfl 9 (by decide) (ht _ tw_865) (fun _ h9 => h9) rfl (by decide +kernel) rfl rfl (Nat.le_of_ble_eq_true rfl) dX10_doJump_44 (fun H locs hP hD hS => ?_)
        have hP := cP_ (cw_364 ad pr N cI cR L1 L2 v pb) hP
        have hD := cD_ (cw_364 ad pr N cI cR L1 L2 v pb) hD
        refine lv_iload_n hx hb dX10_doJump_47 rfl (lv_at hl 0 rfl) ?_
        refine lv_if_eq (tgt := 62) hx hb dX10_doJump_48 (by decide) (fun k15 => absurd k15 (by decide)) (fun _ => ?_)
        refine lv_iload_n hx hb dX10_doJump_51 rfl (lv_at hl 2 rfl) ?_
        refine lv_bipush (v := 18) hx hb dX10_doJump_52 (by decide) ?_
        refine lv_icmp_ne (tgt := 62) hx hb dX10_doJump_54 (by decide) (fun h16 => ?_) (fun h16 => ?_)
        · have z17 : pa.toInt ≠ (18 : Int) := ne_z rfl (show (18 : Int32).toInt = (18 : Int) by decide) h16
          exact W.vret hx hb hr (fun t ht9 hW => ⟨⟨(wA v 0 364 pb), rfl, ⟨(FC.f (FC.rf _) pb (by decide)), (Or.inr (⟨z8, (Or.inl ⟨z10, (Or.inl ⟨z12, (Or.inl ⟨z17, rfl⟩)⟩)⟩)⟩)), (RS0.w RS0.rf (by decide))⟩, by rw [ht9]; exact hP, hD⟩, hS.F ht9⟩) hS.2.2 dX10_doJump_62
        · have z18 : pa.toInt = (18 : Int) := eq_z rfl (show (18 : Int32).toInt = (18 : Int) by decide) h16
          refine lv_aload_n hx hb dX10_doJump_57 rfl (lv_at hl 1 rfl) ?_
          refine lv_iconst (v := 1) hx hb dX10_doJump_58 (by decide) ?_
          refine va_put (D := (dC, dI)) (ci := 13) (fs := oF_X10 ad pr (wA v 0 364 pb)) (v := .int 1) (ty := .int) (C := RX10) (T := TX10) (N := 17) hx hb ht itX10 tyX10 tyX10_ok nmX10 hown hK hP hD hS 7 rfl rfl 8 (by decide) (ht _ tw_842) (fun _ h9 => h9) rfl (by decide +kernel) rfl rfl (Nat.le_of_ble_eq_true rfl) dX10_doJump_59 (fun H locs hP hD hS => ?_)
          have hP := cP_ (cw_363 ad pr N cI cR L1 L2 (wA v 0 364 pb) 1) hP
          have hD := cD_ (cw_363 ad pr N cI cR L1 L2 (wA v 0 364 pb) 1) hD
          exact W.vret hx hb hr (fun t ht9 hW => ⟨⟨(wA (wA v 0 364 pb) 0 363 1), rfl, ⟨(FC.f (FC.f (FC.rf _) pb (by decide)) 1 (by decide)), (Or.inr (⟨z8, (Or.inl ⟨z10, (Or.inl ⟨z12, (Or.inr (⟨z18, rfl⟩))⟩)⟩)⟩)), (RS0.w (RS0.w RS0.rf (by decide)) (by decide))⟩, by rw [ht9]; exact hP, hD⟩, hS.F ht9⟩) hS.2.2 dX10_doJump_62
      · have z19 : (v.1 0 363).toInt = (0 : Int) := eq_z rfl (show (0 : Int32).toInt = (0 : Int) by decide) h11
        refine lv_iconst (v := 1) hx hb dX10_doJump_24 (by decide) ?_
        refine lv_goto (tgt := 29) hx hb dX10_doJump_25 (by decide) ?_
        refine lv_icmp_ne (tgt := 36) hx hb dX10_doJump_29 (by decide) (fun _ => ?_) (fun k20 => absurd k20 (by decide))
        refine lv_iconst (v := 0) hx hb dX10_doJump_36 (by decide) ?_
        refine lv_istore_n (lv' := [(3, .int 0), (0, .ref (ad 907)), (1, .int pa), (2, .int pb)]) hx hb dX10_doJump_37 rfl hl (by decide) rfl (fun ls hl => ?_)
        refine lv_iload_n hx hb dX10_doJump_38 rfl (lv_at hl 0 rfl) ?_
        refine lv_if_eq (tgt := 47) hx hb dX10_doJump_39 (by decide) (fun _ => ?_) (fun k21 => absurd k21 (by decide))
        refine lv_iload_n hx hb dX10_doJump_47 rfl (lv_at hl 0 rfl) ?_
        refine lv_if_eq (tgt := 62) hx hb dX10_doJump_48 (by decide) (fun _ => ?_) (fun k22 => absurd k22 (by decide))
        exact W.vret hx hb hr (fun t ht9 hW => ⟨⟨v, rfl, ⟨(FC.rf _), (Or.inr (⟨z8, (Or.inl ⟨z10, (Or.inr (⟨z19, rfl⟩))⟩)⟩)), RS0.rf⟩, by rw [ht9]; exact hP, hD⟩, hS.F ht9⟩) hS.2.2 dX10_doJump_62
    · have z23 : pa.toInt = (16 : Int) := eq_z rfl (show (16 : Int32).toInt = (16 : Int) by decide) h9
      refine lv_iconst (v := 1) hx hb dX10_doJump_12 (by decide) ?_
      refine lv_goto (tgt := 17) hx hb dX10_doJump_13 (by decide) ?_
      refine lv_aload_n hx hb dX10_doJump_17 rfl (lv_at hl 0 rfl) ?_
      refine va_get (D := (dC, dI)) (ci := 13) (fs := oF_X10 ad pr v) (v := .int (v.1 0 363)) (C := RX10) (T := TX10) (N := 17) hx hb ht itX10 hown hK hP 7 rfl rfl 8 (by decide) (ht _ tw_842) (fun _ h9 => h9) rfl dX10_doJump_18 ?_
      refine lv_if_ne (tgt := 28) hx hb dX10_doJump_21 (by decide) (fun h24 => ?_) (fun h24 => ?_)
      · have z25 : (v.1 0 363).toInt ≠ (0 : Int) := ne_z rfl (show (0 : Int32).toInt = (0 : Int) by decide) h24
        refine lv_iconst (v := 0) hx hb dX10_doJump_28 (by decide) ?_
        refine lv_icmp_ne (tgt := 36) hx hb dX10_doJump_29 (by decide) (fun _ => ?_) (fun k26 => absurd k26 (by decide))
        refine lv_iconst (v := 0) hx hb dX10_doJump_36 (by decide) ?_
        refine lv_istore_n (lv' := [(3, .int 0), (0, .ref (ad 907)), (1, .int pa), (2, .int pb)]) hx hb dX10_doJump_37 rfl hl (by decide) rfl (fun ls hl => ?_)
        refine lv_iload_n hx hb dX10_doJump_38 rfl (lv_at hl 0 rfl) ?_
        refine lv_if_eq (tgt := 47) hx hb dX10_doJump_39 (by decide) (fun _ => ?_) (fun k27 => absurd k27 (by decide))
        refine lv_iload_n hx hb dX10_doJump_47 rfl (lv_at hl 0 rfl) ?_
        refine lv_if_eq (tgt := 62) hx hb dX10_doJump_48 (by decide) (fun _ => ?_) (fun k28 => absurd k28 (by decide))
        exact W.vret hx hb hr (fun t ht9 hW => ⟨⟨v, rfl, ⟨(FC.rf _), (Or.inr (⟨z8, (Or.inr (⟨z23, (Or.inl ⟨z25, rfl⟩)⟩))⟩)), RS0.rf⟩, by rw [ht9]; exact hP, hD⟩, hS.F ht9⟩) hS.2.2 dX10_doJump_62
      · have z29 : (v.1 0 363).toInt = (0 : Int) := eq_z rfl (show (0 : Int32).toInt = (0 : Int) by decide) h24
        refine lv_iconst (v := 1) hx hb dX10_doJump_24 (by decide) ?_
        refine lv_goto (tgt := 29) hx hb dX10_doJump_25 (by decide) ?_
        refine lv_icmp_ne (tgt := 36) hx hb dX10_doJump_29 (by decide) (fun k30 => absurd k30 (by decide)) (fun _ => ?_)
        refine lv_iconst (v := 1) hx hb dX10_doJump_32 (by decide) ?_
        refine lv_goto (tgt := 37) hx hb dX10_doJump_33 (by decide) ?_
        refine lv_istore_n (lv' := [(3, .int 1), (0, .ref (ad 907)), (1, .int pa), (2, .int pb)]) hx hb dX10_doJump_37 rfl hl (by decide) rfl (fun ls hl => ?_)
        refine lv_iload_n hx hb dX10_doJump_38 rfl (lv_at hl 0 rfl) ?_
        refine lv_if_eq (tgt := 47) hx hb dX10_doJump_39 (by decide) (fun k31 => absurd k31 (by decide)) (fun _ => ?_)
        refine lv_aload_n hx hb dX10_doJump_42 rfl (lv_at hl 1 rfl) ?_
        refine lv_iload_n hx hb dX10_doJump_43 rfl (lv_at hl 3 rfl) ?_
        refine va_put (D := (dC, dI)) (ci := 13) (fs := oF_X10 ad pr v) (v := .int pb) (ty := .int) (C := RX10) (T := TX10) (N := 17) hx hb ht itX10 tyX10 tyX10_ok nmX10 hown hK hP hD hS 7 rfl rfl 9 (by decide) (ht _ tw_865) (fun _ h9 => h9) rfl (by decide +kernel) rfl rfl (Nat.le_of_ble_eq_true rfl) dX10_doJump_44 (fun H locs hP hD hS => ?_)
        have hP := cP_ (cw_364 ad pr N cI cR L1 L2 v pb) hP
        have hD := cD_ (cw_364 ad pr N cI cR L1 L2 v pb) hD
        refine lv_iload_n hx hb dX10_doJump_47 rfl (lv_at hl 0 rfl) ?_
        refine lv_if_eq (tgt := 62) hx hb dX10_doJump_48 (by decide) (fun k32 => absurd k32 (by decide)) (fun _ => ?_)
        refine lv_iload_n hx hb dX10_doJump_51 rfl (lv_at hl 2 rfl) ?_
        refine lv_bipush (v := 18) hx hb dX10_doJump_52 (by decide) ?_
        refine lv_icmp_ne (tgt := 62) hx hb dX10_doJump_54 (by decide) (fun h33 => ?_) (fun h33 => ?_)
        · have z34 : pa.toInt ≠ (18 : Int) := ne_z rfl (show (18 : Int32).toInt = (18 : Int) by decide) h33
          exact W.vret hx hb hr (fun t ht9 hW => ⟨⟨(wA v 0 364 pb), rfl, ⟨(FC.f (FC.rf _) pb (by decide)), (Or.inr (⟨z8, (Or.inr (⟨z23, (Or.inr (⟨z29, z34, rfl⟩))⟩))⟩)), (RS0.w RS0.rf (by decide))⟩, by rw [ht9]; exact hP, hD⟩, hS.F ht9⟩) hS.2.2 dX10_doJump_62
        · have z35 : pa.toInt = (18 : Int) := eq_z rfl (show (18 : Int32).toInt = (18 : Int) by decide) h33
          exact False.elim (om_e194a8dc1a z23 z35)
set_option maxHeartbeats 4000000 in
set_option maxRecDepth 100000 in
theorem c_x_X10_compares (l : Launch) (dC : Nat → ClassId) (dI : Nat → Nat → Nat) (cI cB cZ cJ cR : ClassId) (tb : Nat → Nat) (sz : Nat) (pa : Int32) (pb : Int32) (pc1 : Int32)  : Met l yX10_compares (Cond.code yX10_compares cX10_compares 3 (some .boolean) :: tw_W) ({ frames := 0, cells := 0, slots := 0, locals := 0 }) (pc_ (dC, dI) (tyS cI cB cZ cJ cR) tb [] sz [.int pa, .int pb, .int pc1]) (qi_ (dC, dI) [] sz (fun (r : Int32) (u : Unit) => (Q_x_X10_compares pa pb pc1 r) ∧ (r = 0 ∨ r = 1) ∧ (0 ≤ r.toInt ∧ r.toInt ≤ 1)) (fun (u : Unit) => [])) 0 0 (va_A [] sz) := by
  refine Met.ofW (cc := cX10_compares) (maxL := 3) (ret := (some .boolean)) (by decide) rfl ?_
  intro p e s m args below meth c s₁ B hml hv
  obtain ⟨rfl, hsz, hP, hKK, hD0, hFx⟩ := hv
  have hK := hKK.1
  have hx := B.exec
  have hb := B.bytes
  have hr := B.returns
  have ht : ∀ w ∈ tw_W, w.before _ s = true := fun w h => atoms_spec (ws := Cond.code yX10_compares cX10_compares 3 (some .boolean) :: tw_W) B.pre w (List.mem_cons_of_mem _ h)
  have hown : s.vm.findClass RX10 = some m.cls := findClass_of_methodNamed B.named
  have hlocks := B.notSynchronized
  subst hsz
  unfold qi_
  have hD := hD0.self (sz := s.heap.size)
  generalize hAe : va_A [] s.heap.size = A at hD hFx ⊢
  have hA : ∀ q : Nat, s.heap.size ≤ q → A q := fun q h => by rw [← hAe]; exact Or.inr h
  have hS : va_S A s.heap s.heap [] := va_S.rf
  have hl := lv_entry ([.int pa, .int pb, .int pc1]) (n := 3) (Nat.le_of_ble_eq_true rfl)
  rw [lg_entry_eq]
  generalize (lg_sl ([.int pa, .int pb, .int pc1]) ++ List.replicate (3 - (lg_sl ([.int pa, .int pb, .int pc1])).length) Slot.unset).toArray = ls at hl ⊢
  have hl : lv_has ls 3 [(0, .int pa), (1, .int pb), (2, .int pc1)] := hl
  refine lv_iload_n hx hb dX10_compares_0 rfl (lv_at hl 0 rfl) ?_
  by_cases h1 : pa = 63
  · refine lv_tableIn (off := 35) (tgt := 36) hx hb dX10_compares_1 (by rw [h1]; decide) (by rw [h1]; decide) (by rw [h1]; decide) (by decide) ?_
    refine lv_iload_n hx hb dX10_compares_36 rfl (lv_at hl 1 rfl) ?_
    refine lv_iload_n hx hb dX10_compares_37 rfl (lv_at hl 2 rfl) ?_
    refine lv_icmp_ne (tgt := 45) hx hb dX10_compares_38 (by decide) (fun h2 => ?_) (fun h2 => ?_)
    · have z3 : pb.toInt ≠ pc1.toInt := ne_z rfl rfl h2
      refine lv_iconst (v := 0) hx hb dX10_compares_45 (by decide) ?_
      exact W.zret (v := 0) hx hb hr rfl (fun t ht9 hW => ⟨⟨0, (), rfl, ⟨(Or.inl ⟨h1, (Or.inl ⟨z3, rfl⟩)⟩), ⟨Or.inl rfl, (by decide)⟩⟩, by rw [ht9]; exact hP, hD⟩, hS.F ht9⟩) hS.2.2 dX10_compares_46
    · have z4 : pb.toInt = pc1.toInt := eq_z rfl rfl h2
      refine lv_iconst (v := 1) hx hb dX10_compares_41 (by decide) ?_
      refine lv_goto (tgt := 46) hx hb dX10_compares_42 (by decide) ?_
      exact W.zret (v := 1) hx hb hr rfl (fun t ht9 hW => ⟨⟨1, (), rfl, ⟨(Or.inl ⟨h1, (Or.inr (⟨z4, rfl⟩))⟩), ⟨Or.inr rfl, (by decide)⟩⟩, by rw [ht9]; exact hP, hD⟩, hS.F ht9⟩) hS.2.2 dX10_compares_46
  ·
    by_cases h5 : pa = 64
    · refine lv_tableIn (off := 46) (tgt := 47) hx hb dX10_compares_1 (by rw [h5]; decide) (by rw [h5]; decide) (by rw [h5]; decide) (by decide) ?_
      refine lv_iload_n hx hb dX10_compares_47 rfl (lv_at hl 1 rfl) ?_
      refine lv_iload_n hx hb dX10_compares_48 rfl (lv_at hl 2 rfl) ?_
      refine lv_icmp_eq (tgt := 56) hx hb dX10_compares_49 (by decide) (fun h6 => ?_) (fun h6 => ?_)
      · have z7 : pb.toInt = pc1.toInt := eq_z rfl rfl h6
        refine lv_iconst (v := 0) hx hb dX10_compares_56 (by decide) ?_
        exact W.zret (v := 0) hx hb hr rfl (fun t ht9 hW => ⟨⟨0, (), rfl, ⟨(Or.inr (⟨h1, (Or.inl ⟨h5, (Or.inl ⟨z7, rfl⟩)⟩)⟩)), ⟨Or.inl rfl, (by decide)⟩⟩, by rw [ht9]; exact hP, hD⟩, hS.F ht9⟩) hS.2.2 dX10_compares_57
      · have z8 : pb.toInt ≠ pc1.toInt := ne_z rfl rfl h6
        refine lv_iconst (v := 1) hx hb dX10_compares_52 (by decide) ?_
        refine lv_goto (tgt := 57) hx hb dX10_compares_53 (by decide) ?_
        exact W.zret (v := 1) hx hb hr rfl (fun t ht9 hW => ⟨⟨1, (), rfl, ⟨(Or.inr (⟨h1, (Or.inl ⟨h5, (Or.inr (⟨z8, rfl⟩))⟩)⟩)), ⟨Or.inr rfl, (by decide)⟩⟩, by rw [ht9]; exact hP, hD⟩, hS.F ht9⟩) hS.2.2 dX10_compares_57
    ·
      by_cases h9 : pa = 65
      · refine lv_tableIn (off := 57) (tgt := 58) hx hb dX10_compares_1 (by rw [h9]; decide) (by rw [h9]; decide) (by rw [h9]; decide) (by decide) ?_
        refine lv_iload_n hx hb dX10_compares_58 rfl (lv_at hl 1 rfl) ?_
        refine lv_iload_n hx hb dX10_compares_59 rfl (lv_at hl 2 rfl) ?_
        refine lv_icmp_ge (tgt := 67) hx hb dX10_compares_60 (by decide) (fun h10 => ?_) (fun h10 => ?_)
        · have z11 : pc1.toInt ≤ pb.toInt := le_z rfl rfl h10
          refine lv_iconst (v := 0) hx hb dX10_compares_67 (by decide) ?_
          exact W.zret (v := 0) hx hb hr rfl (fun t ht9 hW => ⟨⟨0, (), rfl, ⟨(Or.inr (⟨h1, (Or.inr (⟨h5, (Or.inl ⟨h9, (Or.inl ⟨z11, rfl⟩)⟩)⟩))⟩)), ⟨Or.inl rfl, (by decide)⟩⟩, by rw [ht9]; exact hP, hD⟩, hS.F ht9⟩) hS.2.2 dX10_compares_68
        · have z12 : pb.toInt < pc1.toInt := nle_z rfl rfl h10
          refine lv_iconst (v := 1) hx hb dX10_compares_63 (by decide) ?_
          refine lv_goto (tgt := 68) hx hb dX10_compares_64 (by decide) ?_
          exact W.zret (v := 1) hx hb hr rfl (fun t ht9 hW => ⟨⟨1, (), rfl, ⟨(Or.inr (⟨h1, (Or.inr (⟨h5, (Or.inl ⟨h9, (Or.inr (⟨z12, rfl⟩))⟩)⟩))⟩)), ⟨Or.inr rfl, (by decide)⟩⟩, by rw [ht9]; exact hP, hD⟩, hS.F ht9⟩) hS.2.2 dX10_compares_68
      ·
        by_cases h13 : pa = 66
        · refine lv_tableIn (off := 68) (tgt := 69) hx hb dX10_compares_1 (by rw [h13]; decide) (by rw [h13]; decide) (by rw [h13]; decide) (by decide) ?_
          refine lv_iload_n hx hb dX10_compares_69 rfl (lv_at hl 1 rfl) ?_
          refine lv_iload_n hx hb dX10_compares_70 rfl (lv_at hl 2 rfl) ?_
          refine lv_icmp_gt (tgt := 78) hx hb dX10_compares_71 (by decide) (fun h14 => ?_) (fun h14 => ?_)
          · have z15 : pc1.toInt < pb.toInt := lt_z rfl rfl h14
            refine lv_iconst (v := 0) hx hb dX10_compares_78 (by decide) ?_
            exact W.zret (v := 0) hx hb hr rfl (fun t ht9 hW => ⟨⟨0, (), rfl, ⟨(Or.inr (⟨h1, (Or.inr (⟨h5, (Or.inr (⟨h9, (Or.inl ⟨h13, (Or.inl ⟨z15, rfl⟩)⟩)⟩))⟩))⟩)), ⟨Or.inl rfl, (by decide)⟩⟩, by rw [ht9]; exact hP, hD⟩, hS.F ht9⟩) hS.2.2 dX10_compares_79
          · have z16 : pb.toInt ≤ pc1.toInt := nlt_z rfl rfl h14
            refine lv_iconst (v := 1) hx hb dX10_compares_74 (by decide) ?_
            refine lv_goto (tgt := 79) hx hb dX10_compares_75 (by decide) ?_
            exact W.zret (v := 1) hx hb hr rfl (fun t ht9 hW => ⟨⟨1, (), rfl, ⟨(Or.inr (⟨h1, (Or.inr (⟨h5, (Or.inr (⟨h9, (Or.inl ⟨h13, (Or.inr (⟨z16, rfl⟩))⟩)⟩))⟩))⟩)), ⟨Or.inr rfl, (by decide)⟩⟩, by rw [ht9]; exact hP, hD⟩, hS.F ht9⟩) hS.2.2 dX10_compares_79
        ·
          by_cases h17 : pa = 67
          · refine lv_tableIn (off := 79) (tgt := 80) hx hb dX10_compares_1 (by rw [h17]; decide) (by rw [h17]; decide) (by rw [h17]; decide) (by decide) ?_
            refine lv_iload_n hx hb dX10_compares_80 rfl (lv_at hl 1 rfl) ?_
            refine lv_iload_n hx hb dX10_compares_81 rfl (lv_at hl 2 rfl) ?_
            refine lv_icmp_le (tgt := 89) hx hb dX10_compares_82 (by decide) (fun h18 => ?_) (fun h18 => ?_)
            · have z19 : pb.toInt ≤ pc1.toInt := le_z rfl rfl h18
              refine lv_iconst (v := 0) hx hb dX10_compares_89 (by decide) ?_
              exact W.zret (v := 0) hx hb hr rfl (fun t ht9 hW => ⟨⟨0, (), rfl, ⟨(Or.inr (⟨h1, (Or.inr (⟨h5, (Or.inr (⟨h9, (Or.inr (⟨h13, (Or.inl ⟨h17, (Or.inl ⟨z19, rfl⟩)⟩)⟩))⟩))⟩))⟩)), ⟨Or.inl rfl, (by decide)⟩⟩, by rw [ht9]; exact hP, hD⟩, hS.F ht9⟩) hS.2.2 dX10_compares_90
            · have z20 : pc1.toInt < pb.toInt := nle_z rfl rfl h18
              refine lv_iconst (v := 1) hx hb dX10_compares_85 (by decide) ?_
              refine lv_goto (tgt := 90) hx hb dX10_compares_86 (by decide) ?_
              exact W.zret (v := 1) hx hb hr rfl (fun t ht9 hW => ⟨⟨1, (), rfl, ⟨(Or.inr (⟨h1, (Or.inr (⟨h5, (Or.inr (⟨h9, (Or.inr (⟨h13, (Or.inl ⟨h17, (Or.inr (⟨z20, rfl⟩))⟩)⟩))⟩))⟩))⟩)), ⟨Or.inr rfl, (by decide)⟩⟩, by rw [ht9]; exact hP, hD⟩, hS.F ht9⟩) hS.2.2 dX10_compares_90
          ·
            refine lv_tableOut (tgt := 91) hx hb dX10_compares_1 (by have := lv_neT h1 (a := 63) (by decide); have := lv_neT h5 (a := 64) (by decide); have := lv_neT h9 (a := 65) (by decide); have := lv_neT h13 (a := 66) (by decide); have := lv_neT h17 (a := 67) (by decide); omega) (by decide) ?_
            refine lv_iload_n hx hb dX10_compares_91 rfl (lv_at hl 1 rfl) ?_
            refine lv_iload_n hx hb dX10_compares_92 rfl (lv_at hl 2 rfl) ?_
            refine lv_icmp_lt (tgt := 100) hx hb dX10_compares_93 (by decide) (fun h21 => ?_) (fun h21 => ?_)
            · have z22 : pb.toInt < pc1.toInt := lt_z rfl rfl h21
              refine lv_iconst (v := 0) hx hb dX10_compares_100 (by decide) ?_
              exact W.zret (v := 0) hx hb hr rfl (fun t ht9 hW => ⟨⟨0, (), rfl, ⟨(Or.inr (⟨h1, (Or.inr (⟨h5, (Or.inr (⟨h9, (Or.inr (⟨h13, (Or.inr (⟨h17, (Or.inl ⟨z22, rfl⟩)⟩))⟩))⟩))⟩))⟩)), ⟨Or.inl rfl, (by decide)⟩⟩, by rw [ht9]; exact hP, hD⟩, hS.F ht9⟩) hS.2.2 dX10_compares_101
            · have z23 : pc1.toInt ≤ pb.toInt := nlt_z rfl rfl h21
              refine lv_iconst (v := 1) hx hb dX10_compares_96 (by decide) ?_
              refine lv_goto (tgt := 101) hx hb dX10_compares_97 (by decide) ?_
              exact W.zret (v := 1) hx hb hr rfl (fun t ht9 hW => ⟨⟨1, (), rfl, ⟨(Or.inr (⟨h1, (Or.inr (⟨h5, (Or.inr (⟨h9, (Or.inr (⟨h13, (Or.inr (⟨h17, (Or.inr (⟨z23, rfl⟩))⟩))⟩))⟩))⟩))⟩)), ⟨Or.inr rfl, (by decide)⟩⟩, by rw [ht9]; exact hP, hD⟩, hS.F ht9⟩) hS.2.2 dX10_compares_101
theorem om_cb2fc824e3 {x0 : Int} (h0 : x0 ≠ (0 : Int)) : x0 ≠ 0 := by omega
set_option maxHeartbeats 4000000 in
set_option maxRecDepth 100000 in
theorem c_x_X10_divide (l : Launch) (dC : Nat → ClassId) (dI : Nat → Nat → Nat) (cI cB cZ cJ cR : ClassId) (tb : Nat → Nat) (sz : Nat) (ad : Nat → Nat) (pr : Int32 → Nat) (N : Nat) (L1 L2 : List Nat) (v : MS) (pa : Int32) (pb : Int32)  : Met l yX10_divide (Cond.code yX10_divide cX10_divide 3 none :: tw_W) ({ frames := 0, cells := 0, slots := 0, locals := 0 }) (pc_ (dC, dI) (tyS cI cB cZ cJ cR) tb (cW ad pr N cI cR L1 L2 v) sz [.ref (ad 907), .int pa, .int pb]) (qv_ (dC, dI) (cW ad pr N cI cR L1 L2 v) sz (fun (u : MS) => FC [362, 363] [0] v u ∧ (Q_x_X10_divide L1 L2 v pa pb u) ∧ (RS0 v u)) (fun (u : MS) => (cW ad pr N cI cR L1 L2 u))) 0 0 (va_A (cW ad pr N cI cR L1 L2 v) sz) := by
  refine Met.ofW (cc := cX10_divide) (maxL := 3) (ret := none) (by decide) rfl ?_
  intro p e s m args below meth c s₁ B hml hv
  obtain ⟨rfl, hsz, hP, hKK, hD0, hFx⟩ := hv
  have hK := hKK.1
  have hx := B.exec
  have hb := B.bytes
  have hr := B.returns
  have ht : ∀ w ∈ tw_W, w.before _ s = true := fun w h => atoms_spec (ws := Cond.code yX10_divide cX10_divide 3 none :: tw_W) B.pre w (List.mem_cons_of_mem _ h)
  have hown : s.vm.findClass RX10 = some m.cls := findClass_of_methodNamed B.named
  have hlocks := B.notSynchronized
  subst hsz
  unfold qv_
  have hD := hD0.self (sz := s.heap.size)
  generalize hAe : va_A (cW ad pr N cI cR L1 L2 v) s.heap.size = A at hD hFx ⊢
  have hA : ∀ q : Nat, s.heap.size ≤ q → A q := fun q h => by rw [← hAe]; exact Or.inr h
  have hS : va_S A s.heap s.heap [] := va_S.rf
  have hl := lv_entry ([.ref (ad 907), .int pa, .int pb]) (n := 3) (Nat.le_of_ble_eq_true rfl)
  rw [lg_entry_eq]
  generalize (lg_sl ([.ref (ad 907), .int pa, .int pb]) ++ List.replicate (3 - (lg_sl ([.ref (ad 907), .int pa, .int pb])).length) Slot.unset).toArray = ls at hl ⊢
  have hl : lv_has ls 3 [(0, .ref (ad 907)), (1, .int pa), (2, .int pb)] := hl
  refine lv_aload_n hx hb dX10_divide_0 rfl (lv_at hl 0 rfl) ?_
  refine va_get (D := (dC, dI)) (ci := 13) (fs := oF_X10 ad pr v) (v := .int (v.1 0 363)) (C := RX10) (T := TX10) (N := 17) hx hb ht itX10 hown hK hP 7 rfl rfl 8 (by decide) (ht _ tw_842) (fun _ h9 => h9) rfl dX10_divide_1 ?_
  refine lv_if_ne (tgt := 15) hx hb dX10_divide_4 (by decide) (fun h1 => ?_) (fun h1 => ?_)
  · have z2 : (v.1 0 363).toInt ≠ (0 : Int) := ne_z rfl (show (0 : Int32).toInt = (0 : Int) by decide) h1
    refine lv_aload_n hx hb dX10_divide_15 rfl (lv_at hl 0 rfl) ?_
    refine lv_iload_n hx hb dX10_divide_16 rfl (lv_at hl 1 rfl) ?_
    refine lv_if_eq (tgt := 29) hx hb dX10_divide_17 (by decide) (fun h3 => ?_) (fun h3 => ?_)
    · have z4 : pa.toInt = (0 : Int) := eq_z rfl (show (0 : Int32).toInt = (0 : Int) by decide) h3
      refine lv_iload_n hx hb dX10_divide_29 rfl (lv_at hl 2 rfl) ?_
      refine lv_aload_n hx hb dX10_divide_30 rfl (lv_at hl 0 rfl) ?_
      refine va_get (D := (dC, dI)) (ci := 13) (fs := oF_X10 ad pr v) (v := .int (v.1 0 363)) (C := RX10) (T := TX10) (N := 17) hx hb ht itX10 hown hK hP 7 rfl rfl 8 (by decide) (ht _ tw_842) (fun _ h9 => h9) rfl dX10_divide_31 ?_
      refine lv_irem hx hb dX10_divide_34 (ne0_z (om_cb2fc824e3 z2)) ?_
      refine va_put (D := (dC, dI)) (ci := 13) (fs := oF_X10 ad pr v) (v := .int (pb - pb / (v.1 0 363) * (v.1 0 363))) (ty := .int) (C := RX10) (T := TX10) (N := 17) hx hb ht itX10 tyX10 tyX10_ok nmX10 hown hK hP hD hS 7 rfl rfl 8 (by decide) (ht _ tw_842) (fun _ h9 => h9) rfl (by decide +kernel) rfl rfl (Nat.le_of_ble_eq_true rfl) dX10_divide_35 (fun H locs hP hD hS => ?_)
      have hP := cP_ (cw_363 ad pr N cI cR L1 L2 v (pb - pb / (v.1 0 363) * (v.1 0 363))) hP
      have hD := cD_ (cw_363 ad pr N cI cR L1 L2 v (pb - pb / (v.1 0 363) * (v.1 0 363))) hD
      exact W.vret hx hb hr (fun t ht9 hW => ⟨⟨(wA v 0 363 (pb - pb / (v.1 0 363) * (v.1 0 363))), rfl, ⟨(FC.f (FC.rf _) (pb - pb / (v.1 0 363) * (v.1 0 363)) (by decide)), (Or.inl ⟨z2, (Or.inl ⟨z4, rfl⟩)⟩), (RS0.w RS0.rf (by decide))⟩, by rw [ht9]; exact hP, hD⟩, hS.F ht9⟩) hS.2.2 dX10_divide_38
    · have z5 : pa.toInt ≠ (0 : Int) := ne_z rfl (show (0 : Int32).toInt = (0 : Int) by decide) h3
      refine lv_iload_n hx hb dX10_divide_20 rfl (lv_at hl 2 rfl) ?_
      refine lv_aload_n hx hb dX10_divide_21 rfl (lv_at hl 0 rfl) ?_
      refine va_get (D := (dC, dI)) (ci := 13) (fs := oF_X10 ad pr v) (v := .int (v.1 0 363)) (C := RX10) (T := TX10) (N := 17) hx hb ht itX10 hown hK hP 7 rfl rfl 8 (by decide) (ht _ tw_842) (fun _ h9 => h9) rfl dX10_divide_22 ?_
      refine lv_idiv hx hb dX10_divide_25 (ne0_z (om_cb2fc824e3 z2)) ?_
      refine lv_goto (tgt := 35) hx hb dX10_divide_26 (by decide) ?_
      refine va_put (D := (dC, dI)) (ci := 13) (fs := oF_X10 ad pr v) (v := .int (pb / (v.1 0 363))) (ty := .int) (C := RX10) (T := TX10) (N := 17) hx hb ht itX10 tyX10 tyX10_ok nmX10 hown hK hP hD hS 7 rfl rfl 8 (by decide) (ht _ tw_842) (fun _ h9 => h9) rfl (by decide +kernel) rfl rfl (Nat.le_of_ble_eq_true rfl) dX10_divide_35 (fun H locs hP hD hS => ?_)
      have hP := cP_ (cw_363 ad pr N cI cR L1 L2 v (pb / (v.1 0 363))) hP
      have hD := cD_ (cw_363 ad pr N cI cR L1 L2 v (pb / (v.1 0 363))) hD
      exact W.vret hx hb hr (fun t ht9 hW => ⟨⟨(wA v 0 363 (pb / (v.1 0 363))), rfl, ⟨(FC.f (FC.rf _) (pb / (v.1 0 363)) (by decide)), (Or.inl ⟨z2, (Or.inr (⟨z5, rfl⟩))⟩), (RS0.w RS0.rf (by decide))⟩, by rw [ht9]; exact hP, hD⟩, hS.F ht9⟩) hS.2.2 dX10_divide_38
  · have z6 : (v.1 0 363).toInt = (0 : Int) := eq_z rfl (show (0 : Int32).toInt = (0 : Int) by decide) h1
    refine lv_aload_n hx hb dX10_divide_7 rfl (lv_at hl 0 rfl) ?_
    refine lv_iconst (v := 2) hx hb dX10_divide_8 (by decide) ?_
    refine va_put (D := (dC, dI)) (ci := 13) (fs := oF_X10 ad pr v) (v := .int 2) (ty := .int) (C := RX10) (T := TX10) (N := 17) hx hb ht itX10 tyX10 tyX10_ok nmX10 hown hK hP hD hS 7 rfl rfl 7 (by decide) (ht _ tw_841) (fun _ h9 => h9) rfl (by decide +kernel) rfl rfl (Nat.le_of_ble_eq_true rfl) dX10_divide_9 (fun H locs hP hD hS => ?_)
    have hP := cP_ (cw_362 ad pr N cI cR L1 L2 v 2) hP
    have hD := cD_ (cw_362 ad pr N cI cR L1 L2 v 2) hD
    refine lv_goto (tgt := 38) hx hb dX10_divide_12 (by decide) ?_
    exact W.vret hx hb hr (fun t ht9 hW => ⟨⟨(wA v 0 362 2), rfl, ⟨(FC.f (FC.rf _) 2 (by decide)), (Or.inr (⟨z6, rfl⟩)), (RS0.w RS0.rf (by decide))⟩, by rw [ht9]; exact hP, hD⟩, hS.F ht9⟩) hS.2.2 dX10_divide_38
theorem om_df7832b970 {x0 : Int} (h0 : x0 = (56 : Int)) (h1 : x0 ≠ (56 : Int)) : False := by omega
theorem om_39f7abe034 {x0 : Int} (h0 : x0 = (57 : Int)) (h1 : x0 = (56 : Int)) : False := by omega
set_option maxHeartbeats 4000000 in
set_option maxRecDepth 100000 in
theorem c_x_X10_join (l : Launch) (dC : Nat → ClassId) (dI : Nat → Nat → Nat) (cI cB cZ cJ cR : ClassId) (tb : Nat → Nat) (sz : Nat) (ad : Nat → Nat) (pr : Int32 → Nat) (N : Nat) (L1 L2 : List Nat) (v : MS) (pa : Int32) (pb : Int32)  : Met l yX10_join (Cond.code yX10_join cX10_join 3 none :: tw_W) ({ frames := 1, cells := 0, slots := 0, locals := 22 }) (pc_ (dC, dI) (tyS cI cB cZ cJ cR) tb (cW ad pr N cI cR L1 L2 v) sz [.ref (ad 907), .int pa, .int pb]) (qv_ (dC, dI) (cW ad pr N cI cR L1 L2 v) sz (fun (u : MS) => FC [362, 363] [0] v u ∧ (Q_x_X10_join L1 L2 N v pa pb u) ∧ (RS0 v u)) (fun (u : MS) => (cW ad pr N cI cR L1 L2 u))) 0 0 (va_A (cW ad pr N cI cR L1 L2 v) sz) := by
  refine Met.ofW (cc := cX10_join) (maxL := 3) (ret := none) (by decide) rfl ?_
  intro p e s m args below meth c s₁ B hml hv
  obtain ⟨rfl, hsz, hP, hKK, hD0, hFx⟩ := hv
  have hK := hKK.1
  have hx := B.exec
  have hb := B.bytes
  have hr := B.returns
  have ht : ∀ w ∈ tw_W, w.before _ s = true := fun w h => atoms_spec (ws := Cond.code yX10_join cX10_join 3 none :: tw_W) B.pre w (List.mem_cons_of_mem _ h)
  have hown : s.vm.findClass RX10 = some m.cls := findClass_of_methodNamed B.named
  have hlocks := B.notSynchronized
  subst hsz
  unfold qv_
  have hD := hD0.self (sz := s.heap.size)
  generalize hAe : va_A (cW ad pr N cI cR L1 L2 v) s.heap.size = A at hD hFx ⊢
  have hA : ∀ q : Nat, s.heap.size ≤ q → A q := fun q h => by rw [← hAe]; exact Or.inr h
  have hS : va_S A s.heap s.heap [] := va_S.rf
  have hl := lv_entry ([.ref (ad 907), .int pa, .int pb]) (n := 3) (Nat.le_of_ble_eq_true rfl)
  rw [lg_entry_eq]
  generalize (lg_sl ([.ref (ad 907), .int pa, .int pb]) ++ List.replicate (3 - (lg_sl ([.ref (ad 907), .int pa, .int pb])).length) Slot.unset).toArray = ls at hl ⊢
  have hl : lv_has ls 3 [(0, .ref (ad 907)), (1, .int pa), (2, .int pb)] := hl
  refine lv_iload_n hx hb dX10_join_0 rfl (lv_at hl 1 rfl) ?_
  by_cases h1 : pa = 53
  · refine lv_tableIn (off := 55) (tgt := 56) hx hb dX10_join_1 (by rw [h1]; decide) (by rw [h1]; decide) (by rw [h1]; decide) (by decide) ?_
    have z2 : pa.toInt = (53 : Int) := eq_z rfl (show (53 : Int32).toInt = (53 : Int) by decide) h1
    refine lv_aload_n hx hb dX10_join_56 rfl (lv_at hl 0 rfl) ?_
    refine lv_iload_n hx hb dX10_join_57 rfl (lv_at hl 2 rfl) ?_
    refine lv_aload_n hx hb dX10_join_58 rfl (lv_at hl 0 rfl) ?_
    refine va_get (D := (dC, dI)) (ci := 13) (fs := oF_X10 ad pr v) (v := .int (v.1 0 363)) (C := RX10) (T := TX10) (N := 17) hx hb ht itX10 hown hK hP 7 rfl rfl 8 (by decide) (ht _ tw_842) (fun _ h9 => h9) rfl dX10_join_59 ?_
    refine lv_iadd hx hb dX10_join_62 ?_
    refine va_put (D := (dC, dI)) (ci := 13) (fs := oF_X10 ad pr v) (v := .int (pb + (v.1 0 363))) (ty := .int) (C := RX10) (T := TX10) (N := 17) hx hb ht itX10 tyX10 tyX10_ok nmX10 hown hK hP hD hS 7 rfl rfl 8 (by decide) (ht _ tw_842) (fun _ h9 => h9) rfl (by decide +kernel) rfl rfl (Nat.le_of_ble_eq_true rfl) dX10_join_63 (fun H locs hP hD hS => ?_)
    have hP := cP_ (cw_363 ad pr N cI cR L1 L2 v (pb + (v.1 0 363))) hP
    have hD := cD_ (cw_363 ad pr N cI cR L1 L2 v (pb + (v.1 0 363))) hD
    refine lv_goto (tgt := 200) hx hb dX10_join_66 (by decide) ?_
    exact W.vret hx hb hr (fun t ht9 hW => ⟨⟨(wA v 0 363 (pb + (v.1 0 363))), rfl, ⟨(FC.f (FC.rf _) (pb + (v.1 0 363)) (by decide)), (Or.inl ⟨h1, rfl⟩), (RS0.w RS0.rf (by decide))⟩, by rw [ht9]; exact hP, hD⟩, hS.F ht9⟩) hS.2.2 dX10_join_200
  ·
    have z3 : pa.toInt ≠ (53 : Int) := ne_z rfl (show (53 : Int32).toInt = (53 : Int) by decide) h1
    by_cases h4 : pa = 54
    · refine lv_tableIn (off := 68) (tgt := 69) hx hb dX10_join_1 (by rw [h4]; decide) (by rw [h4]; decide) (by rw [h4]; decide) (by decide) ?_
      have z5 : pa.toInt = (54 : Int) := eq_z rfl (show (54 : Int32).toInt = (54 : Int) by decide) h4
      refine lv_aload_n hx hb dX10_join_69 rfl (lv_at hl 0 rfl) ?_
      refine lv_iload_n hx hb dX10_join_70 rfl (lv_at hl 2 rfl) ?_
      refine lv_aload_n hx hb dX10_join_71 rfl (lv_at hl 0 rfl) ?_
      refine va_get (D := (dC, dI)) (ci := 13) (fs := oF_X10 ad pr v) (v := .int (v.1 0 363)) (C := RX10) (T := TX10) (N := 17) hx hb ht itX10 hown hK hP 7 rfl rfl 8 (by decide) (ht _ tw_842) (fun _ h9 => h9) rfl dX10_join_72 ?_
      refine lv_isub hx hb dX10_join_75 ?_
      refine va_put (D := (dC, dI)) (ci := 13) (fs := oF_X10 ad pr v) (v := .int (pb - (v.1 0 363))) (ty := .int) (C := RX10) (T := TX10) (N := 17) hx hb ht itX10 tyX10 tyX10_ok nmX10 hown hK hP hD hS 7 rfl rfl 8 (by decide) (ht _ tw_842) (fun _ h9 => h9) rfl (by decide +kernel) rfl rfl (Nat.le_of_ble_eq_true rfl) dX10_join_76 (fun H locs hP hD hS => ?_)
      have hP := cP_ (cw_363 ad pr N cI cR L1 L2 v (pb - (v.1 0 363))) hP
      have hD := cD_ (cw_363 ad pr N cI cR L1 L2 v (pb - (v.1 0 363))) hD
      refine lv_goto (tgt := 200) hx hb dX10_join_79 (by decide) ?_
      exact W.vret hx hb hr (fun t ht9 hW => ⟨⟨(wA v 0 363 (pb - (v.1 0 363))), rfl, ⟨(FC.f (FC.rf _) (pb - (v.1 0 363)) (by decide)), (Or.inr (⟨h1, (Or.inl ⟨h4, rfl⟩)⟩)), (RS0.w RS0.rf (by decide))⟩, by rw [ht9]; exact hP, hD⟩, hS.F ht9⟩) hS.2.2 dX10_join_200
    ·
      have z6 : pa.toInt ≠ (54 : Int) := ne_z rfl (show (54 : Int32).toInt = (54 : Int) by decide) h4
      by_cases h7 : pa = 55
      · refine lv_tableIn (off := 81) (tgt := 82) hx hb dX10_join_1 (by rw [h7]; decide) (by rw [h7]; decide) (by rw [h7]; decide) (by decide) ?_
        have z8 : pa.toInt = (55 : Int) := eq_z rfl (show (55 : Int32).toInt = (55 : Int) by decide) h7
        refine lv_aload_n hx hb dX10_join_82 rfl (lv_at hl 0 rfl) ?_
        refine lv_iload_n hx hb dX10_join_83 rfl (lv_at hl 2 rfl) ?_
        refine lv_aload_n hx hb dX10_join_84 rfl (lv_at hl 0 rfl) ?_
        refine va_get (D := (dC, dI)) (ci := 13) (fs := oF_X10 ad pr v) (v := .int (v.1 0 363)) (C := RX10) (T := TX10) (N := 17) hx hb ht itX10 hown hK hP 7 rfl rfl 8 (by decide) (ht _ tw_842) (fun _ h9 => h9) rfl dX10_join_85 ?_
        refine lv_imul hx hb dX10_join_88 ?_
        refine va_put (D := (dC, dI)) (ci := 13) (fs := oF_X10 ad pr v) (v := .int (pb * (v.1 0 363))) (ty := .int) (C := RX10) (T := TX10) (N := 17) hx hb ht itX10 tyX10 tyX10_ok nmX10 hown hK hP hD hS 7 rfl rfl 8 (by decide) (ht _ tw_842) (fun _ h9 => h9) rfl (by decide +kernel) rfl rfl (Nat.le_of_ble_eq_true rfl) dX10_join_89 (fun H locs hP hD hS => ?_)
        have hP := cP_ (cw_363 ad pr N cI cR L1 L2 v (pb * (v.1 0 363))) hP
        have hD := cD_ (cw_363 ad pr N cI cR L1 L2 v (pb * (v.1 0 363))) hD
        refine lv_goto (tgt := 200) hx hb dX10_join_92 (by decide) ?_
        exact W.vret hx hb hr (fun t ht9 hW => ⟨⟨(wA v 0 363 (pb * (v.1 0 363))), rfl, ⟨(FC.f (FC.rf _) (pb * (v.1 0 363)) (by decide)), (Or.inr (⟨h1, (Or.inr (⟨h4, (Or.inl ⟨h7, rfl⟩)⟩))⟩)), (RS0.w RS0.rf (by decide))⟩, by rw [ht9]; exact hP, hD⟩, hS.F ht9⟩) hS.2.2 dX10_join_200
      ·
        have z9 : pa.toInt ≠ (55 : Int) := ne_z rfl (show (55 : Int32).toInt = (55 : Int) by decide) h7
        by_cases h10 : pa = 56
        · refine lv_tableIn (off := 94) (tgt := 95) hx hb dX10_join_1 (by rw [h10]; decide) (by rw [h10]; decide) (by rw [h10]; decide) (by decide) ?_
          have z11 : pa.toInt = (56 : Int) := eq_z rfl (show (56 : Int32).toInt = (56 : Int) by decide) h10
          refine lv_aload_n hx hb dX10_join_95 rfl (lv_at hl 0 rfl) ?_
          refine lv_iload_n hx hb dX10_join_96 rfl (lv_at hl 1 rfl) ?_
          refine lv_bipush (v := 56) hx hb dX10_join_97 (by decide) ?_
          refine lv_icmp_ne (tgt := 106) hx hb dX10_join_99 (by decide) (fun h12 => ?_) (fun h12 => ?_)
          · have z13 : pa.toInt ≠ (56 : Int) := ne_z rfl (show (56 : Int32).toInt = (56 : Int) by decide) h12
            exact False.elim (om_df7832b970 z11 z13)
          · have z14 : pa.toInt = (56 : Int) := eq_z rfl (show (56 : Int32).toInt = (56 : Int) by decide) h12
            refine lv_iconst (v := 1) hx hb dX10_join_102 (by decide) ?_
            refine lv_goto (tgt := 107) hx hb dX10_join_103 (by decide) ?_
            refine lv_iload_n hx hb dX10_join_107 rfl (lv_at hl 2 rfl) ?_
            refine cu_v (rn_Vk (n := 2) (As := [.int 1, .int pb]) (rest := []) hx hb hml hown ht hKK hFx hP hD hS hA (c_x_X10_divide l dC dI cI cB cZ cJ cR tb s.heap.size ad pr N L1 L2 v (1 : Int32) pb ) tw_874 tw_875 (by decide +kernel) rfl rfl ⟨Nat.le_of_ble_eq_true rfl, Nat.le_of_ble_eq_true rfl⟩ (List.range (cW ad pr N cI cR L1 L2 v).length) (rg_map _) (nd_range _) 7 rfl rfl rfl rfl hl.1 rfl (Nat.le_of_ble_eq_true rfl) dX10_join_108 ⟨Nat.le_of_ble_eq_true rfl, Nat.le_of_ble_eq_true rfl⟩) hP hD hS hA (fun u16 H locs hw15 hP hD hS => ?_)
            obtain ⟨fr15, ex15, rs15⟩ := hw15
            refine W.widen (k := 0) (n := 0) (Nat.le_refl _) (Nat.le_refl _) ?_
            refine lv_goto (tgt := 200) hx hb dX10_join_111 (by decide) ?_
            exact W.vret hx hb hr (fun t ht9 hW => ⟨⟨u16, rfl, ⟨(FC.tr (FC.rf _) (FC.up fr15 (by decide) (by decide))), (Or.inr (⟨h1, (Or.inr (⟨h4, (Or.inr (⟨h7, (Or.inl ⟨h10, z14, u16, ex15, ⟨fr15, rs15⟩, rfl⟩)⟩))⟩))⟩)), (RS0.tr RS0.rf rs15)⟩, by rw [ht9]; exact hP, hD⟩, hS.F ht9⟩) hS.2.2 dX10_join_200
        ·
          have z18 : pa.toInt ≠ (56 : Int) := ne_z rfl (show (56 : Int32).toInt = (56 : Int) by decide) h10
          by_cases h19 : pa = 57
          · refine lv_tableIn (off := 94) (tgt := 95) hx hb dX10_join_1 (by rw [h19]; decide) (by rw [h19]; decide) (by rw [h19]; decide) (by decide) ?_
            have z20 : pa.toInt = (57 : Int) := eq_z rfl (show (57 : Int32).toInt = (57 : Int) by decide) h19
            refine lv_aload_n hx hb dX10_join_95 rfl (lv_at hl 0 rfl) ?_
            refine lv_iload_n hx hb dX10_join_96 rfl (lv_at hl 1 rfl) ?_
            refine lv_bipush (v := 56) hx hb dX10_join_97 (by decide) ?_
            refine lv_icmp_ne (tgt := 106) hx hb dX10_join_99 (by decide) (fun h21 => ?_) (fun h21 => ?_)
            · have z22 : pa.toInt ≠ (56 : Int) := ne_z rfl (show (56 : Int32).toInt = (56 : Int) by decide) h21
              refine lv_iconst (v := 0) hx hb dX10_join_106 (by decide) ?_
              refine lv_iload_n hx hb dX10_join_107 rfl (lv_at hl 2 rfl) ?_
              refine cu_v (rn_Vk (n := 2) (As := [.int 0, .int pb]) (rest := []) hx hb hml hown ht hKK hFx hP hD hS hA (c_x_X10_divide l dC dI cI cB cZ cJ cR tb s.heap.size ad pr N L1 L2 v (0 : Int32) pb ) tw_874 tw_875 (by decide +kernel) rfl rfl ⟨Nat.le_of_ble_eq_true rfl, Nat.le_of_ble_eq_true rfl⟩ (List.range (cW ad pr N cI cR L1 L2 v).length) (rg_map _) (nd_range _) 7 rfl rfl rfl rfl hl.1 rfl (Nat.le_of_ble_eq_true rfl) dX10_join_108 ⟨Nat.le_of_ble_eq_true rfl, Nat.le_of_ble_eq_true rfl⟩) hP hD hS hA (fun u24 H locs hw23 hP hD hS => ?_)
              obtain ⟨fr23, ex23, rs23⟩ := hw23
              refine W.widen (k := 0) (n := 0) (Nat.le_refl _) (Nat.le_refl _) ?_
              refine lv_goto (tgt := 200) hx hb dX10_join_111 (by decide) ?_
              exact W.vret hx hb hr (fun t ht9 hW => ⟨⟨u24, rfl, ⟨(FC.tr (FC.rf _) (FC.up fr23 (by decide) (by decide))), (Or.inr (⟨h1, (Or.inr (⟨h4, (Or.inr (⟨h7, (Or.inr (⟨h10, (Or.inl ⟨h19, z22, u24, ex23, ⟨fr23, rs23⟩, rfl⟩)⟩))⟩))⟩))⟩)), (RS0.tr RS0.rf rs23)⟩, by rw [ht9]; exact hP, hD⟩, hS.F ht9⟩) hS.2.2 dX10_join_200
            · have z26 : pa.toInt = (56 : Int) := eq_z rfl (show (56 : Int32).toInt = (56 : Int) by decide) h21
              exact False.elim (om_39f7abe034 z20 z26)
          ·
            have z27 : pa.toInt ≠ (57 : Int) := ne_z rfl (show (57 : Int32).toInt = (57 : Int) by decide) h19
            by_cases h28 : pa = 58
            · refine lv_tableIn (off := 113) (tgt := 114) hx hb dX10_join_1 (by rw [h28]; decide) (by rw [h28]; decide) (by rw [h28]; decide) (by decide) ?_
              have z29 : pa.toInt = (58 : Int) := eq_z rfl (show (58 : Int32).toInt = (58 : Int) by decide) h28
              refine lv_aload_n hx hb dX10_join_114 rfl (lv_at hl 0 rfl) ?_
              refine lv_iload_n hx hb dX10_join_115 rfl (lv_at hl 2 rfl) ?_
              refine lv_aload_n hx hb dX10_join_116 rfl (lv_at hl 0 rfl) ?_
              refine va_get (D := (dC, dI)) (ci := 13) (fs := oF_X10 ad pr v) (v := .int (v.1 0 363)) (C := RX10) (T := TX10) (N := 17) hx hb ht itX10 hown hK hP 7 rfl rfl 8 (by decide) (ht _ tw_842) (fun _ h9 => h9) rfl dX10_join_117 ?_
              refine lv_iand hx hb dX10_join_120 ?_
              refine va_put (D := (dC, dI)) (ci := 13) (fs := oF_X10 ad pr v) (v := .int (pb &&& (v.1 0 363))) (ty := .int) (C := RX10) (T := TX10) (N := 17) hx hb ht itX10 tyX10 tyX10_ok nmX10 hown hK hP hD hS 7 rfl rfl 8 (by decide) (ht _ tw_842) (fun _ h9 => h9) rfl (by decide +kernel) rfl rfl (Nat.le_of_ble_eq_true rfl) dX10_join_121 (fun H locs hP hD hS => ?_)
              have hP := cP_ (cw_363 ad pr N cI cR L1 L2 v (pb &&& (v.1 0 363))) hP
              have hD := cD_ (cw_363 ad pr N cI cR L1 L2 v (pb &&& (v.1 0 363))) hD
              refine lv_goto (tgt := 200) hx hb dX10_join_124 (by decide) ?_
              exact W.vret hx hb hr (fun t ht9 hW => ⟨⟨(wA v 0 363 (pb &&& (v.1 0 363))), rfl, ⟨(FC.f (FC.rf _) (pb &&& (v.1 0 363)) (by decide)), (Or.inr (⟨h1, (Or.inr (⟨h4, (Or.inr (⟨h7, (Or.inr (⟨h10, (Or.inr (⟨h19, (Or.inl ⟨h28, rfl⟩)⟩))⟩))⟩))⟩))⟩)), (RS0.w RS0.rf (by decide))⟩, by rw [ht9]; exact hP, hD⟩, hS.F ht9⟩) hS.2.2 dX10_join_200
            ·
              have z30 : pa.toInt ≠ (58 : Int) := ne_z rfl (show (58 : Int32).toInt = (58 : Int) by decide) h28
              by_cases h31 : pa = 59
              · refine lv_tableIn (off := 126) (tgt := 127) hx hb dX10_join_1 (by rw [h31]; decide) (by rw [h31]; decide) (by rw [h31]; decide) (by decide) ?_
                have z32 : pa.toInt = (59 : Int) := eq_z rfl (show (59 : Int32).toInt = (59 : Int) by decide) h31
                refine lv_aload_n hx hb dX10_join_127 rfl (lv_at hl 0 rfl) ?_
                refine lv_iload_n hx hb dX10_join_128 rfl (lv_at hl 2 rfl) ?_
                refine lv_aload_n hx hb dX10_join_129 rfl (lv_at hl 0 rfl) ?_
                refine va_get (D := (dC, dI)) (ci := 13) (fs := oF_X10 ad pr v) (v := .int (v.1 0 363)) (C := RX10) (T := TX10) (N := 17) hx hb ht itX10 hown hK hP 7 rfl rfl 8 (by decide) (ht _ tw_842) (fun _ h9 => h9) rfl dX10_join_130 ?_
                refine lv_ior hx hb dX10_join_133 ?_
                refine va_put (D := (dC, dI)) (ci := 13) (fs := oF_X10 ad pr v) (v := .int (pb ||| (v.1 0 363))) (ty := .int) (C := RX10) (T := TX10) (N := 17) hx hb ht itX10 tyX10 tyX10_ok nmX10 hown hK hP hD hS 7 rfl rfl 8 (by decide) (ht _ tw_842) (fun _ h9 => h9) rfl (by decide +kernel) rfl rfl (Nat.le_of_ble_eq_true rfl) dX10_join_134 (fun H locs hP hD hS => ?_)
                have hP := cP_ (cw_363 ad pr N cI cR L1 L2 v (pb ||| (v.1 0 363))) hP
                have hD := cD_ (cw_363 ad pr N cI cR L1 L2 v (pb ||| (v.1 0 363))) hD
                refine lv_goto (tgt := 200) hx hb dX10_join_137 (by decide) ?_
                exact W.vret hx hb hr (fun t ht9 hW => ⟨⟨(wA v 0 363 (pb ||| (v.1 0 363))), rfl, ⟨(FC.f (FC.rf _) (pb ||| (v.1 0 363)) (by decide)), (Or.inr (⟨h1, (Or.inr (⟨h4, (Or.inr (⟨h7, (Or.inr (⟨h10, (Or.inr (⟨h19, (Or.inr (⟨h28, (Or.inl ⟨h31, rfl⟩)⟩))⟩))⟩))⟩))⟩))⟩)), (RS0.w RS0.rf (by decide))⟩, by rw [ht9]; exact hP, hD⟩, hS.F ht9⟩) hS.2.2 dX10_join_200
              ·
                have z33 : pa.toInt ≠ (59 : Int) := ne_z rfl (show (59 : Int32).toInt = (59 : Int) by decide) h31
                by_cases h34 : pa = 60
                · refine lv_tableIn (off := 139) (tgt := 140) hx hb dX10_join_1 (by rw [h34]; decide) (by rw [h34]; decide) (by rw [h34]; decide) (by decide) ?_
                  have z35 : pa.toInt = (60 : Int) := eq_z rfl (show (60 : Int32).toInt = (60 : Int) by decide) h34
                  refine lv_aload_n hx hb dX10_join_140 rfl (lv_at hl 0 rfl) ?_
                  refine lv_iload_n hx hb dX10_join_141 rfl (lv_at hl 2 rfl) ?_
                  refine lv_aload_n hx hb dX10_join_142 rfl (lv_at hl 0 rfl) ?_
                  refine va_get (D := (dC, dI)) (ci := 13) (fs := oF_X10 ad pr v) (v := .int (v.1 0 363)) (C := RX10) (T := TX10) (N := 17) hx hb ht itX10 hown hK hP 7 rfl rfl 8 (by decide) (ht _ tw_842) (fun _ h9 => h9) rfl dX10_join_143 ?_
                  refine lv_ixor hx hb dX10_join_146 ?_
                  refine va_put (D := (dC, dI)) (ci := 13) (fs := oF_X10 ad pr v) (v := .int (pb ^^^ (v.1 0 363))) (ty := .int) (C := RX10) (T := TX10) (N := 17) hx hb ht itX10 tyX10 tyX10_ok nmX10 hown hK hP hD hS 7 rfl rfl 8 (by decide) (ht _ tw_842) (fun _ h9 => h9) rfl (by decide +kernel) rfl rfl (Nat.le_of_ble_eq_true rfl) dX10_join_147 (fun H locs hP hD hS => ?_)
                  have hP := cP_ (cw_363 ad pr N cI cR L1 L2 v (pb ^^^ (v.1 0 363))) hP
                  have hD := cD_ (cw_363 ad pr N cI cR L1 L2 v (pb ^^^ (v.1 0 363))) hD
                  refine lv_goto (tgt := 200) hx hb dX10_join_150 (by decide) ?_
                  exact W.vret hx hb hr (fun t ht9 hW => ⟨⟨(wA v 0 363 (pb ^^^ (v.1 0 363))), rfl, ⟨(FC.f (FC.rf _) (pb ^^^ (v.1 0 363)) (by decide)), (Or.inr (⟨h1, (Or.inr (⟨h4, (Or.inr (⟨h7, (Or.inr (⟨h10, (Or.inr (⟨h19, (Or.inr (⟨h28, (Or.inr (⟨h31, (Or.inl ⟨h34, rfl⟩)⟩))⟩))⟩))⟩))⟩))⟩))⟩)), (RS0.w RS0.rf (by decide))⟩, by rw [ht9]; exact hP, hD⟩, hS.F ht9⟩) hS.2.2 dX10_join_200
                ·
                  have z36 : pa.toInt ≠ (60 : Int) := ne_z rfl (show (60 : Int32).toInt = (60 : Int) by decide) h34
                  by_cases h37 : pa = 61
                  · refine lv_tableIn (off := 152) (tgt := 153) hx hb dX10_join_1 (by rw [h37]; decide) (by rw [h37]; decide) (by rw [h37]; decide) (by decide) ?_
                    have z38 : pa.toInt = (61 : Int) := eq_z rfl (show (61 : Int32).toInt = (61 : Int) by decide) h37
                    refine lv_aload_n hx hb dX10_join_153 rfl (lv_at hl 0 rfl) ?_
                    refine lv_iload_n hx hb dX10_join_154 rfl (lv_at hl 2 rfl) ?_
                    refine lv_aload_n hx hb dX10_join_155 rfl (lv_at hl 0 rfl) ?_
                    refine va_get (D := (dC, dI)) (ci := 13) (fs := oF_X10 ad pr v) (v := .int (v.1 0 363)) (C := RX10) (T := TX10) (N := 17) hx hb ht itX10 hown hK hP 7 rfl rfl 8 (by decide) (ht _ tw_842) (fun _ h9 => h9) rfl dX10_join_156 ?_
                    refine lv_ishl hx hb dX10_join_159 ?_
                    refine va_put (D := (dC, dI)) (ci := 13) (fs := oF_X10 ad pr v) (v := .int (pb <<< ((v.1 0 363) &&& 31))) (ty := .int) (C := RX10) (T := TX10) (N := 17) hx hb ht itX10 tyX10 tyX10_ok nmX10 hown hK hP hD hS 7 rfl rfl 8 (by decide) (ht _ tw_842) (fun _ h9 => h9) rfl (by decide +kernel) rfl rfl (Nat.le_of_ble_eq_true rfl) dX10_join_160 (fun H locs hP hD hS => ?_)
                    have hP := cP_ (cw_363 ad pr N cI cR L1 L2 v (pb <<< ((v.1 0 363) &&& 31))) hP
                    have hD := cD_ (cw_363 ad pr N cI cR L1 L2 v (pb <<< ((v.1 0 363) &&& 31))) hD
                    refine lv_goto (tgt := 200) hx hb dX10_join_163 (by decide) ?_
                    exact W.vret hx hb hr (fun t ht9 hW => ⟨⟨(wA v 0 363 (pb <<< ((v.1 0 363) &&& 31))), rfl, ⟨(FC.f (FC.rf _) (pb <<< ((v.1 0 363) &&& 31)) (by decide)), (Or.inr (⟨h1, (Or.inr (⟨h4, (Or.inr (⟨h7, (Or.inr (⟨h10, (Or.inr (⟨h19, (Or.inr (⟨h28, (Or.inr (⟨h31, (Or.inr (⟨h34, (Or.inl ⟨h37, rfl⟩)⟩))⟩))⟩))⟩))⟩))⟩))⟩))⟩)), (RS0.w RS0.rf (by decide))⟩, by rw [ht9]; exact hP, hD⟩, hS.F ht9⟩) hS.2.2 dX10_join_200
                  ·
                    have z39 : pa.toInt ≠ (61 : Int) := ne_z rfl (show (61 : Int32).toInt = (61 : Int) by decide) h37
                    by_cases h40 : pa = 62
                    · refine lv_tableIn (off := 165) (tgt := 166) hx hb dX10_join_1 (by rw [h40]; decide) (by rw [h40]; decide) (by rw [h40]; decide) (by decide) ?_
                      have z41 : pa.toInt = (62 : Int) := eq_z rfl (show (62 : Int32).toInt = (62 : Int) by decide) h40
                      refine lv_aload_n hx hb dX10_join_166 rfl (lv_at hl 0 rfl) ?_
                      refine lv_iload_n hx hb dX10_join_167 rfl (lv_at hl 2 rfl) ?_
                      refine lv_aload_n hx hb dX10_join_168 rfl (lv_at hl 0 rfl) ?_
                      refine va_get (D := (dC, dI)) (ci := 13) (fs := oF_X10 ad pr v) (v := .int (v.1 0 363)) (C := RX10) (T := TX10) (N := 17) hx hb ht itX10 hown hK hP 7 rfl rfl 8 (by decide) (ht _ tw_842) (fun _ h9 => h9) rfl dX10_join_169 ?_
                      refine lv_ishr hx hb dX10_join_172 ?_
                      refine va_put (D := (dC, dI)) (ci := 13) (fs := oF_X10 ad pr v) (v := .int (pb >>> ((v.1 0 363) &&& 31))) (ty := .int) (C := RX10) (T := TX10) (N := 17) hx hb ht itX10 tyX10 tyX10_ok nmX10 hown hK hP hD hS 7 rfl rfl 8 (by decide) (ht _ tw_842) (fun _ h9 => h9) rfl (by decide +kernel) rfl rfl (Nat.le_of_ble_eq_true rfl) dX10_join_173 (fun H locs hP hD hS => ?_)
                      have hP := cP_ (cw_363 ad pr N cI cR L1 L2 v (pb >>> ((v.1 0 363) &&& 31))) hP
                      have hD := cD_ (cw_363 ad pr N cI cR L1 L2 v (pb >>> ((v.1 0 363) &&& 31))) hD
                      refine lv_goto (tgt := 200) hx hb dX10_join_176 (by decide) ?_
                      exact W.vret hx hb hr (fun t ht9 hW => ⟨⟨(wA v 0 363 (pb >>> ((v.1 0 363) &&& 31))), rfl, ⟨(FC.f (FC.rf _) (pb >>> ((v.1 0 363) &&& 31)) (by decide)), (Or.inr (⟨h1, (Or.inr (⟨h4, (Or.inr (⟨h7, (Or.inr (⟨h10, (Or.inr (⟨h19, (Or.inr (⟨h28, (Or.inr (⟨h31, (Or.inr (⟨h34, (Or.inr (⟨h37, (Or.inl ⟨h40, rfl⟩)⟩))⟩))⟩))⟩))⟩))⟩))⟩))⟩))⟩)), (RS0.w RS0.rf (by decide))⟩, by rw [ht9]; exact hP, hD⟩, hS.F ht9⟩) hS.2.2 dX10_join_200
                    ·
                      have z42 : pa.toInt ≠ (62 : Int) := ne_z rfl (show (62 : Int32).toInt = (62 : Int) by decide) h40
                      refine lv_tableOut (tgt := 179) hx hb dX10_join_1 (by have := lv_neT h1 (a := 53) (by decide); have := lv_neT h4 (a := 54) (by decide); have := lv_neT h7 (a := 55) (by decide); have := lv_neT h10 (a := 56) (by decide); have := lv_neT h19 (a := 57) (by decide); have := lv_neT h28 (a := 58) (by decide); have := lv_neT h31 (a := 59) (by decide); have := lv_neT h34 (a := 60) (by decide); have := lv_neT h37 (a := 61) (by decide); have := lv_neT h40 (a := 62) (by decide); omega) (by decide) ?_
                      refine lv_aload_n hx hb dX10_join_179 rfl (lv_at hl 0 rfl) ?_
                      refine lv_iload_n hx hb dX10_join_180 rfl (lv_at hl 1 rfl) ?_
                      refine lv_iload_n hx hb dX10_join_181 rfl (lv_at hl 2 rfl) ?_
                      refine lv_aload_n hx hb dX10_join_182 rfl (lv_at hl 0 rfl) ?_
                      refine va_get (D := (dC, dI)) (ci := 13) (fs := oF_X10 ad pr v) (v := .int (v.1 0 363)) (C := RX10) (T := TX10) (N := 17) hx hb ht itX10 hown hK hP 7 rfl rfl 8 (by decide) (ht _ tw_842) (fun _ h9 => h9) rfl dX10_join_183 ?_
                      refine cu_s (nd_range _) (rn_S (n := 3) (As := [.int pa, .int pb, .int (v.1 0 363)]) (rest := [.ref (ad 907)]) hx hb hml hown ht hKK hFx hP hD hS hA (c_x_X10_compares l dC dI cI cB cZ cJ cR tb s.heap.size pa pb (v.1 0 363) ) tw_876 tw_877 (by decide +kernel) rfl rfl ⟨Nat.le_of_ble_eq_true rfl, Nat.le_of_ble_eq_true rfl⟩ [] rfl rfl rfl hl.1 rfl (Nat.le_of_ble_eq_true rfl) dX10_join_186 ⟨Nat.le_of_ble_eq_true rfl, Nat.le_of_ble_eq_true rfl⟩) hP hD hS hA (fun r45 H locs hw43 hP hD hS => ?_)
                      obtain ⟨ex43, b43, e43⟩ := hw43
                      refine W.widen (k := 0) (n := 0) (Nat.le_refl _) (Nat.le_refl _) ?_
                      refine lv_if_eq (tgt := 196) hx hb dX10_join_189 (by decide) (fun h46 => ?_) (fun h46 => ?_)
                      · have z47 : r45.toInt = (0 : Int) := eq_z rfl (show (0 : Int32).toInt = (0 : Int) by decide) h46
                        refine lv_iconst (v := 0) hx hb dX10_join_196 (by decide) ?_
                        refine va_put (D := (dC, dI)) (ci := 13) (fs := oF_X10 ad pr v) (v := .int 0) (ty := .int) (C := RX10) (T := TX10) (N := 17) hx hb ht itX10 tyX10 tyX10_ok nmX10 hown hK hP hD hS 7 rfl rfl 8 (by decide) (ht _ tw_842) (fun _ h9 => h9) rfl (by decide +kernel) rfl rfl (Nat.le_of_ble_eq_true rfl) dX10_join_197 (fun H locs hP hD hS => ?_)
                        have hP := cP_ (cw_363 ad pr N cI cR L1 L2 v 0) hP
                        have hD := cD_ (cw_363 ad pr N cI cR L1 L2 v 0) hD
                        exact W.vret hx hb hr (fun t ht9 hW => ⟨⟨(wA v 0 363 0), rfl, ⟨(FC.f (FC.rf _) 0 (by decide)), (Or.inr (⟨h1, (Or.inr (⟨h4, (Or.inr (⟨h7, (Or.inr (⟨h10, (Or.inr (⟨h19, (Or.inr (⟨h28, (Or.inr (⟨h31, (Or.inr (⟨h34, (Or.inr (⟨h37, (Or.inr (⟨h40, r45, ex43, ⟨b43, e43⟩, (Or.inl ⟨z47, rfl⟩)⟩))⟩))⟩))⟩))⟩))⟩))⟩))⟩))⟩))⟩)), (RS0.w RS0.rf (by decide))⟩, by rw [ht9]; exact hP, hD⟩, hS.F ht9⟩) hS.2.2 dX10_join_200
                      · have z48 : r45.toInt ≠ (0 : Int) := ne_z rfl (show (0 : Int32).toInt = (0 : Int) by decide) h46
                        refine lv_iconst (v := 1) hx hb dX10_join_192 (by decide) ?_
                        refine lv_goto (tgt := 197) hx hb dX10_join_193 (by decide) ?_
                        refine va_put (D := (dC, dI)) (ci := 13) (fs := oF_X10 ad pr v) (v := .int 1) (ty := .int) (C := RX10) (T := TX10) (N := 17) hx hb ht itX10 tyX10 tyX10_ok nmX10 hown hK hP hD hS 7 rfl rfl 8 (by decide) (ht _ tw_842) (fun _ h9 => h9) rfl (by decide +kernel) rfl rfl (Nat.le_of_ble_eq_true rfl) dX10_join_197 (fun H locs hP hD hS => ?_)
                        have hP := cP_ (cw_363 ad pr N cI cR L1 L2 v 1) hP
                        have hD := cD_ (cw_363 ad pr N cI cR L1 L2 v 1) hD
                        exact W.vret hx hb hr (fun t ht9 hW => ⟨⟨(wA v 0 363 1), rfl, ⟨(FC.f (FC.rf _) 1 (by decide)), (Or.inr (⟨h1, (Or.inr (⟨h4, (Or.inr (⟨h7, (Or.inr (⟨h10, (Or.inr (⟨h19, (Or.inr (⟨h28, (Or.inr (⟨h31, (Or.inr (⟨h34, (Or.inr (⟨h37, (Or.inr (⟨h40, r45, ex43, ⟨b43, e43⟩, (Or.inr (⟨z48, rfl⟩))⟩))⟩))⟩))⟩))⟩))⟩))⟩))⟩))⟩))⟩)), (RS0.w RS0.rf (by decide))⟩, by rw [ht9]; exact hP, hD⟩, hS.F ht9⟩) hS.2.2 dX10_join_200
set_option maxHeartbeats 4000000 in
set_option maxRecDepth 100000 in
theorem c_x_X10_doPlace (l : Launch) (dC : Nat → ClassId) (dI : Nat → Nat → Nat) (cI cB cZ cJ cR : ClassId) (tb : Nat → Nat) (sz : Nat) (ad : Nat → Nat) (pr : Int32 → Nat) (N : Nat) (L1 L2 : List Nat) (v : MS) (pa : Int32) (pb : Int32) (pc1 : Int32) (ps : Int32) (zNN : (N : Int) ≤ 4096) (hL1 : L1.length = 40) (hL2 : L2.length = 60) (rp : RP v) (hps : pr ps = ad 908) (es355 : (v.1 0 355) = ps) : Met l yX10_doPlace (Cond.code yX10_doPlace cX10_doPlace 4 none :: tw_W) ({ frames := 3, cells := 0, slots := 0, locals := 64 }) (pc_ (dC, dI) (tyS cI cB cZ cJ cR) tb (cW ad pr N cI cR L1 L2 v) sz [.ref (ad 907), .int pa, .int pb, .int pc1]) (qv_ (dC, dI) (cW ad pr N cI cR L1 L2 v) sz (fun (u : MS) => FC [362, 363] [0, 358, 359] v u ∧ (Q_x_X10_doPlace L1 L2 N v pa pb pc1 u) ∧ (RS0 v u)) (fun (u : MS) => (cW ad pr N cI cR L1 L2 u))) 0 0 (va_A (cW ad pr N cI cR L1 L2 v) sz) := by
  refine Met.ofW (cc := cX10_doPlace) (maxL := 4) (ret := none) (by decide) rfl ?_
  intro p e s m args below meth c s₁ B hml hv
  obtain ⟨rfl, hsz, hP, hKK, hD0, hFx⟩ := hv
  have hK := hKK.1
  have hx := B.exec
  have hb := B.bytes
  have hr := B.returns
  have ht : ∀ w ∈ tw_W, w.before _ s = true := fun w h => atoms_spec (ws := Cond.code yX10_doPlace cX10_doPlace 4 none :: tw_W) B.pre w (List.mem_cons_of_mem _ h)
  have hown : s.vm.findClass RX10 = some m.cls := findClass_of_methodNamed B.named
  have hlocks := B.notSynchronized
  subst hsz
  unfold qv_
  have hD := hD0.self (sz := s.heap.size)
  generalize hAe : va_A (cW ad pr N cI cR L1 L2 v) s.heap.size = A at hD hFx ⊢
  have hA : ∀ q : Nat, s.heap.size ≤ q → A q := fun q h => by rw [← hAe]; exact Or.inr h
  have hS : va_S A s.heap s.heap [] := va_S.rf
  have hl := lv_entry ([.ref (ad 907), .int pa, .int pb, .int pc1]) (n := 4) (Nat.le_of_ble_eq_true rfl)
  rw [lg_entry_eq]
  generalize (lg_sl ([.ref (ad 907), .int pa, .int pb, .int pc1]) ++ List.replicate (4 - (lg_sl ([.ref (ad 907), .int pa, .int pb, .int pc1])).length) Slot.unset).toArray = ls at hl ⊢
  have hl : lv_has ls 4 [(0, .ref (ad 907)), (1, .int pa), (2, .int pb), (3, .int pc1)] := hl
  refine lv_iload_n hx hb dX10_doPlace_0 rfl (lv_at hl 1 rfl) ?_
  by_cases h1 : pa = 5
  · refine lv_tableIn (off := 43) (tgt := 44) hx hb dX10_doPlace_1 (by rw [h1]; decide) (by rw [h1]; decide) (by rw [h1]; decide) (by decide) ?_
    refine lv_aload_n hx hb dX10_doPlace_44 rfl (lv_at hl 0 rfl) ?_
    refine lv_aload_n hx hb dX10_doPlace_45 rfl (lv_at hl 0 rfl) ?_
    refine lv_aload_n hx hb dX10_doPlace_46 rfl (lv_at hl 0 rfl) ?_
    refine va_get (D := (dC, dI)) (ci := 13) (fs := oF_X10 ad pr v) (v := .ref (pr (v.1 0 355))) (C := RX10) (T := TX10) (N := 17) hx hb ht itX10 hown hK hP 7 rfl rfl 0 (by decide) (ht _ tw_857) (fun _ h9 => h9) rfl dX10_doPlace_47 ?_
    refine lv_iload_n hx hb dX10_doPlace_50 rfl (lv_at hl 2 rfl) ?_
    refine W.eq (g2 := F0 m 51 ls [.int pb, .ref (ad 908), .ref (ad 907), .ref (ad 907)]) (by rw [show pr (v.1 0 355) = (ad 908) from (by rw [show (v.1 0 355) = ps from es355]; exact hps)]) ?_
    refine cu_i (rn_Vk (n := 1) (As := [.int pb]) (rest := [.ref (ad 907), .ref (ad 907)]) hx hb hml hown ht hKK hFx hP hD hS hA (c_x_X7_firstCell l dC dI cI cB cZ cJ cR tb s.heap.size ad pr N L1 L2 v pb (show L1.length = 40 from hL1) (show L2.length = 60 from hL2) (show RP v from rp)) tw_872 tw_873 (by decide +kernel) rfl rfl ⟨Nat.le_of_ble_eq_true rfl, Nat.le_of_ble_eq_true rfl⟩ (List.range (cW ad pr N cI cR L1 L2 v).length) (rg_map _) (nd_range _) 8 rfl rfl rfl rfl hl.1 rfl (Nat.le_of_ble_eq_true rfl) dX10_doPlace_51 ⟨Nat.le_of_ble_eq_true rfl, Nat.le_of_ble_eq_true rfl⟩) hP hD hS hA (fun r4 u3 H locs hw2 hP hD hS => ?_)
    obtain ⟨rfl, ex2⟩ := hw2
    refine W.widen (k := 0) (n := 0) (Nat.le_refl _) (Nat.le_refl _) ?_
    refine cu_i (rn_Vk (n := 1) (As := [.int r4]) (rest := [.ref (ad 907)]) hx hb hml hown ht hKK hFx hP hD hS hA (c_x_X10_cellAt l dC dI cI cB cZ cJ cR tb H.size ad pr N L1 L2 v r4 (show (N : Int) ≤ 4096 from (om_1c2c49c46c zNN))) tw_878 tw_879 (by decide +kernel) rfl rfl ⟨Nat.le_of_ble_eq_true rfl, Nat.le_of_ble_eq_true rfl⟩ (List.range (cW ad pr N cI cR L1 L2 v).length) (rg_map _) (nd_range _) 7 rfl rfl rfl rfl hl.1 rfl (Nat.le_of_ble_eq_true rfl) dX10_doPlace_54 ⟨Nat.le_of_ble_eq_true rfl, Nat.le_of_ble_eq_true rfl⟩) hP hD hS hA (fun r7 u6 H locs hw5 hP hD hS => ?_)
    obtain ⟨rfl, ex5⟩ := hw5
    refine W.widen (k := 0) (n := 0) (Nat.le_refl _) (Nat.le_refl _) ?_
    refine va_put (D := (dC, dI)) (ci := 13) (fs := oF_X10 ad pr v) (v := .int r7) (ty := .int) (C := RX10) (T := TX10) (N := 17) hx hb ht itX10 tyX10 tyX10_ok nmX10 hown hK hP hD hS 7 rfl rfl 8 (by decide) (ht _ tw_842) (fun _ h9 => h9) rfl (by decide +kernel) rfl rfl (Nat.le_of_ble_eq_true rfl) dX10_doPlace_57 (fun H locs hP hD hS => ?_)
    have hP := cP_ (cw_363 ad pr N cI cR L1 L2 v r7) hP
    have hD := cD_ (cw_363 ad pr N cI cR L1 L2 v r7) hD
    refine lv_goto (tgt := 133) hx hb dX10_doPlace_60 (by decide) ?_
    exact W.vret hx hb hr (fun t ht9 hW => ⟨⟨(wA v 0 363 r7), rfl, ⟨(FC.f (FC.rf _) r7 (by decide)), (Or.inl ⟨h1, r4, ex2, r7, ex5, rfl⟩), (RS0.w RS0.rf (by decide))⟩, by rw [ht9]; exact hP, hD⟩, hS.F ht9⟩) hS.2.2 dX10_doPlace_133
  ·
    by_cases h8 : pa = 6
    · refine lv_tableIn (off := 62) (tgt := 63) hx hb dX10_doPlace_1 (by rw [h8]; decide) (by rw [h8]; decide) (by rw [h8]; decide) (by decide) ?_
      refine lv_aload_n hx hb dX10_doPlace_63 rfl (lv_at hl 0 rfl) ?_
      refine lv_aload_n hx hb dX10_doPlace_64 rfl (lv_at hl 0 rfl) ?_
      refine va_get (D := (dC, dI)) (ci := 13) (fs := oF_X10 ad pr v) (v := .ref (pr (v.1 0 355))) (C := RX10) (T := TX10) (N := 17) hx hb ht itX10 hown hK hP 7 rfl rfl 0 (by decide) (ht _ tw_857) (fun _ h9 => h9) rfl dX10_doPlace_65 ?_
      refine lv_iload_n hx hb dX10_doPlace_68 rfl (lv_at hl 2 rfl) ?_
      refine W.eq (g2 := F0 m 69 ls [.int pb, .ref (ad 908), .ref (ad 907)]) (by rw [show pr (v.1 0 355) = (ad 908) from (by rw [show (v.1 0 355) = ps from es355]; exact hps)]) ?_
      refine cu_i (rn_Vk (n := 1) (As := [.int pb]) (rest := [.ref (ad 907)]) hx hb hml hown ht hKK hFx hP hD hS hA (c_x_X7_firstCell l dC dI cI cB cZ cJ cR tb s.heap.size ad pr N L1 L2 v pb (show L1.length = 40 from hL1) (show L2.length = 60 from hL2) (show RP v from rp)) tw_872 tw_873 (by decide +kernel) rfl rfl ⟨Nat.le_of_ble_eq_true rfl, Nat.le_of_ble_eq_true rfl⟩ (List.range (cW ad pr N cI cR L1 L2 v).length) (rg_map _) (nd_range _) 8 rfl rfl rfl rfl hl.1 rfl (Nat.le_of_ble_eq_true rfl) dX10_doPlace_69 ⟨Nat.le_of_ble_eq_true rfl, Nat.le_of_ble_eq_true rfl⟩) hP hD hS hA (fun r11 u10 H locs hw9 hP hD hS => ?_)
      obtain ⟨rfl, ex9⟩ := hw9
      refine W.widen (k := 0) (n := 0) (Nat.le_refl _) (Nat.le_refl _) ?_
      refine lv_aload_n hx hb dX10_doPlace_72 rfl (lv_at hl 0 rfl) ?_
      refine va_get (D := (dC, dI)) (ci := 13) (fs := oF_X10 ad pr v) (v := .int (v.1 0 363)) (C := RX10) (T := TX10) (N := 17) hx hb ht itX10 hown hK hP 7 rfl rfl 8 (by decide) (ht _ tw_842) (fun _ h9 => h9) rfl dX10_doPlace_73 ?_
      refine cu_v (rn_Vk (n := 2) (As := [.int r11, .int (v.1 0 363)]) (rest := []) hx hb hml hown ht hKK hFx hP hD hS hA (c_x_X10_changeCell l dC dI cI cB cZ cJ cR tb H.size ad pr N L1 L2 v r11 (v.1 0 363) (show (N : Int) ≤ 4096 from (om_1c2c49c46c zNN))) tw_880 tw_881 (by decide +kernel) rfl rfl ⟨Nat.le_of_ble_eq_true rfl, Nat.le_of_ble_eq_true rfl⟩ (List.range (cW ad pr N cI cR L1 L2 v).length) (rg_map _) (nd_range _) 7 rfl rfl rfl rfl hl.1 rfl (Nat.le_of_ble_eq_true rfl) dX10_doPlace_76 ⟨Nat.le_of_ble_eq_true rfl, Nat.le_of_ble_eq_true rfl⟩) hP hD hS hA (fun u13 H locs hw12 hP hD hS => ?_)
      obtain ⟨fr12, ex12, rs12⟩ := hw12
      refine W.widen (k := 0) (n := 0) (Nat.le_refl _) (Nat.le_refl _) ?_
      refine lv_goto (tgt := 133) hx hb dX10_doPlace_79 (by decide) ?_
      exact W.vret hx hb hr (fun t ht9 hW => ⟨⟨u13, rfl, ⟨(FC.tr (FC.rf _) (FC.up fr12 (by decide) (by decide))), (Or.inr (⟨h1, (Or.inl ⟨h8, r11, ex9, u13, ex12, ⟨fr12, rs12⟩, rfl⟩)⟩)), (RS0.tr RS0.rf rs12)⟩, by rw [ht9]; exact hP, hD⟩, hS.F ht9⟩) hS.2.2 dX10_doPlace_133
    ·
      by_cases h15 : pa = 7
      · refine lv_tableIn (off := 81) (tgt := 82) hx hb dX10_doPlace_1 (by rw [h15]; decide) (by rw [h15]; decide) (by rw [h15]; decide) (by decide) ?_
        refine lv_aload_n hx hb dX10_doPlace_82 rfl (lv_at hl 0 rfl) ?_
        refine lv_iload_n hx hb dX10_doPlace_83 rfl (lv_at hl 2 rfl) ?_
        refine cu_v (rn_Vk (n := 1) (As := [.int pb]) (rest := []) hx hb hml hown ht hKK hFx hP hD hS hA (c_x_X10_index l dC dI cI cB cZ cJ cR tb s.heap.size ad pr N L1 L2 v pb ps (show L1.length = 40 from hL1) (show L2.length = 60 from hL2) (show RP v from rp) (show pr ps = ad 908 from hps) (show (v.1 0 355) = ps from es355)) tw_882 tw_883 (by decide +kernel) rfl rfl ⟨Nat.le_of_ble_eq_true rfl, Nat.le_of_ble_eq_true rfl⟩ (List.range (cW ad pr N cI cR L1 L2 v).length) (rg_map _) (nd_range _) 7 rfl rfl rfl rfl hl.1 rfl (Nat.le_of_ble_eq_true rfl) dX10_doPlace_84 ⟨Nat.le_of_ble_eq_true rfl, Nat.le_of_ble_eq_true rfl⟩) hP hD hS hA (fun u17 H locs hw16 hP hD hS => ?_)
        obtain ⟨fr16, ex16, rs16⟩ := hw16
        refine W.widen (k := 0) (n := 0) (Nat.le_refl _) (Nat.le_refl _) ?_
        refine lv_goto (tgt := 133) hx hb dX10_doPlace_87 (by decide) ?_
        exact W.vret hx hb hr (fun t ht9 hW => ⟨⟨u17, rfl, ⟨(FC.tr (FC.rf _) (FC.up fr16 (by decide) (by decide))), (Or.inr (⟨h1, (Or.inr (⟨h8, (Or.inl ⟨h15, u17, ex16, ⟨fr16, rs16⟩, rfl⟩)⟩))⟩)), (RS0.tr RS0.rf rs16)⟩, by rw [ht9]; exact hP, hD⟩, hS.F ht9⟩) hS.2.2 dX10_doPlace_133
      ·
        by_cases h19 : pa = 8
        · refine lv_tableIn (off := 89) (tgt := 90) hx hb dX10_doPlace_1 (by rw [h19]; decide) (by rw [h19]; decide) (by rw [h19]; decide) (by decide) ?_
          refine lv_aload_n hx hb dX10_doPlace_90 rfl (lv_at hl 0 rfl) ?_
          refine lv_aload_n hx hb dX10_doPlace_91 rfl (lv_at hl 0 rfl) ?_
          refine lv_aload_n hx hb dX10_doPlace_92 rfl (lv_at hl 0 rfl) ?_
          refine va_get (D := (dC, dI)) (ci := 13) (fs := oF_X10 ad pr v) (v := .int (v.1 0 363)) (C := RX10) (T := TX10) (N := 17) hx hb ht itX10 hown hK hP 7 rfl rfl 8 (by decide) (ht _ tw_842) (fun _ h9 => h9) rfl dX10_doPlace_93 ?_
          refine cu_i (rn_Vk (n := 1) (As := [.int (v.1 0 363)]) (rest := [.ref (ad 907)]) hx hb hml hown ht hKK hFx hP hD hS hA (c_x_X10_cellAt l dC dI cI cB cZ cJ cR tb s.heap.size ad pr N L1 L2 v (v.1 0 363) (show (N : Int) ≤ 4096 from (om_1c2c49c46c zNN))) tw_878 tw_879 (by decide +kernel) rfl rfl ⟨Nat.le_of_ble_eq_true rfl, Nat.le_of_ble_eq_true rfl⟩ (List.range (cW ad pr N cI cR L1 L2 v).length) (rg_map _) (nd_range _) 7 rfl rfl rfl rfl hl.1 rfl (Nat.le_of_ble_eq_true rfl) dX10_doPlace_96 ⟨Nat.le_of_ble_eq_true rfl, Nat.le_of_ble_eq_true rfl⟩) hP hD hS hA (fun r22 u21 H locs hw20 hP hD hS => ?_)
          obtain ⟨rfl, ex20⟩ := hw20
          refine W.widen (k := 0) (n := 0) (Nat.le_refl _) (Nat.le_refl _) ?_
          refine va_put (D := (dC, dI)) (ci := 13) (fs := oF_X10 ad pr v) (v := .int r22) (ty := .int) (C := RX10) (T := TX10) (N := 17) hx hb ht itX10 tyX10 tyX10_ok nmX10 hown hK hP hD hS 7 rfl rfl 8 (by decide) (ht _ tw_842) (fun _ h9 => h9) rfl (by decide +kernel) rfl rfl (Nat.le_of_ble_eq_true rfl) dX10_doPlace_99 (fun H locs hP hD hS => ?_)
          have hP := cP_ (cw_363 ad pr N cI cR L1 L2 v r22) hP
          have hD := cD_ (cw_363 ad pr N cI cR L1 L2 v r22) hD
          refine lv_goto (tgt := 133) hx hb dX10_doPlace_102 (by decide) ?_
          exact W.vret hx hb hr (fun t ht9 hW => ⟨⟨(wA v 0 363 r22), rfl, ⟨(FC.f (FC.rf _) r22 (by decide)), (Or.inr (⟨h1, (Or.inr (⟨h8, (Or.inr (⟨h15, (Or.inl ⟨h19, r22, ex20, rfl⟩)⟩))⟩))⟩)), (RS0.w RS0.rf (by decide))⟩, by rw [ht9]; exact hP, hD⟩, hS.F ht9⟩) hS.2.2 dX10_doPlace_133
        ·
          by_cases h23 : pa = 9
          · refine lv_tableIn (off := 104) (tgt := 105) hx hb dX10_doPlace_1 (by rw [h23]; decide) (by rw [h23]; decide) (by rw [h23]; decide) (by decide) ?_
            refine lv_aload_n hx hb dX10_doPlace_105 rfl (lv_at hl 0 rfl) ?_
            refine lv_iload_n hx hb dX10_doPlace_106 rfl (lv_at hl 3 rfl) ?_
            refine lv_aload_n hx hb dX10_doPlace_107 rfl (lv_at hl 0 rfl) ?_
            refine va_get (D := (dC, dI)) (ci := 13) (fs := oF_X10 ad pr v) (v := .int (v.1 0 363)) (C := RX10) (T := TX10) (N := 17) hx hb ht itX10 hown hK hP 7 rfl rfl 8 (by decide) (ht _ tw_842) (fun _ h9 => h9) rfl dX10_doPlace_108 ?_
            refine cu_v (rn_Vk (n := 2) (As := [.int pc1, .int (v.1 0 363)]) (rest := []) hx hb hml hown ht hKK hFx hP hD hS hA (c_x_X10_changeSlot l dC dI cI cB cZ cJ cR tb s.heap.size ad pr N L1 L2 v pc1 (v.1 0 363) (show (N : Int) ≤ 4096 from (om_1c2c49c46c zNN))) tw_869 tw_870 (by decide +kernel) rfl rfl ⟨Nat.le_of_ble_eq_true rfl, Nat.le_of_ble_eq_true rfl⟩ (List.range (cW ad pr N cI cR L1 L2 v).length) (rg_map _) (nd_range _) 7 rfl rfl rfl rfl hl.1 rfl (Nat.le_of_ble_eq_true rfl) dX10_doPlace_111 ⟨Nat.le_of_ble_eq_true rfl, Nat.le_of_ble_eq_true rfl⟩) hP hD hS hA (fun u25 H locs hw24 hP hD hS => ?_)
            obtain ⟨fr24, ex24, rs24⟩ := hw24
            refine W.widen (k := 0) (n := 0) (Nat.le_refl _) (Nat.le_refl _) ?_
            refine lv_goto (tgt := 133) hx hb dX10_doPlace_114 (by decide) ?_
            exact W.vret hx hb hr (fun t ht9 hW => ⟨⟨u25, rfl, ⟨(FC.tr (FC.rf _) (FC.up fr24 (by decide) (by decide))), (Or.inr (⟨h1, (Or.inr (⟨h8, (Or.inr (⟨h15, (Or.inr (⟨h19, (Or.inl ⟨h23, u25, ex24, ⟨fr24, rs24⟩, rfl⟩)⟩))⟩))⟩))⟩)), (RS0.tr RS0.rf rs24)⟩, by rw [ht9]; exact hP, hD⟩, hS.F ht9⟩) hS.2.2 dX10_doPlace_133
          ·
            by_cases h27 : pa = 10
            · refine lv_tableIn (off := 89) (tgt := 90) hx hb dX10_doPlace_1 (by rw [h27]; decide) (by rw [h27]; decide) (by rw [h27]; decide) (by decide) ?_
              refine lv_aload_n hx hb dX10_doPlace_90 rfl (lv_at hl 0 rfl) ?_
              refine lv_aload_n hx hb dX10_doPlace_91 rfl (lv_at hl 0 rfl) ?_
              refine lv_aload_n hx hb dX10_doPlace_92 rfl (lv_at hl 0 rfl) ?_
              refine va_get (D := (dC, dI)) (ci := 13) (fs := oF_X10 ad pr v) (v := .int (v.1 0 363)) (C := RX10) (T := TX10) (N := 17) hx hb ht itX10 hown hK hP 7 rfl rfl 8 (by decide) (ht _ tw_842) (fun _ h9 => h9) rfl dX10_doPlace_93 ?_
              refine cu_i (rn_Vk (n := 1) (As := [.int (v.1 0 363)]) (rest := [.ref (ad 907)]) hx hb hml hown ht hKK hFx hP hD hS hA (c_x_X10_cellAt l dC dI cI cB cZ cJ cR tb s.heap.size ad pr N L1 L2 v (v.1 0 363) (show (N : Int) ≤ 4096 from (om_1c2c49c46c zNN))) tw_878 tw_879 (by decide +kernel) rfl rfl ⟨Nat.le_of_ble_eq_true rfl, Nat.le_of_ble_eq_true rfl⟩ (List.range (cW ad pr N cI cR L1 L2 v).length) (rg_map _) (nd_range _) 7 rfl rfl rfl rfl hl.1 rfl (Nat.le_of_ble_eq_true rfl) dX10_doPlace_96 ⟨Nat.le_of_ble_eq_true rfl, Nat.le_of_ble_eq_true rfl⟩) hP hD hS hA (fun r30 u29 H locs hw28 hP hD hS => ?_)
              obtain ⟨rfl, ex28⟩ := hw28
              refine W.widen (k := 0) (n := 0) (Nat.le_refl _) (Nat.le_refl _) ?_
              refine va_put (D := (dC, dI)) (ci := 13) (fs := oF_X10 ad pr v) (v := .int r30) (ty := .int) (C := RX10) (T := TX10) (N := 17) hx hb ht itX10 tyX10 tyX10_ok nmX10 hown hK hP hD hS 7 rfl rfl 8 (by decide) (ht _ tw_842) (fun _ h9 => h9) rfl (by decide +kernel) rfl rfl (Nat.le_of_ble_eq_true rfl) dX10_doPlace_99 (fun H locs hP hD hS => ?_)
              have hP := cP_ (cw_363 ad pr N cI cR L1 L2 v r30) hP
              have hD := cD_ (cw_363 ad pr N cI cR L1 L2 v r30) hD
              refine lv_goto (tgt := 133) hx hb dX10_doPlace_102 (by decide) ?_
              exact W.vret hx hb hr (fun t ht9 hW => ⟨⟨(wA v 0 363 r30), rfl, ⟨(FC.f (FC.rf _) r30 (by decide)), (Or.inr (⟨h1, (Or.inr (⟨h8, (Or.inr (⟨h15, (Or.inr (⟨h19, (Or.inr (⟨h23, (Or.inl ⟨h27, r30, ex28, rfl⟩)⟩))⟩))⟩))⟩))⟩)), (RS0.w RS0.rf (by decide))⟩, by rw [ht9]; exact hP, hD⟩, hS.F ht9⟩) hS.2.2 dX10_doPlace_133
            ·
              by_cases h31 : pa = 11
              · refine lv_tableIn (off := 116) (tgt := 117) hx hb dX10_doPlace_1 (by rw [h31]; decide) (by rw [h31]; decide) (by rw [h31]; decide) (by decide) ?_
                refine lv_aload_n hx hb dX10_doPlace_117 rfl (lv_at hl 0 rfl) ?_
                refine lv_aload_n hx hb dX10_doPlace_118 rfl (lv_at hl 0 rfl) ?_
                refine lv_iload_n hx hb dX10_doPlace_119 rfl (lv_at hl 2 rfl) ?_
                refine cu_i (rn_Vk (n := 1) (As := [.int pb]) (rest := [.ref (ad 907)]) hx hb hml hown ht hKK hFx hP hD hS hA (c_x_X10_slotAt l dC dI cI cB cZ cJ cR tb s.heap.size ad pr N L1 L2 v pb (show (N : Int) ≤ 4096 from (om_1c2c49c46c zNN))) tw_884 tw_885 (by decide +kernel) rfl rfl ⟨Nat.le_of_ble_eq_true rfl, Nat.le_of_ble_eq_true rfl⟩ (List.range (cW ad pr N cI cR L1 L2 v).length) (rg_map _) (nd_range _) 7 rfl rfl rfl rfl hl.1 rfl (Nat.le_of_ble_eq_true rfl) dX10_doPlace_120 ⟨Nat.le_of_ble_eq_true rfl, Nat.le_of_ble_eq_true rfl⟩) hP hD hS hA (fun r34 u33 H locs hw32 hP hD hS => ?_)
                obtain ⟨rfl, ex32⟩ := hw32
                refine W.widen (k := 0) (n := 0) (Nat.le_refl _) (Nat.le_refl _) ?_
                refine lv_aload_n hx hb dX10_doPlace_123 rfl (lv_at hl 0 rfl) ?_
                refine va_get (D := (dC, dI)) (ci := 13) (fs := oF_X10 ad pr v) (v := .int (v.1 0 363)) (C := RX10) (T := TX10) (N := 17) hx hb ht itX10 hown hK hP 7 rfl rfl 8 (by decide) (ht _ tw_842) (fun _ h9 => h9) rfl dX10_doPlace_124 ?_
                refine cu_v (rn_Vk (n := 2) (As := [.int r34, .int (v.1 0 363)]) (rest := []) hx hb hml hown ht hKK hFx hP hD hS hA (c_x_X10_changeCell l dC dI cI cB cZ cJ cR tb H.size ad pr N L1 L2 v r34 (v.1 0 363) (show (N : Int) ≤ 4096 from (om_1c2c49c46c zNN))) tw_880 tw_881 (by decide +kernel) rfl rfl ⟨Nat.le_of_ble_eq_true rfl, Nat.le_of_ble_eq_true rfl⟩ (List.range (cW ad pr N cI cR L1 L2 v).length) (rg_map _) (nd_range _) 7 rfl rfl rfl rfl hl.1 rfl (Nat.le_of_ble_eq_true rfl) dX10_doPlace_127 ⟨Nat.le_of_ble_eq_true rfl, Nat.le_of_ble_eq_true rfl⟩) hP hD hS hA (fun u36 H locs hw35 hP hD hS => ?_)
                obtain ⟨fr35, ex35, rs35⟩ := hw35
                refine W.widen (k := 0) (n := 0) (Nat.le_refl _) (Nat.le_refl _) ?_
                refine lv_goto (tgt := 133) hx hb dX10_doPlace_130 (by decide) ?_
                exact W.vret hx hb hr (fun t ht9 hW => ⟨⟨u36, rfl, ⟨(FC.tr (FC.rf _) (FC.up fr35 (by decide) (by decide))), (Or.inr (⟨h1, (Or.inr (⟨h8, (Or.inr (⟨h15, (Or.inr (⟨h19, (Or.inr (⟨h23, (Or.inr (⟨h27, (Or.inl ⟨h31, r34, ex32, u36, ex35, ⟨fr35, rs35⟩, rfl⟩)⟩))⟩))⟩))⟩))⟩))⟩)), (RS0.tr RS0.rf rs35)⟩, by rw [ht9]; exact hP, hD⟩, hS.F ht9⟩) hS.2.2 dX10_doPlace_133
              ·
                refine lv_tableOut (tgt := 133) hx hb dX10_doPlace_1 (by have := lv_neT h1 (a := 5) (by decide); have := lv_neT h8 (a := 6) (by decide); have := lv_neT h15 (a := 7) (by decide); have := lv_neT h19 (a := 8) (by decide); have := lv_neT h23 (a := 9) (by decide); have := lv_neT h27 (a := 10) (by decide); have := lv_neT h31 (a := 11) (by decide); omega) (by decide) ?_
                exact W.vret hx hb hr (fun t ht9 hW => ⟨⟨v, rfl, ⟨(FC.rf _), (Or.inr (⟨h1, (Or.inr (⟨h8, (Or.inr (⟨h15, (Or.inr (⟨h19, (Or.inr (⟨h23, (Or.inr (⟨h27, (Or.inr (⟨h31, rfl⟩))⟩))⟩))⟩))⟩))⟩))⟩)), RS0.rf⟩, by rw [ht9]; exact hP, hD⟩, hS.F ht9⟩) hS.2.2 dX10_doPlace_133
