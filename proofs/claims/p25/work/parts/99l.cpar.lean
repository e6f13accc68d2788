theorem dX5_newName_0 : decode cX5_newName 0 = .ok (.aload_n 0, 1) := by decide +kernel
theorem dX5_newName_1 : decode cX5_newName 1 = .ok (.getfield 20, 3) := by decide +kernel
theorem tw_571 : (.fieldLink RX5 20 "PocketCompiler$Parser" "tokens" "LPocketCompiler$Tokens;" : Cond) ∈ tw_W := tw_in (t8_2 (List.mem_of_getElem? (i := 55) rfl)) rfl
theorem itX5 : ∀ w ∈ wsX50, w ∈ tw_W := tw_all (by decide +kernel)
theorem dX5_newName_4 : decode cX5_newName 4 = .ok (.iconst 2, 1) := by decide +kernel
theorem dX5_newName_5 : decode cX5_newName 5 = .ok (.invokevirtual 90, 3) := by decide +kernel
theorem tw_572 : ∀ w ∈ ([.methodLink RX5 90 yX9_need, .instanceMethod yX9_need, .selects RX9 yX9_need yX9_need, .initialized RX9] : List Cond), w ∈ tw_W := al_c (tw_in (t8_3 (List.mem_of_getElem? (i := 199) rfl)) rfl) (al_c (tw_in (t8_3 (List.mem_of_getElem? (i := 200) rfl)) rfl) (al_c (tw_in (t8_3 (List.mem_of_getElem? (i := 201) rfl)) rfl) (al_c (tw_in (t8_1 (List.mem_of_getElem? (i := 10) rfl)) rfl) al_n)))
theorem dX5_newName_8 : decode cX5_newName 8 = .ok (.aload_n 0, 1) := by decide +kernel
theorem dX5_newName_9 : decode cX5_newName 9 = .ok (.getfield 27, 3) := by decide +kernel
theorem tw_573 : (.fieldLink RX5 27 "PocketCompiler$Parser" "builder" "LPocketCompiler$Builder;" : Cond) ∈ tw_W := tw_in (t8_2 (List.mem_of_getElem? (i := 57) rfl)) rfl
theorem dX5_newName_12 : decode cX5_newName 12 = .ok (.aload_n 0, 1) := by decide +kernel
theorem dX5_newName_13 : decode cX5_newName 13 = .ok (.getfield 20, 3) := by decide +kernel
theorem dX5_newName_16 : decode cX5_newName 16 = .ok (.invokevirtual 93, 3) := by decide +kernel
theorem tw_574 : ∀ w ∈ ([.methodLink RX5 93 yX9_value, .instanceMethod yX9_value, .selects RX9 yX9_value yX9_value, .initialized RX9] : List Cond), w ∈ tw_W := al_c (tw_in (t8_3 (List.mem_of_getElem? (i := 203) rfl)) rfl) (al_c (tw_in (t8_3 (List.mem_of_getElem? (i := 204) rfl)) rfl) (al_c (tw_in (t8_3 (List.mem_of_getElem? (i := 205) rfl)) rfl) (al_c (tw_in (t8_1 (List.mem_of_getElem? (i := 10) rfl)) rfl) al_n)))
theorem dX5_newName_19 : decode cX5_newName 19 = .ok (.invokevirtual 183, 3) := by decide +kernel
theorem tw_575 : (.code yX1_isToldInBlock cX1_isToldInBlock 2 (some .boolean) : Cond) ∈ tw_W := tw_in (t8_4 (List.mem_of_getElem? (i := 24) rfl)) rfl
theorem tw_576 : ∀ w ∈ ([.methodLink RX5 183 yX1_isToldInBlock, .instanceMethod yX1_isToldInBlock, .selects RX1 yX1_isToldInBlock yX1_isToldInBlock, .initialized RX1] : List Cond), w ∈ tw_W := al_c (tw_in (t8_4 (List.mem_of_getElem? (i := 21) rfl)) rfl) (al_c (tw_in (t8_4 (List.mem_of_getElem? (i := 22) rfl)) rfl) (al_c (tw_in (t8_4 (List.mem_of_getElem? (i := 23) rfl)) rfl) (al_c (tw_in (t8_1 (List.mem_of_getElem? (i := 11) rfl)) rfl) al_n)))
theorem dX5_newName_22 : decode cX5_newName 22 = .ok (.ifCond .eq 18, 3) := by decide +kernel
theorem dX5_newName_40 : decode cX5_newName 40 = .ok (.aload_n 0, 1) := by decide +kernel
theorem dX5_newName_41 : decode cX5_newName 41 = .ok (.getfield 20, 3) := by decide +kernel
theorem dX5_newName_44 : decode cX5_newName 44 = .ok (.invokevirtual 93, 3) := by decide +kernel
theorem dX5_newName_47 : decode cX5_newName 47 = .ok (.ireturn, 1) := by decide +kernel
theorem dX5_newName_25 : decode cX5_newName 25 = .ok (.aload_n 0, 1) := by decide +kernel
theorem dX5_newName_26 : decode cX5_newName 26 = .ok (.getfield 20, 3) := by decide +kernel
theorem dX5_newName_29 : decode cX5_newName 29 = .ok (.iconst 3, 1) := by decide +kernel
theorem dX5_newName_30 : decode cX5_newName 30 = .ok (.aload_n 0, 1) := by decide +kernel
theorem dX5_newName_31 : decode cX5_newName 31 = .ok (.getfield 20, 3) := by decide +kernel
theorem dX5_newName_34 : decode cX5_newName 34 = .ok (.invokevirtual 104, 3) := by decide +kernel
theorem tw_577 : ∀ w ∈ ([.methodLink RX5 104 yX9_place, .instanceMethod yX9_place, .selects RX9 yX9_place yX9_place, .initialized RX9] : List Cond), w ∈ tw_W := al_c (tw_in (t8_3 (List.mem_of_getElem? (i := 223) rfl)) rfl) (al_c (tw_in (t8_3 (List.mem_of_getElem? (i := 117) rfl)) rfl) (al_c (tw_in (t8_3 (List.mem_of_getElem? (i := 118) rfl)) rfl) (al_c (tw_in (t8_1 (List.mem_of_getElem? (i := 10) rfl)) rfl) al_n)))
theorem dX5_newName_37 : decode cX5_newName 37 = .ok (.invokevirtual 79, 3) := by decide +kernel
theorem tw_578 : ∀ w ∈ ([.methodLink RX5 79 yX9_refuse, .instanceMethod yX9_refuse, .selects RX9 yX9_refuse yX9_refuse, .initialized RX9] : List Cond), w ∈ tw_W := al_c (tw_in (t8_3 (List.mem_of_getElem? (i := 224) rfl)) rfl) (al_c (tw_in (t8_3 (List.mem_of_getElem? (i := 121) rfl)) rfl) (al_c (tw_in (t8_3 (List.mem_of_getElem? (i := 122) rfl)) rfl) (al_c (tw_in (t8_1 (List.mem_of_getElem? (i := 10) rfl)) rfl) al_n)))
theorem dX5_wantSlot_0 : decode cX5_wantSlot 0 = .ok (.aload_n 0, 1) := by decide +kernel
theorem dX5_wantSlot_1 : decode cX5_wantSlot 1 = .ok (.getfield 27, 3) := by decide +kernel
theorem dX5_wantSlot_4 : decode cX5_wantSlot 4 = .ok (.iconst 1, 1) := by decide +kernel
theorem dX5_wantSlot_5 : decode cX5_wantSlot 5 = .ok (.invokevirtual 186, 3) := by decide +kernel
theorem tw_579 : ∀ w ∈ ([.methodLink RX5 186 yX1_wantSlots, .instanceMethod yX1_wantSlots, .selects RX1 yX1_wantSlots yX1_wantSlots, .initialized RX1] : List Cond), w ∈ tw_W := al_c (tw_in (t8_4 (List.mem_of_getElem? (i := 36) rfl)) rfl) (al_c (tw_in (t8_4 (List.mem_of_getElem? (i := 37) rfl)) rfl) (al_c (tw_in (t8_4 (List.mem_of_getElem? (i := 38) rfl)) rfl) (al_c (tw_in (t8_1 (List.mem_of_getElem? (i := 11) rfl)) rfl) al_n)))
theorem dX5_wantSlot_8 : decode cX5_wantSlot 8 = .ok (.ifCond .ne 18, 3) := by decide +kernel
theorem dX5_wantSlot_26 : decode cX5_wantSlot 26 = .ok (.return_, 1) := by decide +kernel
theorem dX5_wantSlot_11 : decode cX5_wantSlot 11 = .ok (.aload_n 0, 1) := by decide +kernel
theorem dX5_wantSlot_12 : decode cX5_wantSlot 12 = .ok (.getfield 20, 3) := by decide +kernel
theorem dX5_wantSlot_15 : decode cX5_wantSlot 15 = .ok (.iconst 5, 1) := by decide +kernel
theorem dX5_wantSlot_16 : decode cX5_wantSlot 16 = .ok (.aload_n 0, 1) := by decide +kernel
theorem dX5_wantSlot_17 : decode cX5_wantSlot 17 = .ok (.getfield 20, 3) := by decide +kernel
theorem dX5_wantSlot_20 : decode cX5_wantSlot 20 = .ok (.invokevirtual 104, 3) := by decide +kernel
theorem dX5_wantSlot_23 : decode cX5_wantSlot 23 = .ok (.invokevirtual 79, 3) := by decide +kernel
theorem dX5_parameter_0 : decode cX5_parameter 0 = .ok (.aload_n 0, 1) := by decide +kernel
theorem dX5_parameter_1 : decode cX5_parameter 1 = .ok (.getfield 20, 3) := by decide +kernel
theorem dX5_parameter_4 : decode cX5_parameter 4 = .ok (.bipush 10, 2) := by decide +kernel
theorem dX5_parameter_6 : decode cX5_parameter 6 = .ok (.invokevirtual 87, 3) := by decide +kernel
theorem tw_580 : ∀ w ∈ ([.methodLink RX5 87 yX9_expect, .instanceMethod yX9_expect, .selects RX9 yX9_expect yX9_expect, .initialized RX9] : List Cond), w ∈ tw_W := al_c (tw_in (t8_3 (List.mem_of_getElem? (i := 111) rfl)) rfl) (al_c (tw_in (t8_3 (List.mem_of_getElem? (i := 112) rfl)) rfl) (al_c (tw_in (t8_3 (List.mem_of_getElem? (i := 113) rfl)) rfl) (al_c (tw_in (t8_1 (List.mem_of_getElem? (i := 10) rfl)) rfl) al_n)))
theorem dX5_parameter_9 : decode cX5_parameter 9 = .ok (.aload_n 0, 1) := by decide +kernel
theorem dX5_parameter_10 : decode cX5_parameter 10 = .ok (.invokevirtual 174, 3) := by decide +kernel
theorem tw_581 : (.code yX5_newName cX5_newName 1 (some .int) : Cond) ∈ tw_W := tw_in (t8_4 (List.mem_of_getElem? (i := 20) rfl)) rfl
theorem tw_582 : ∀ w ∈ ([.methodLink RX5 174 yX5_newName, .instanceMethod yX5_newName, .selects RX5 yX5_newName yX5_newName, .initialized RX5] : List Cond), w ∈ tw_W := al_c (tw_in (t8_4 (List.mem_of_getElem? (i := 17) rfl)) rfl) (al_c (tw_in (t8_4 (List.mem_of_getElem? (i := 19) rfl)) rfl) (al_c (tw_in (t7_2 (q := (yX5_newName, 7)) (List.mem_of_getElem? (i := 0) rfl)) rfl) (al_c (tw_in (t8_1 (List.mem_of_getElem? (i := 9) rfl)) rfl) al_n)))
theorem dX5_parameter_13 : decode cX5_parameter 13 = .ok (.istore_n 1, 1) := by decide +kernel
theorem dX5_parameter_14 : decode cX5_parameter 14 = .ok (.aload_n 0, 1) := by decide +kernel
theorem dX5_parameter_15 : decode cX5_parameter 15 = .ok (.getfield 27, 3) := by decide +kernel
theorem dX5_parameter_18 : decode cX5_parameter 18 = .ok (.getfield 141, 3) := by decide +kernel
theorem dX5_parameter_21 : decode cX5_parameter 21 = .ok (.bipush 8, 2) := by decide +kernel
theorem dX5_parameter_23 : decode cX5_parameter 23 = .ok (.if_icmp .lt 18, 3) := by decide +kernel
theorem dX5_parameter_41 : decode cX5_parameter 41 = .ok (.aload_n 0, 1) := by decide +kernel
theorem dX5_parameter_42 : decode cX5_parameter 42 = .ok (.invokevirtual 177, 3) := by decide +kernel
theorem tw_583 : (.code yX5_wantSlot cX5_wantSlot 1 none : Cond) ∈ tw_W := tw_in (t8_4 (List.mem_of_getElem? (i := 35) rfl)) rfl
theorem tw_584 : ∀ w ∈ ([.methodLink RX5 177 yX5_wantSlot, .instanceMethod yX5_wantSlot, .selects RX5 yX5_wantSlot yX5_wantSlot, .initialized RX5] : List Cond), w ∈ tw_W := al_c (tw_in (t8_4 (List.mem_of_getElem? (i := 32) rfl)) rfl) (al_c (tw_in (t8_4 (List.mem_of_getElem? (i := 34) rfl)) rfl) (al_c (tw_in (t7_2 (q := (yX5_wantSlot, 7)) (List.mem_of_getElem? (i := 1) rfl)) rfl) (al_c (tw_in (t8_1 (List.mem_of_getElem? (i := 9) rfl)) rfl) al_n)))
theorem dX5_parameter_45 : decode cX5_parameter 45 = .ok (.aload_n 0, 1) := by decide +kernel
theorem dX5_parameter_46 : decode cX5_parameter 46 = .ok (.getfield 20, 3) := by decide +kernel
theorem dX5_parameter_49 : decode cX5_parameter 49 = .ok (.invokevirtual 117, 3) := by decide +kernel
theorem tw_585 : ∀ w ∈ ([.methodLink RX5 117 yX9_take, .instanceMethod yX9_take, .selects RX9 yX9_take yX9_take, .initialized RX9] : List Cond), w ∈ tw_W := al_c (tw_in (t8_4 (List.mem_of_getElem? (i := 1) rfl)) rfl) (al_c (tw_in (t8_4 (List.mem_of_getElem? (i := 2) rfl)) rfl) (al_c (tw_in (t8_4 (List.mem_of_getElem? (i := 3) rfl)) rfl) (al_c (tw_in (t8_1 (List.mem_of_getElem? (i := 10) rfl)) rfl) al_n)))
theorem dX5_parameter_52 : decode cX5_parameter 52 = .ok (.aload_n 0, 1) := by decide +kernel
theorem dX5_parameter_53 : decode cX5_parameter 53 = .ok (.getfield 27, 3) := by decide +kernel
theorem dX5_parameter_56 : decode cX5_parameter 56 = .ok (.iload_n 1, 1) := by decide +kernel
theorem dX5_parameter_57 : decode cX5_parameter 57 = .ok (.invokevirtual 180, 3) := by decide +kernel
theorem tw_586 : (.code yX1_learn cX1_learn 2 none : Cond) ∈ tw_W := tw_in (t8_4 (List.mem_of_getElem? (i := 46) rfl)) rfl
theorem tw_587 : ∀ w ∈ ([.methodLink RX5 180 yX1_learn, .instanceMethod yX1_learn, .selects RX1 yX1_learn yX1_learn, .initialized RX1] : List Cond), w ∈ tw_W := al_c (tw_in (t8_4 (List.mem_of_getElem? (i := 43) rfl)) rfl) (al_c (tw_in (t8_4 (List.mem_of_getElem? (i := 44) rfl)) rfl) (al_c (tw_in (t8_4 (List.mem_of_getElem? (i := 45) rfl)) rfl) (al_c (tw_in (t8_1 (List.mem_of_getElem? (i := 11) rfl)) rfl) al_n)))
theorem dX5_parameter_60 : decode cX5_parameter 60 = .ok (.return_, 1) := by decide +kernel
theorem dX5_parameter_26 : decode cX5_parameter 26 = .ok (.aload_n 0, 1) := by decide +kernel
theorem dX5_parameter_27 : decode cX5_parameter 27 = .ok (.getfield 20, 3) := by decide +kernel
theorem dX5_parameter_30 : decode cX5_parameter 30 = .ok (.iconst 5, 1) := by decide +kernel
theorem dX5_parameter_31 : decode cX5_parameter 31 = .ok (.aload_n 0, 1) := by decide +kernel
theorem dX5_parameter_32 : decode cX5_parameter 32 = .ok (.getfield 20, 3) := by decide +kernel
theorem dX5_parameter_35 : decode cX5_parameter 35 = .ok (.invokevirtual 104, 3) := by decide +kernel
theorem dX5_parameter_38 : decode cX5_parameter 38 = .ok (.invokevirtual 79, 3) := by decide +kernel
theorem dX5_headOfItem_0 : decode cX5_headOfItem 0 = .ok (.aload_n 0, 1) := by decide +kernel
theorem dX5_headOfItem_1 : decode cX5_headOfItem 1 = .ok (.getfield 20, 3) := by decide +kernel
theorem dX5_headOfItem_4 : decode cX5_headOfItem 4 = .ok (.bipush 10, 2) := by decide +kernel
theorem dX5_headOfItem_6 : decode cX5_headOfItem 6 = .ok (.invokevirtual 87, 3) := by decide +kernel
theorem dX5_headOfItem_9 : decode cX5_headOfItem 9 = .ok (.aload_n 0, 1) := by decide +kernel
theorem dX5_headOfItem_10 : decode cX5_headOfItem 10 = .ok (.getfield 20, 3) := by decide +kernel
theorem dX5_headOfItem_13 : decode cX5_headOfItem 13 = .ok (.iconst 2, 1) := by decide +kernel
theorem dX5_headOfItem_14 : decode cX5_headOfItem 14 = .ok (.invokevirtual 90, 3) := by decide +kernel
theorem dX5_headOfItem_17 : decode cX5_headOfItem 17 = .ok (.aload_n 0, 1) := by decide +kernel
theorem dX5_headOfItem_18 : decode cX5_headOfItem 18 = .ok (.getfield 20, 3) := by decide +kernel
theorem dX5_headOfItem_21 : decode cX5_headOfItem 21 = .ok (.invokevirtual 93, 3) := by decide +kernel
theorem dX5_headOfItem_24 : decode cX5_headOfItem 24 = .ok (.istore_n 1, 1) := by decide +kernel
theorem dX5_headOfItem_25 : decode cX5_headOfItem 25 = .ok (.aload_n 0, 1) := by decide +kernel
theorem dX5_headOfItem_26 : decode cX5_headOfItem 26 = .ok (.getfield 9, 3) := by decide +kernel
theorem tw_588 : (.fieldLink RX5 9 "PocketCompiler$Parser" "program" "LPocketCompiler$Program;" : Cond) ∈ tw_W := tw_in (t8_2 (List.mem_of_getElem? (i := 54) rfl)) rfl
theorem dX5_headOfItem_29 : decode cX5_headOfItem 29 = .ok (.iload_n 1, 1) := by decide +kernel
theorem dX5_headOfItem_30 : decode cX5_headOfItem 30 = .ok (.invokevirtual 96, 3) := by decide +kernel
theorem tw_589 : ∀ w ∈ ([.methodLink RX5 96 yX7_functionNamed, .instanceMethod yX7_functionNamed, .selects RX7 yX7_functionNamed yX7_functionNamed, .initialized RX7] : List Cond), w ∈ tw_W := al_c (tw_in (t8_3 (List.mem_of_getElem? (i := 207) rfl)) rfl) (al_c (tw_in (t8_3 (List.mem_of_getElem? (i := 208) rfl)) rfl) (al_c (tw_in (t8_3 (List.mem_of_getElem? (i := 209) rfl)) rfl) (al_c (tw_in (t8_1 (List.mem_of_getElem? (i := 8) rfl)) rfl) al_n)))
theorem dX5_headOfItem_33 : decode cX5_headOfItem 33 = .ok (.iconst (-1), 1) := by decide +kernel
theorem dX5_headOfItem_34 : decode cX5_headOfItem 34 = .ok (.if_icmp .ne 15, 3) := by decide +kernel
theorem dX5_headOfItem_49 : decode cX5_headOfItem 49 = .ok (.aload_n 0, 1) := by decide +kernel
theorem dX5_headOfItem_50 : decode cX5_headOfItem 50 = .ok (.getfield 20, 3) := by decide +kernel
theorem dX5_headOfItem_53 : decode cX5_headOfItem 53 = .ok (.iconst 3, 1) := by decide +kernel
theorem dX5_headOfItem_54 : decode cX5_headOfItem 54 = .ok (.aload_n 0, 1) := by decide +kernel
theorem dX5_headOfItem_55 : decode cX5_headOfItem 55 = .ok (.getfield 20, 3) := by decide +kernel
theorem dX5_headOfItem_58 : decode cX5_headOfItem 58 = .ok (.invokevirtual 104, 3) := by decide +kernel
theorem dX5_headOfItem_61 : decode cX5_headOfItem 61 = .ok (.invokevirtual 79, 3) := by decide +kernel
theorem dX5_headOfItem_37 : decode cX5_headOfItem 37 = .ok (.aload_n 0, 1) := by decide +kernel
theorem dX5_headOfItem_38 : decode cX5_headOfItem 38 = .ok (.getfield 9, 3) := by decide +kernel
theorem dX5_headOfItem_41 : decode cX5_headOfItem 41 = .ok (.iload_n 1, 1) := by decide +kernel
theorem dX5_headOfItem_42 : decode cX5_headOfItem 42 = .ok (.invokevirtual 101, 3) := by decide +kernel
theorem tw_590 : ∀ w ∈ ([.methodLink RX5 101 yX7_globalNamed, .instanceMethod yX7_globalNamed, .selects RX7 yX7_globalNamed yX7_globalNamed, .initialized RX7] : List Cond), w ∈ tw_W := al_c (tw_in (t8_3 (List.mem_of_getElem? (i := 215) rfl)) rfl) (al_c (tw_in (t8_3 (List.mem_of_getElem? (i := 216) rfl)) rfl) (al_c (tw_in (t8_3 (List.mem_of_getElem? (i := 217) rfl)) rfl) (al_c (tw_in (t8_1 (List.mem_of_getElem? (i := 8) rfl)) rfl) al_n)))
theorem dX5_headOfItem_45 : decode cX5_headOfItem 45 = .ok (.iconst (-1), 1) := by decide +kernel
theorem dX5_headOfItem_46 : decode cX5_headOfItem 46 = .ok (.if_icmp .eq 18, 3) := by decide +kernel
theorem dX5_headOfItem_64 : decode cX5_headOfItem 64 = .ok (.aload_n 0, 1) := by decide +kernel
theorem dX5_headOfItem_65 : decode cX5_headOfItem 65 = .ok (.getfield 20, 3) := by decide +kernel
theorem dX5_headOfItem_68 : decode cX5_headOfItem 68 = .ok (.invokevirtual 107, 3) := by decide +kernel
theorem tw_591 : ∀ w ∈ ([.methodLink RX5 107 yX9_kindBehind, .instanceMethod yX9_kindBehind, .selects RX9 yX9_kindBehind yX9_kindBehind, .initialized RX9] : List Cond), w ∈ tw_W := al_c (tw_in (t8_3 (List.mem_of_getElem? (i := 225) rfl)) rfl) (al_c (tw_in (t8_3 (List.mem_of_getElem? (i := 226) rfl)) rfl) (al_c (tw_in (t8_3 (List.mem_of_getElem? (i := 227) rfl)) rfl) (al_c (tw_in (t8_1 (List.mem_of_getElem? (i := 10) rfl)) rfl) al_n)))
theorem dX5_headOfItem_71 : decode cX5_headOfItem 71 = .ok (.ireturn, 1) := by decide +kernel
theorem dX5_jumpStat_0 : decode cX5_jumpStat 0 = .ok (.aload_n 0, 1) := by decide +kernel
theorem dX5_jumpStat_1 : decode cX5_jumpStat 1 = .ok (.getfield 20, 3) := by decide +kernel
theorem dX5_jumpStat_4 : decode cX5_jumpStat 4 = .ok (.invokevirtual 104, 3) := by decide +kernel
theorem dX5_jumpStat_7 : decode cX5_jumpStat 7 = .ok (.istore_n 2, 1) := by decide +kernel
theorem dX5_jumpStat_8 : decode cX5_jumpStat 8 = .ok (.aload_n 0, 1) := by decide +kernel
theorem dX5_jumpStat_9 : decode cX5_jumpStat 9 = .ok (.getfield 20, 3) := by decide +kernel
theorem dX5_jumpStat_12 : decode cX5_jumpStat 12 = .ok (.invokevirtual 117, 3) := by decide +kernel
theorem dX5_jumpStat_15 : decode cX5_jumpStat 15 = .ok (.iload_n 1, 1) := by decide +kernel
theorem dX5_jumpStat_16 : decode cX5_jumpStat 16 = .ok (.iconst (-1), 1) := by decide +kernel
theorem dX5_jumpStat_17 : decode cX5_jumpStat 17 = .ok (.if_icmp .ne 13, 3) := by decide +kernel
theorem dX5_jumpStat_30 : decode cX5_jumpStat 30 = .ok (.aload_n 0, 1) := by decide +kernel
theorem dX5_jumpStat_31 : decode cX5_jumpStat 31 = .ok (.getfield 27, 3) := by decide +kernel
theorem dX5_jumpStat_34 : decode cX5_jumpStat 34 = .ok (.bipush 19, 2) := by decide +kernel
theorem dX5_jumpStat_36 : decode cX5_jumpStat 36 = .ok (.iload_n 1, 1) := by decide +kernel
theorem dX5_jumpStat_37 : decode cX5_jumpStat 37 = .ok (.iconst 0, 1) := by decide +kernel
theorem dX5_jumpStat_38 : decode cX5_jumpStat 38 = .ok (.invokevirtual 147, 3) := by decide +kernel
theorem tw_592 : ∀ w ∈ ([.methodLink RX5 147 yX1_add, .instanceMethod yX1_add, .selects RX1 yX1_add yX1_add, .initialized RX1] : List Cond), w ∈ tw_W := al_c (tw_in (t8_4 (List.mem_of_getElem? (i := 51) rfl)) rfl) (al_c (tw_in (t8_4 (List.mem_of_getElem? (i := 52) rfl)) rfl) (al_c (tw_in (t8_4 (List.mem_of_getElem? (i := 53) rfl)) rfl) (al_c (tw_in (t8_1 (List.mem_of_getElem? (i := 11) rfl)) rfl) al_n)))
theorem dX5_jumpStat_41 : decode cX5_jumpStat 41 = .ok (.aload_n 0, 1) := by decide +kernel
theorem dX5_jumpStat_42 : decode cX5_jumpStat 42 = .ok (.getfield 20, 3) := by decide +kernel
theorem dX5_jumpStat_45 : decode cX5_jumpStat 45 = .ok (.bipush 36, 2) := by decide +kernel
theorem dX5_jumpStat_47 : decode cX5_jumpStat 47 = .ok (.invokevirtual 87, 3) := by decide +kernel
theorem dX5_jumpStat_50 : decode cX5_jumpStat 50 = .ok (.return_, 1) := by decide +kernel
theorem dX5_jumpStat_20 : decode cX5_jumpStat 20 = .ok (.aload_n 0, 1) := by decide +kernel
theorem dX5_jumpStat_21 : decode cX5_jumpStat 21 = .ok (.getfield 20, 3) := by decide +kernel
theorem dX5_jumpStat_24 : decode cX5_jumpStat 24 = .ok (.bipush 6, 2) := by decide +kernel
theorem dX5_jumpStat_26 : decode cX5_jumpStat 26 = .ok (.iload_n 2, 1) := by decide +kernel
theorem dX5_jumpStat_27 : decode cX5_jumpStat 27 = .ok (.invokevirtual 79, 3) := by decide +kernel
theorem dX5_parameters_0 : decode cX5_parameters 0 = .ok (.aload_n 0, 1) := by decide +kernel
theorem dX5_parameters_1 : decode cX5_parameters 1 = .ok (.getfield 20, 3) := by decide +kernel
theorem dX5_parameters_4 : decode cX5_parameters 4 = .ok (.invokevirtual 123, 3) := by decide +kernel
theorem tw_593 : ∀ w ∈ ([.methodLink RX5 123 yX9_open, .instanceMethod yX9_open, .selects RX9 yX9_open yX9_open, .initialized RX9] : List Cond), w ∈ tw_W := al_c (tw_in (t8_4 (List.mem_of_getElem? (i := 9) rfl)) rfl) (al_c (tw_in (t8_4 (List.mem_of_getElem? (i := 10) rfl)) rfl) (al_c (tw_in (t8_4 (List.mem_of_getElem? (i := 11) rfl)) rfl) (al_c (tw_in (t8_1 (List.mem_of_getElem? (i := 10) rfl)) rfl) al_n)))
theorem dX5_parameters_7 : decode cX5_parameters 7 = .ok (.aload_n 0, 1) := by decide +kernel
theorem dX5_parameters_8 : decode cX5_parameters 8 = .ok (.getfield 20, 3) := by decide +kernel
theorem dX5_parameters_11 : decode cX5_parameters 11 = .ok (.invokevirtual 48, 3) := by decide +kernel
theorem tw_594 : ∀ w ∈ ([.methodLink RX5 48 yX9_kind, .instanceMethod yX9_kind, .selects RX9 yX9_kind yX9_kind, .initialized RX9] : List Cond), w ∈ tw_W := al_c (tw_in (t8_3 (List.mem_of_getElem? (i := 103) rfl)) rfl) (al_c (tw_in (t8_3 (List.mem_of_getElem? (i := 104) rfl)) rfl) (al_c (tw_in (t8_3 (List.mem_of_getElem? (i := 105) rfl)) rfl) (al_c (tw_in (t8_1 (List.mem_of_getElem? (i := 10) rfl)) rfl) al_n)))
theorem dX5_parameters_14 : decode cX5_parameters 14 = .ok (.bipush 31, 2) := by decide +kernel
theorem dX5_parameters_16 : decode cX5_parameters 16 = .ok (.if_icmp .eq 45, 3) := by decide +kernel
theorem dX5_parameters_61 : decode cX5_parameters 61 = .ok (.aload_n 0, 1) := by decide +kernel
theorem dX5_parameters_62 : decode cX5_parameters 62 = .ok (.getfield 20, 3) := by decide +kernel
theorem dX5_parameters_65 : decode cX5_parameters 65 = .ok (.bipush 31, 2) := by decide +kernel
theorem dX5_parameters_67 : decode cX5_parameters 67 = .ok (.invokevirtual 87, 3) := by decide +kernel
theorem dX5_parameters_70 : decode cX5_parameters 70 = .ok (.aload_n 0, 1) := by decide +kernel
theorem dX5_parameters_71 : decode cX5_parameters 71 = .ok (.getfield 20, 3) := by decide +kernel
theorem dX5_parameters_74 : decode cX5_parameters 74 = .ok (.invokevirtual 126, 3) := by decide +kernel
theorem tw_595 : ∀ w ∈ ([.methodLink RX5 126 yX9_close, .instanceMethod yX9_close, .selects RX9 yX9_close yX9_close, .initialized RX9] : List Cond), w ∈ tw_W := al_c (tw_in (t8_4 (List.mem_of_getElem? (i := 47) rfl)) rfl) (al_c (tw_in (t8_4 (List.mem_of_getElem? (i := 48) rfl)) rfl) (al_c (tw_in (t8_4 (List.mem_of_getElem? (i := 49) rfl)) rfl) (al_c (tw_in (t8_1 (List.mem_of_getElem? (i := 10) rfl)) rfl) al_n)))
theorem dX5_parameters_77 : decode cX5_parameters 77 = .ok (.return_, 1) := by decide +kernel
theorem dX5_parameters_19 : decode cX5_parameters 19 = .ok (.aload_n 0, 1) := by decide +kernel
theorem dX5_parameters_20 : decode cX5_parameters 20 = .ok (.invokevirtual 171, 3) := by decide +kernel
theorem tw_596 : (.code yX5_parameter cX5_parameter 2 none : Cond) ∈ tw_W := tw_in (t8_4 (List.mem_of_getElem? (i := 16) rfl)) rfl
theorem tw_597 : ∀ w ∈ ([.methodLink RX5 171 yX5_parameter, .instanceMethod yX5_parameter, .selects RX5 yX5_parameter yX5_parameter, .initialized RX5] : List Cond), w ∈ tw_W := al_c (tw_in (t8_4 (List.mem_of_getElem? (i := 13) rfl)) rfl) (al_c (tw_in (t8_4 (List.mem_of_getElem? (i := 15) rfl)) rfl) (al_c (tw_in (t7_1 (q := (yX5_parameter, 7)) (List.mem_of_getElem? (i := 15) rfl)) rfl) (al_c (tw_in (t8_1 (List.mem_of_getElem? (i := 9) rfl)) rfl) al_n)))
theorem dX5_parameters_23 : decode cX5_parameters 23 = .ok (.iconst 0, 1) := by decide +kernel
theorem dX5_parameters_24 : decode cX5_parameters 24 = .ok (.istore_n 1, 1) := by decide +kernel
theorem dX5_parameters_25 : decode cX5_parameters 25 = .ok (.iload_n 1, 1) := by decide +kernel
theorem dX5_parameters_26 : decode cX5_parameters 26 = .ok (.sipush 1500, 3) := by decide +kernel
theorem dX5_parameters_29 : decode cX5_parameters 29 = .ok (.if_icmp .ge 32, 3) := by decide +kernel
theorem dX5_parameters_32 : decode cX5_parameters 32 = .ok (.aload_n 0, 1) := by decide +kernel
theorem dX5_parameters_33 : decode cX5_parameters 33 = .ok (.getfield 20, 3) := by decide +kernel
theorem dX5_parameters_36 : decode cX5_parameters 36 = .ok (.invokevirtual 48, 3) := by decide +kernel
theorem dX5_parameters_39 : decode cX5_parameters 39 = .ok (.bipush 37, 2) := by decide +kernel
theorem dX5_parameters_41 : decode cX5_parameters 41 = .ok (.if_icmp .ne 20, 3) := by decide +kernel
theorem dX5_parameters_44 : decode cX5_parameters 44 = .ok (.aload_n 0, 1) := by decide +kernel
theorem dX5_parameters_45 : decode cX5_parameters 45 = .ok (.getfield 20, 3) := by decide +kernel
theorem dX5_parameters_48 : decode cX5_parameters 48 = .ok (.invokevirtual 117, 3) := by decide +kernel
theorem dX5_parameters_51 : decode cX5_parameters 51 = .ok (.aload_n 0, 1) := by decide +kernel
theorem dX5_parameters_52 : decode cX5_parameters 52 = .ok (.invokevirtual 171, 3) := by decide +kernel
theorem dX5_parameters_55 : decode cX5_parameters 55 = .ok (.iinc 1 1, 3) := by decide +kernel
theorem dX5_parameters_58 : decode cX5_parameters 58 = .ok (.goto (-33), 3) := by decide +kernel
theorem dX5_rowSize_0 : decode cX5_rowSize 0 = .ok (.aload_n 0, 1) := by decide +kernel
theorem dX5_rowSize_1 : decode cX5_rowSize 1 = .ok (.getfield 20, 3) := by decide +kernel
theorem dX5_rowSize_4 : decode cX5_rowSize 4 = .ok (.invokevirtual 123, 3) := by decide +kernel
theorem dX5_rowSize_7 : decode cX5_rowSize 7 = .ok (.aload_n 0, 1) := by decide +kernel
theorem dX5_rowSize_8 : decode cX5_rowSize 8 = .ok (.getfield 20, 3) := by decide +kernel
theorem dX5_rowSize_11 : decode cX5_rowSize 11 = .ok (.invokevirtual 48, 3) := by decide +kernel
theorem dX5_rowSize_14 : decode cX5_rowSize 14 = .ok (.iconst 4, 1) := by decide +kernel
theorem dX5_rowSize_15 : decode cX5_rowSize 15 = .ok (.if_icmp .ne 7, 3) := by decide +kernel
theorem dX5_rowSize_22 : decode cX5_rowSize 22 = .ok (.iconst 0, 1) := by decide +kernel
theorem dX5_rowSize_23 : decode cX5_rowSize 23 = .ok (.istore_n 1, 1) := by decide +kernel
theorem dX5_rowSize_24 : decode cX5_rowSize 24 = .ok (.iload_n 1, 1) := by decide +kernel
theorem dX5_rowSize_25 : decode cX5_rowSize 25 = .ok (.ifCond .ne 11, 3) := by decide +kernel
theorem dX5_rowSize_28 : decode cX5_rowSize 28 = .ok (.aload_n 0, 1) := by decide +kernel
theorem dX5_rowSize_29 : decode cX5_rowSize 29 = .ok (.getfield 20, 3) := by decide +kernel
theorem dX5_rowSize_32 : decode cX5_rowSize 32 = .ok (.iconst 3, 1) := by decide +kernel
theorem dX5_rowSize_33 : decode cX5_rowSize 33 = .ok (.invokevirtual 90, 3) := by decide +kernel
theorem dX5_rowSize_36 : decode cX5_rowSize 36 = .ok (.aload_n 0, 1) := by decide +kernel
theorem dX5_rowSize_37 : decode cX5_rowSize 37 = .ok (.getfield 20, 3) := by decide +kernel
theorem dX5_rowSize_40 : decode cX5_rowSize 40 = .ok (.invokevirtual 93, 3) := by decide +kernel
theorem dX5_rowSize_43 : decode cX5_rowSize 43 = .ok (.istore_n 2, 1) := by decide +kernel
theorem dX5_rowSize_44 : decode cX5_rowSize 44 = .ok (.iload_n 1, 1) := by decide +kernel
theorem dX5_rowSize_45 : decode cX5_rowSize 45 = .ok (.ifCond .ne 15, 3) := by decide +kernel
theorem dX5_rowSize_48 : decode cX5_rowSize 48 = .ok (.iload_n 2, 1) := by decide +kernel
theorem dX5_rowSize_49 : decode cX5_rowSize 49 = .ok (.iconst 1, 1) := by decide +kernel
theorem dX5_rowSize_50 : decode cX5_rowSize 50 = .ok (.if_icmp .lt 10, 3) := by decide +kernel
theorem dX5_rowSize_60 : decode cX5_rowSize 60 = .ok (.aload_n 0, 1) := by decide +kernel
theorem dX5_rowSize_61 : decode cX5_rowSize 61 = .ok (.getfield 20, 3) := by decide +kernel
theorem dX5_rowSize_64 : decode cX5_rowSize 64 = .ok (.iconst 5, 1) := by decide +kernel
theorem dX5_rowSize_65 : decode cX5_rowSize 65 = .ok (.aload_n 0, 1) := by decide +kernel
theorem dX5_rowSize_66 : decode cX5_rowSize 66 = .ok (.getfield 20, 3) := by decide +kernel
theorem dX5_rowSize_69 : decode cX5_rowSize 69 = .ok (.invokevirtual 104, 3) := by decide +kernel
theorem dX5_rowSize_72 : decode cX5_rowSize 72 = .ok (.invokevirtual 79, 3) := by decide +kernel
theorem dX5_rowSize_53 : decode cX5_rowSize 53 = .ok (.iload_n 2, 1) := by decide +kernel
theorem dX5_rowSize_54 : decode cX5_rowSize 54 = .ok (.sipush 1000, 3) := by decide +kernel
theorem dX5_rowSize_57 : decode cX5_rowSize 57 = .ok (.if_icmp .le 18, 3) := by decide +kernel
theorem dX5_rowSize_75 : decode cX5_rowSize 75 = .ok (.aload_n 0, 1) := by decide +kernel
theorem dX5_rowSize_76 : decode cX5_rowSize 76 = .ok (.getfield 20, 3) := by decide +kernel
theorem dX5_rowSize_79 : decode cX5_rowSize 79 = .ok (.invokevirtual 117, 3) := by decide +kernel
theorem dX5_rowSize_82 : decode cX5_rowSize 82 = .ok (.aload_n 0, 1) := by decide +kernel
theorem dX5_rowSize_83 : decode cX5_rowSize 83 = .ok (.getfield 20, 3) := by decide +kernel
theorem dX5_rowSize_86 : decode cX5_rowSize 86 = .ok (.bipush 35, 2) := by decide +kernel
theorem dX5_rowSize_88 : decode cX5_rowSize 88 = .ok (.invokevirtual 87, 3) := by decide +kernel
theorem dX5_rowSize_91 : decode cX5_rowSize 91 = .ok (.aload_n 0, 1) := by decide +kernel
theorem dX5_rowSize_92 : decode cX5_rowSize 92 = .ok (.getfield 20, 3) := by decide +kernel
theorem dX5_rowSize_95 : decode cX5_rowSize 95 = .ok (.invokevirtual 126, 3) := by decide +kernel
theorem dX5_rowSize_98 : decode cX5_rowSize 98 = .ok (.iload_n 2, 1) := by decide +kernel
theorem dX5_rowSize_99 : decode cX5_rowSize 99 = .ok (.ireturn, 1) := by decide +kernel
theorem dX5_rowSize_18 : decode cX5_rowSize 18 = .ok (.iconst 1, 1) := by decide +kernel
theorem dX5_rowSize_19 : decode cX5_rowSize 19 = .ok (.goto 4, 3) := by decide +kernel
theorem dX5_globalItem_0 : decode cX5_globalItem 0 = .ok (.aload_n 0, 1) := by decide +kernel
theorem dX5_globalItem_1 : decode cX5_globalItem 1 = .ok (.getfield 9, 3) := by decide +kernel
theorem dX5_globalItem_4 : decode cX5_globalItem 4 = .ok (.getfield 110, 3) := by decide +kernel
theorem tw_598 : (.fieldLink RX5 110 "PocketCompiler$Program" "globalCount" "I" : Cond) ∈ tw_W := tw_in (t8_1 (List.mem_of_getElem? (i := 123) rfl)) rfl
theorem dX5_globalItem_7 : decode cX5_globalItem 7 = .ok (.istore_n 2, 1) := by decide +kernel
theorem dX5_globalItem_8 : decode cX5_globalItem 8 = .ok (.iload_n 1, 1) := by decide +kernel
theorem dX5_globalItem_9 : decode cX5_globalItem 9 = .ok (.bipush 34, 2) := by decide +kernel
theorem dX5_globalItem_11 : decode cX5_globalItem 11 = .ok (.if_icmp .ne 7, 3) := by decide +kernel
theorem dX5_globalItem_18 : decode cX5_globalItem 18 = .ok (.iconst 0, 1) := by decide +kernel
theorem dX5_globalItem_19 : decode cX5_globalItem 19 = .ok (.istore_n 3, 1) := by decide +kernel
theorem dX5_globalItem_20 : decode cX5_globalItem 20 = .ok (.iload_n 3, 1) := by decide +kernel
theorem dX5_globalItem_21 : decode cX5_globalItem 21 = .ok (.ifCond .ne 9, 3) := by decide +kernel
theorem dX5_globalItem_24 : decode cX5_globalItem 24 = .ok (.iload_n 1, 1) := by decide +kernel
theorem dX5_globalItem_25 : decode cX5_globalItem 25 = .ok (.bipush 36, 2) := by decide +kernel
theorem dX5_globalItem_27 : decode cX5_globalItem 27 = .ok (.if_icmp .ne 7, 3) := by decide +kernel
theorem dX5_globalItem_34 : decode cX5_globalItem 34 = .ok (.iconst 0, 1) := by decide +kernel
theorem dX5_globalItem_35 : decode cX5_globalItem 35 = .ok (.istore 4, 2) := by decide +kernel
theorem dX5_globalItem_37 : decode cX5_globalItem 37 = .ok (.iload 4, 2) := by decide +kernel
theorem dX5_globalItem_39 : decode cX5_globalItem 39 = .ok (.ifCond .eq 24, 3) := by decide +kernel
theorem dX5_globalItem_63 : decode cX5_globalItem 63 = .ok (.aload_n 0, 1) := by decide +kernel
theorem dX5_globalItem_64 : decode cX5_globalItem 64 = .ok (.getfield 9, 3) := by decide +kernel
theorem dX5_globalItem_67 : decode cX5_globalItem 67 = .ok (.iload_n 2, 1) := by decide +kernel
theorem dX5_globalItem_68 : decode cX5_globalItem 68 = .ok (.iconst 4, 1) := by decide +kernel
theorem dX5_globalItem_69 : decode cX5_globalItem 69 = .ok (.aload_n 0, 1) := by decide +kernel
theorem dX5_globalItem_70 : decode cX5_globalItem 70 = .ok (.getfield 20, 3) := by decide +kernel
theorem dX5_globalItem_73 : decode cX5_globalItem 73 = .ok (.invokevirtual 93, 3) := by decide +kernel
theorem dX5_globalItem_76 : decode cX5_globalItem 76 = .ok (.invokevirtual 113, 3) := by decide +kernel
theorem tw_599 : (.code yX7_changeGlobal cX7_changeGlobal 4 none : Cond) ∈ tw_W := tw_in (t8_4 (List.mem_of_getElem? (i := 233) rfl)) rfl
theorem tw_600 : ∀ w ∈ ([.methodLink RX5 113 yX7_changeGlobal, .instanceMethod yX7_changeGlobal, .selects RX7 yX7_changeGlobal yX7_changeGlobal, .initialized RX7] : List Cond), w ∈ tw_W := al_c (tw_in (t8_4 (List.mem_of_getElem? (i := 230) rfl)) rfl) (al_c (tw_in (t8_4 (List.mem_of_getElem? (i := 231) rfl)) rfl) (al_c (tw_in (t8_4 (List.mem_of_getElem? (i := 232) rfl)) rfl) (al_c (tw_in (t8_1 (List.mem_of_getElem? (i := 8) rfl)) rfl) al_n)))
theorem dX5_globalItem_79 : decode cX5_globalItem 79 = .ok (.aload_n 0, 1) := by decide +kernel
theorem dX5_globalItem_80 : decode cX5_globalItem 80 = .ok (.getfield 9, 3) := by decide +kernel
theorem dX5_globalItem_83 : decode cX5_globalItem 83 = .ok (.iload_n 2, 1) := by decide +kernel
theorem dX5_globalItem_84 : decode cX5_globalItem 84 = .ok (.iconst 3, 1) := by decide +kernel
theorem dX5_globalItem_85 : decode cX5_globalItem 85 = .ok (.aload_n 0, 1) := by decide +kernel
theorem dX5_globalItem_86 : decode cX5_globalItem 86 = .ok (.getfield 20, 3) := by decide +kernel
theorem dX5_globalItem_89 : decode cX5_globalItem 89 = .ok (.invokevirtual 104, 3) := by decide +kernel
theorem dX5_globalItem_92 : decode cX5_globalItem 92 = .ok (.invokevirtual 113, 3) := by decide +kernel
theorem dX5_globalItem_95 : decode cX5_globalItem 95 = .ok (.aload_n 0, 1) := by decide +kernel
theorem dX5_globalItem_96 : decode cX5_globalItem 96 = .ok (.getfield 20, 3) := by decide +kernel
theorem dX5_globalItem_99 : decode cX5_globalItem 99 = .ok (.invokevirtual 117, 3) := by decide +kernel
theorem dX5_globalItem_102 : decode cX5_globalItem 102 = .ok (.aload_n 0, 1) := by decide +kernel
theorem dX5_globalItem_103 : decode cX5_globalItem 103 = .ok (.getfield 9, 3) := by decide +kernel
theorem dX5_globalItem_106 : decode cX5_globalItem 106 = .ok (.iload_n 2, 1) := by decide +kernel
theorem dX5_globalItem_107 : decode cX5_globalItem 107 = .ok (.iconst 2, 1) := by decide +kernel
theorem dX5_globalItem_108 : decode cX5_globalItem 108 = .ok (.iload_n 3, 1) := by decide +kernel
theorem dX5_globalItem_109 : decode cX5_globalItem 109 = .ok (.ifCond .eq 7, 3) := by decide +kernel
theorem dX5_globalItem_116 : decode cX5_globalItem 116 = .ok (.iconst 0, 1) := by decide +kernel
theorem dX5_globalItem_117 : decode cX5_globalItem 117 = .ok (.invokevirtual 113, 3) := by decide +kernel
theorem dX5_globalItem_120 : decode cX5_globalItem 120 = .ok (.aload_n 0, 1) := by decide +kernel
theorem dX5_globalItem_121 : decode cX5_globalItem 121 = .ok (.getfield 9, 3) := by decide +kernel
theorem dX5_globalItem_124 : decode cX5_globalItem 124 = .ok (.iload_n 2, 1) := by decide +kernel
theorem dX5_globalItem_125 : decode cX5_globalItem 125 = .ok (.iconst 0, 1) := by decide +kernel
theorem dX5_globalItem_126 : decode cX5_globalItem 126 = .ok (.iload_n 3, 1) := by decide +kernel
theorem dX5_globalItem_127 : decode cX5_globalItem 127 = .ok (.ifCond .eq 10, 3) := by decide +kernel
theorem dX5_globalItem_137 : decode cX5_globalItem 137 = .ok (.iconst 1, 1) := by decide +kernel
theorem dX5_globalItem_138 : decode cX5_globalItem 138 = .ok (.invokevirtual 113, 3) := by decide +kernel
theorem dX5_globalItem_141 : decode cX5_globalItem 141 = .ok (.aload_n 0, 1) := by decide +kernel
theorem dX5_globalItem_142 : decode cX5_globalItem 142 = .ok (.getfield 20, 3) := by decide +kernel
theorem dX5_globalItem_145 : decode cX5_globalItem 145 = .ok (.bipush 36, 2) := by decide +kernel
theorem dX5_globalItem_147 : decode cX5_globalItem 147 = .ok (.invokevirtual 87, 3) := by decide +kernel
theorem dX5_globalItem_150 : decode cX5_globalItem 150 = .ok (.aload_n 0, 1) := by decide +kernel
theorem dX5_globalItem_151 : decode cX5_globalItem 151 = .ok (.getfield 9, 3) := by decide +kernel
theorem dX5_globalItem_154 : decode cX5_globalItem 154 = .ok (.iload_n 2, 1) := by decide +kernel
theorem dX5_globalItem_155 : decode cX5_globalItem 155 = .ok (.iconst 1, 1) := by decide +kernel
theorem dX5_globalItem_156 : decode cX5_globalItem 156 = .ok (.iadd, 1) := by decide +kernel
theorem dX5_globalItem_157 : decode cX5_globalItem 157 = .ok (.putfield 110, 3) := by decide +kernel
theorem dX5_globalItem_160 : decode cX5_globalItem 160 = .ok (.return_, 1) := by decide +kernel
theorem dX5_globalItem_30 : decode cX5_globalItem 30 = .ok (.iconst 1, 1) := by decide +kernel
theorem dX5_globalItem_31 : decode cX5_globalItem 31 = .ok (.goto 4, 3) := by decide +kernel
theorem dX5_globalItem_42 : decode cX5_globalItem 42 = .ok (.iload_n 2, 1) := by decide +kernel
theorem dX5_globalItem_43 : decode cX5_globalItem 43 = .ok (.bipush 60, 2) := by decide +kernel
theorem dX5_globalItem_45 : decode cX5_globalItem 45 = .ok (.if_icmp .lt 18, 3) := by decide +kernel
theorem dX5_globalItem_48 : decode cX5_globalItem 48 = .ok (.aload_n 0, 1) := by decide +kernel
theorem dX5_globalItem_49 : decode cX5_globalItem 49 = .ok (.getfield 20, 3) := by decide +kernel
theorem dX5_globalItem_52 : decode cX5_globalItem 52 = .ok (.iconst 5, 1) := by decide +kernel
theorem dX5_globalItem_53 : decode cX5_globalItem 53 = .ok (.aload_n 0, 1) := by decide +kernel
theorem dX5_globalItem_54 : decode cX5_globalItem 54 = .ok (.getfield 20, 3) := by decide +kernel
theorem dX5_globalItem_57 : decode cX5_globalItem 57 = .ok (.invokevirtual 104, 3) := by decide +kernel
theorem dX5_globalItem_60 : decode cX5_globalItem 60 = .ok (.invokevirtual 79, 3) := by decide +kernel
theorem dX5_globalItem_14 : decode cX5_globalItem 14 = .ok (.iconst 1, 1) := by decide +kernel
theorem dX5_globalItem_15 : decode cX5_globalItem 15 = .ok (.goto 4, 3) := by decide +kernel
theorem dX5_globalItem_112 : decode cX5_globalItem 112 = .ok (.iconst 1, 1) := by decide +kernel
theorem dX5_globalItem_113 : decode cX5_globalItem 113 = .ok (.goto 4, 3) := by decide +kernel
theorem dX5_globalItem_130 : decode cX5_globalItem 130 = .ok (.aload_n 0, 1) := by decide +kernel
theorem dX5_globalItem_131 : decode cX5_globalItem 131 = .ok (.invokevirtual 120, 3) := by decide +kernel
theorem tw_601 : (.code yX5_rowSize cX5_rowSize 3 (some .int) : Cond) ∈ tw_W := tw_in (t8_4 (List.mem_of_getElem? (i := 237) rfl)) rfl
theorem tw_602 : ∀ w ∈ ([.methodLink RX5 120 yX5_rowSize, .instanceMethod yX5_rowSize, .selects RX5 yX5_rowSize yX5_rowSize, .initialized RX5] : List Cond), w ∈ tw_W := al_c (tw_in (t8_4 (List.mem_of_getElem? (i := 234) rfl)) rfl) (al_c (tw_in (t8_4 (List.mem_of_getElem? (i := 236) rfl)) rfl) (al_c (tw_in (t7_3 (q := (yX5_rowSize, 7)) (List.mem_of_getElem? (i := 14) rfl)) rfl) (al_c (tw_in (t8_1 (List.mem_of_getElem? (i := 9) rfl)) rfl) al_n)))
theorem dX5_globalItem_134 : decode cX5_globalItem 134 = .ok (.goto 4, 3) := by decide +kernel
theorem dX5_checkCalls_0 : decode cX5_checkCalls 0 = .ok (.iconst 0, 1) := by decide +kernel
theorem dX5_checkCalls_1 : decode cX5_checkCalls 1 = .ok (.istore_n 1, 1) := by decide +kernel
theorem dX5_checkCalls_2 : decode cX5_checkCalls 2 = .ok (.iload_n 1, 1) := by decide +kernel
theorem dX5_checkCalls_3 : decode cX5_checkCalls 3 = .ok (.aload_n 0, 1) := by decide +kernel
theorem dX5_checkCalls_4 : decode cX5_checkCalls 4 = .ok (.getfield 27, 3) := by decide +kernel
theorem dX5_checkCalls_7 : decode cX5_checkCalls 7 = .ok (.getfield 68, 3) := by decide +kernel
theorem dX5_checkCalls_10 : decode cX5_checkCalls 10 = .ok (.if_icmp .ge 64, 3) := by decide +kernel
theorem dX5_checkCalls_74 : decode cX5_checkCalls 74 = .ok (.return_, 1) := by decide +kernel
theorem dX5_checkCalls_13 : decode cX5_checkCalls 13 = .ok (.aload_n 0, 1) := by decide +kernel
theorem dX5_checkCalls_14 : decode cX5_checkCalls 14 = .ok (.getfield 27, 3) := by decide +kernel
theorem dX5_checkCalls_17 : decode cX5_checkCalls 17 = .ok (.iload_n 1, 1) := by decide +kernel
theorem dX5_checkCalls_18 : decode cX5_checkCalls 18 = .ok (.invokevirtual 72, 3) := by decide +kernel
theorem tw_603 : ∀ w ∈ ([.methodLink RX5 72 yX1_functionOfCall, .instanceMethod yX1_functionOfCall, .selects RX1 yX1_functionOfCall yX1_functionOfCall, .initialized RX1] : List Cond), w ∈ tw_W := al_c (tw_in (t8_5 (List.mem_of_getElem? (i := 2) rfl)) rfl) (al_c (tw_in (t8_5 (List.mem_of_getElem? (i := 3) rfl)) rfl) (al_c (tw_in (t8_5 (List.mem_of_getElem? (i := 4) rfl)) rfl) (al_c (tw_in (t8_1 (List.mem_of_getElem? (i := 11) rfl)) rfl) al_n)))
theorem dX5_checkCalls_21 : decode cX5_checkCalls 21 = .ok (.iconst (-1), 1) := by decide +kernel
theorem dX5_checkCalls_22 : decode cX5_checkCalls 22 = .ok (.if_icmp .ne 19, 3) := by decide +kernel
theorem dX5_checkCalls_41 : decode cX5_checkCalls 41 = .ok (.aload_n 0, 1) := by decide +kernel
theorem dX5_checkCalls_42 : decode cX5_checkCalls 42 = .ok (.getfield 27, 3) := by decide +kernel
theorem dX5_checkCalls_45 : decode cX5_checkCalls 45 = .ok (.iload_n 1, 1) := by decide +kernel
theorem dX5_checkCalls_46 : decode cX5_checkCalls 46 = .ok (.invokevirtual 83, 3) := by decide +kernel
theorem tw_604 : (.code yX1_hasItsArguments cX1_hasItsArguments 3 (some .boolean) : Cond) ∈ tw_W := tw_in (t8_5 (List.mem_of_getElem? (i := 14) rfl)) rfl
theorem tw_605 : ∀ w ∈ ([.methodLink RX5 83 yX1_hasItsArguments, .instanceMethod yX1_hasItsArguments, .selects RX1 yX1_hasItsArguments yX1_hasItsArguments, .initialized RX1] : List Cond), w ∈ tw_W := al_c (tw_in (t8_5 (List.mem_of_getElem? (i := 11) rfl)) rfl) (al_c (tw_in (t8_5 (List.mem_of_getElem? (i := 12) rfl)) rfl) (al_c (tw_in (t8_5 (List.mem_of_getElem? (i := 13) rfl)) rfl) (al_c (tw_in (t8_1 (List.mem_of_getElem? (i := 11) rfl)) rfl) al_n)))
theorem dX5_checkCalls_49 : decode cX5_checkCalls 49 = .ok (.ifCond .ne 19, 3) := by decide +kernel
theorem dX5_checkCalls_68 : decode cX5_checkCalls 68 = .ok (.iinc 1 1, 3) := by decide +kernel
theorem dX5_checkCalls_71 : decode cX5_checkCalls 71 = .ok (.goto (-69), 3) := by decide +kernel
theorem dX5_checkCalls_52 : decode cX5_checkCalls 52 = .ok (.aload_n 0, 1) := by decide +kernel
theorem dX5_checkCalls_53 : decode cX5_checkCalls 53 = .ok (.getfield 20, 3) := by decide +kernel
theorem dX5_checkCalls_56 : decode cX5_checkCalls 56 = .ok (.iconst 4, 1) := by decide +kernel
theorem dX5_checkCalls_57 : decode cX5_checkCalls 57 = .ok (.aload_n 0, 1) := by decide +kernel
theorem dX5_checkCalls_58 : decode cX5_checkCalls 58 = .ok (.getfield 27, 3) := by decide +kernel
theorem dX5_checkCalls_61 : decode cX5_checkCalls 61 = .ok (.iload_n 1, 1) := by decide +kernel
theorem dX5_checkCalls_62 : decode cX5_checkCalls 62 = .ok (.invokevirtual 76, 3) := by decide +kernel
theorem tw_606 : (.code yX1_placeOfCall cX1_placeOfCall 2 (some .int) : Cond) ∈ tw_W := tw_in (t8_5 (List.mem_of_getElem? (i := 10) rfl)) rfl
theorem tw_607 : ∀ w ∈ ([.methodLink RX5 76 yX1_placeOfCall, .instanceMethod yX1_placeOfCall, .selects RX1 yX1_placeOfCall yX1_placeOfCall, .initialized RX1] : List Cond), w ∈ tw_W := al_c (tw_in (t8_5 (List.mem_of_getElem? (i := 7) rfl)) rfl) (al_c (tw_in (t8_5 (List.mem_of_getElem? (i := 8) rfl)) rfl) (al_c (tw_in (t8_5 (List.mem_of_getElem? (i := 9) rfl)) rfl) (al_c (tw_in (t8_1 (List.mem_of_getElem? (i := 11) rfl)) rfl) al_n)))
theorem dX5_checkCalls_65 : decode cX5_checkCalls 65 = .ok (.invokevirtual 79, 3) := by decide +kernel
theorem dX5_checkCalls_25 : decode cX5_checkCalls 25 = .ok (.aload_n 0, 1) := by decide +kernel
theorem dX5_checkCalls_26 : decode cX5_checkCalls 26 = .ok (.getfield 20, 3) := by decide +kernel
theorem dX5_checkCalls_29 : decode cX5_checkCalls 29 = .ok (.iconst 3, 1) := by decide +kernel
theorem dX5_checkCalls_30 : decode cX5_checkCalls 30 = .ok (.aload_n 0, 1) := by decide +kernel
theorem dX5_checkCalls_31 : decode cX5_checkCalls 31 = .ok (.getfield 27, 3) := by decide +kernel
theorem dX5_checkCalls_34 : decode cX5_checkCalls 34 = .ok (.iload_n 1, 1) := by decide +kernel
theorem dX5_checkCalls_35 : decode cX5_checkCalls 35 = .ok (.invokevirtual 76, 3) := by decide +kernel
theorem dX5_checkCalls_38 : decode cX5_checkCalls 38 = .ok (.invokevirtual 79, 3) := by decide +kernel
set_option maxHeartbeats 4000000 in
set_option maxRecDepth 100000 in
theorem c_x_X5_newName (l : Launch) (dC : Nat → ClassId) (dI : Nat → Nat → Nat) (cI cB cZ cJ cR : ClassId) (tb : Nat → Nat) (sz : Nat) (ad : Nat → Nat) (pr : Int32 → Nat) (N : Nat) (L1 L2 : List Nat) (v : MS) (ps : Int32) (z304 : 0 ≤ (v.1 0 304).toInt ∧ (v.1 0 304).toInt ≤ 1503) (z312 : 0 ≤ (v.1 0 312).toInt ∧ (v.1 0 312).toInt ≤ 500) (z373 : 0 ≤ (v.1 0 373).toInt ∧ (v.1 0 373).toInt ≤ 4000) (hps : pr ps = ad 908) (es300 : (v.1 0 300) = ps) (hst : l.stackTraces = false) : vx_Met l yX5_newName (Cond.code yX5_newName cX5_newName 1 (some .int) :: tw_W) ({ frames := 8, cells := 1, slots := 6, locals := 125 }) (pc_ (dC, dI) (tyS cI cB cZ cJ cR) tb (cW ad pr N cI cR L1 L2 v) sz [.ref (ad 903)]) (qiz_ (dC, dI) (cW ad pr N cI cR L1 L2 v) sz (fun (r : Int32) (u : MS) => FC [] [] v u) (fun (u : MS) => (cW ad pr N cI cR L1 L2 u))) (qxc (dC, dI) (cW ad pr N cI cR L1 L2 v) sz (fun (u : MS) => (cW ad pr N cI cR L1 L2 u)) (fun (u : MS) => FC xfl xal v u ∧ (u.1 0 308).toInt ≠ 0)) 1 6 (va_A (cW ad pr N cI cR L1 L2 v) sz) := by
  refine vx_ofW (cc := cX5_newName) (maxL := 1) (ret := (some .int)) (by decide) rfl ?_
  intro p e s m args below meth c s₁ B hml hnt hv
  obtain ⟨rfl, hsz, hP, hKK, hD0, hFx⟩ := hv
  have hK := hKK.1
  have hx := B.exec
  have hb := B.bytes
  have hr := B.returns
  have ht : ∀ w ∈ tw_W, w.before _ s = true := fun w h => atoms_spec (ws := Cond.code yX5_newName cX5_newName 1 (some .int) :: tw_W) B.pre w (List.mem_cons_of_mem _ h)
  have hown : s.vm.findClass RX5 = some m.cls := findClass_of_methodNamed B.named
  have hlocks := B.notSynchronized
  subst hsz
  unfold qiz_ qxc
  have hD := hD0.self (sz := s.heap.size)
  generalize hAe : va_A (cW ad pr N cI cR L1 L2 v) s.heap.size = A at hD hFx ⊢
  have hA : ∀ q : Nat, s.heap.size ≤ q → A q := fun q h => by rw [← hAe]; exact Or.inr h
  have hS : va_S A s.heap s.heap [] := va_S.rf
  have hl := lv_entry ([.ref (ad 903)]) (n := 1) (Nat.le_of_ble_eq_true rfl)
  rw [lg_entry_eq]
  generalize (lg_sl ([.ref (ad 903)]) ++ List.replicate (1 - (lg_sl ([.ref (ad 903)])).length) Slot.unset).toArray = ls at hl ⊢
  have hl : lv_has ls 1 [(0, .ref (ad 903))] := hl
  refine lv_aload_n hx hb dX5_newName_0 rfl (lv_at hl 0 rfl) ?_
  refine va_get (D := (dC, dI)) (ci := 8) (fs := oF_X5 ad pr v) (v := .ref (ad 900)) (C := RX5) (T := TX5) (N := 7) hx hb ht itX5 hown hK hP 3 rfl rfl 1 (by decide) (ht _ tw_571) (fun _ h9 => h9) rfl dX5_newName_1 ?_
  refine lv_iconst (v := 2) hx hb dX5_newName_4 (by decide) ?_
  refine W.sz (fun hz9 => ?_)
  refine czx_v (rx_Vk (n := 1) (As := [.int 2]) (rest := []) hx hb hml hown ht hKK hFx hP hD hS hA (c_x_X9_need l dC dI cI cB cZ cJ cR tb s.heap.size ad pr N L1 L2 v (2 : Int32) ps (show 0 ≤ (v.1 0 304).toInt ∧ (v.1 0 304).toInt ≤ 1503 from (om_c99648273b z304)) (show 0 ≤ (v.1 0 373).toInt ∧ (v.1 0 373).toInt ≤ 4000 from (om_c74a68af25 z373)) (show pr ps = ad 908 from hps) (show (v.1 0 300) = ps from es300) (show l.stackTraces = false from hst)) tw_559 tw_572 (by decide +kernel) rfl rfl ⟨Nat.le_of_ble_eq_true rfl, Nat.le_of_ble_eq_true rfl⟩ (List.range (cW ad pr N cI cR L1 L2 v).length) (rg_map _) (nd_range _) 0 rfl rfl rfl rfl hl.1 rfl (Nat.le_of_ble_eq_true rfl) dX5_newName_5 ⟨Nat.le_of_ble_eq_true rfl, Nat.le_of_ble_eq_true rfl⟩) hP hD hS hA (fun u9 ce9 q9 H locs hx9 hP hD hS hc9 hv9 hf9 => ?_) (fun u2 H locs hw1 hP hD hS hz8 => ?_)
  · exact vx_out (fun x h9 => (hnt x h9).elim) hlocks hc9 hv9 hf9 (fun t9 ht9 hv8 => ⟨u9, ⟨FC.tr (FC.rf _) hx9.1, hx9.2⟩, ⟨rfl, by rw [ht9]; exact hP, hD⟩, hS.F ht9⟩) hS.2.2 (Nat.le_refl _) (Nat.le_refl _)
  refine W.shrink (hz8.trans hz9) ?_
  have fr1 := hw1
  refine lv_aload_n hx hb dX5_newName_8 rfl (lv_at hl 0 rfl) ?_
  refine va_get (D := (dC, dI)) (ci := 8) (fs := oF_X5 ad pr u2) (v := .ref (ad 901)) (C := RX5) (T := TX5) (N := 7) hx hb ht itX5 hown hK hP 3 rfl rfl 2 (by decide) (ht _ tw_573) (fun _ h9 => h9) rfl dX5_newName_9 ?_
  refine lv_aload_n hx hb dX5_newName_12 rfl (lv_at hl 0 rfl) ?_
  refine va_get (D := (dC, dI)) (ci := 8) (fs := oF_X5 ad pr u2) (v := .ref (ad 900)) (C := RX5) (T := TX5) (N := 7) hx hb ht itX5 hown hK hP 3 rfl rfl 1 (by decide) (ht _ tw_571) (fun _ h9 => h9) rfl dX5_newName_13 ?_
  have q4 : (u2.1 0 304).toInt = (v.1 0 304).toInt := congrArg Int32.toInt ((fr1.2.1 304 (by decide)).trans (show v.1 0 304 = (v.1 0 304) by rfl))
  refine cu_i (rn_Vk (n := 0) (As := []) (rest := [.ref (ad 901)]) hx hb hml hown ht hKK hFx hP hD hS hA (c_x_X9_value l dC dI cI cB cZ cJ cR tb H.size ad pr N L1 L2 u2  (show 0 ≤ (u2.1 0 304).toInt ∧ (u2.1 0 304).toInt ≤ 1503 from (om_73002589c1 z304 q4))) tw_535 tw_574 (by decide +kernel) rfl rfl ⟨Nat.le_of_ble_eq_true rfl, Nat.le_of_ble_eq_true rfl⟩ (List.range (cW ad pr N cI cR L1 L2 u2).length) (rg_map _) (nd_range _) 0 rfl rfl rfl rfl hl.1 rfl (Nat.le_of_ble_eq_true rfl) dX5_newName_16 ⟨Nat.le_of_ble_eq_true rfl, Nat.le_of_ble_eq_true rfl⟩) hP hD hS hA (fun r7 u6 H locs hw5 hP hD hS => ?_)
  obtain rfl := hw5
  refine W.widen (k := 0) (n := 0) (Nat.le_refl _) (Nat.le_refl _) ?_
  have q8 : (u2.1 0 312).toInt = (v.1 0 312).toInt := congrArg Int32.toInt ((fr1.2.1 312 (by decide)).trans (show v.1 0 312 = (v.1 0 312) by rfl))
  refine cu_i (rn_Vk (n := 1) (As := [.int r7]) (rest := []) hx hb hml hown ht hKK hFx hP hD hS hA (c_x_X1_isToldInBlock l dC dI cI cB cZ cJ cR tb H.size ad pr N L1 L2 u2 r7 (show 0 ≤ (u2.1 0 312).toInt ∧ (u2.1 0 312).toInt ≤ 500 from (om_f8376ff89c z312 q8))) tw_575 tw_576 (by decide +kernel) rfl rfl ⟨Nat.le_of_ble_eq_true rfl, Nat.le_of_ble_eq_true rfl⟩ (List.range (cW ad pr N cI cR L1 L2 u2).length) (rg_map _) (nd_range _) 1 rfl rfl rfl rfl hl.1 rfl (Nat.le_of_ble_eq_true rfl) dX5_newName_19 ⟨Nat.le_of_ble_eq_true rfl, Nat.le_of_ble_eq_true rfl⟩) hP hD hS hA (fun r11 u10 H locs hw9 hP hD hS => ?_)
  obtain ⟨rfl, b9, e9⟩ := hw9
  have b9 : (r11 = 0 ∨ r11 = 1) := b9
  have e9 : (0 ≤ r11.toInt ∧ r11.toInt ≤ 1) := e9
  refine W.widen (k := 0) (n := 0) (Nat.le_refl _) (Nat.le_refl _) ?_
  refine lv_if_eq (tgt := 40) hx hb dX5_newName_22 (by decide) (fun h12 => ?_) (fun h12 => ?_)
  · have z13 : r11.toInt = (0 : Int) := eq_z rfl (show (0 : Int32).toInt = (0 : Int) by decide) h12
    refine lv_aload_n hx hb dX5_newName_40 rfl (lv_at hl 0 rfl) ?_
    refine va_get (D := (dC, dI)) (ci := 8) (fs := oF_X5 ad pr u2) (v := .ref (ad 900)) (C := RX5) (T := TX5) (N := 7) hx hb ht itX5 hown hK hP 3 rfl rfl 1 (by decide) (ht _ tw_571) (fun _ h9 => h9) rfl dX5_newName_41 ?_
    refine cu_i (rn_Vk (n := 0) (As := []) (rest := []) hx hb hml hown ht hKK hFx hP hD hS hA (c_x_X9_value l dC dI cI cB cZ cJ cR tb H.size ad pr N L1 L2 u2  (show 0 ≤ (u2.1 0 304).toInt ∧ (u2.1 0 304).toInt ≤ 1503 from (om_73002589c1 z304 q4))) tw_535 tw_574 (by decide +kernel) rfl rfl ⟨Nat.le_of_ble_eq_true rfl, Nat.le_of_ble_eq_true rfl⟩ (List.range (cW ad pr N cI cR L1 L2 u2).length) (rg_map _) (nd_range _) 0 rfl rfl rfl rfl hl.1 rfl (Nat.le_of_ble_eq_true rfl) dX5_newName_44 ⟨Nat.le_of_ble_eq_true rfl, Nat.le_of_ble_eq_true rfl⟩) hP hD hS hA (fun r16 u15 H locs hw14 hP hD hS => ?_)
    obtain rfl := hw14
    refine W.widen (k := 0) (n := 0) (Nat.le_refl _) (Nat.le_refl _) ?_
    refine W.sz (fun hz => ?_)
    refine vx_ret ?_
    refine W.widen (k := 1) (n := 6) (Nat.le_of_ble_eq_true rfl) (Nat.le_of_ble_eq_true rfl) ?_
    exact W.iret (v := r16) hx hb hr (fun t ht9 hW => ⟨⟨r16, u2, rfl, (FC.tr (FC.rf _) (FC.up fr1 (by decide) (by decide))), ⟨by rw [ht9]; exact hP, hD⟩, by rw [ht9]; exact hz⟩, hS.F ht9⟩) hS.2.2 dX5_newName_47
  · have z17 : r11.toInt ≠ (0 : Int) := ne_z rfl (show (0 : Int32).toInt = (0 : Int) by decide) h12
    refine lv_aload_n hx hb dX5_newName_25 rfl (lv_at hl 0 rfl) ?_
    refine va_get (D := (dC, dI)) (ci := 8) (fs := oF_X5 ad pr u2) (v := .ref (ad 900)) (C := RX5) (T := TX5) (N := 7) hx hb ht itX5 hown hK hP 3 rfl rfl 1 (by decide) (ht _ tw_571) (fun _ h9 => h9) rfl dX5_newName_26 ?_
    refine lv_iconst (v := 3) hx hb dX5_newName_29 (by decide) ?_
    refine lv_aload_n hx hb dX5_newName_30 rfl (lv_at hl 0 rfl) ?_
    refine va_get (D := (dC, dI)) (ci := 8) (fs := oF_X5 ad pr u2) (v := .ref (ad 900)) (C := RX5) (T := TX5) (N := 7) hx hb ht itX5 hown hK hP 3 rfl rfl 1 (by decide) (ht _ tw_571) (fun _ h9 => h9) rfl dX5_newName_31 ?_
    have q18 : (u2.1 0 373).toInt = (v.1 0 373).toInt := congrArg Int32.toInt ((fr1.2.1 373 (by decide)).trans (show v.1 0 373 = (v.1 0 373) by rfl))
    refine cu_i (rn_Vk (n := 0) (As := []) (rest := [.int 3, .ref (ad 900)]) hx hb hml hown ht hKK hFx hP hD hS hA (c_x_X9_place l dC dI cI cB cZ cJ cR tb H.size ad pr N L1 L2 u2 ps (show 0 ≤ (u2.1 0 304).toInt ∧ (u2.1 0 304).toInt ≤ 1503 from (om_73002589c1 z304 q4)) (show 0 ≤ (u2.1 0 373).toInt ∧ (u2.1 0 373).toInt ≤ 4000 from (om_9084c127ed z373 q18)) (show pr ps = ad 908 from hps) (show (u2.1 0 300) = ps from (Eq.trans (fr1.2.1 300 (by decide)) es300))) tw_457 tw_577 (by decide +kernel) rfl rfl ⟨Nat.le_of_ble_eq_true rfl, Nat.le_of_ble_eq_true rfl⟩ (List.range (cW ad pr N cI cR L1 L2 u2).length) (rg_map _) (nd_range _) 0 rfl rfl rfl rfl hl.1 rfl (Nat.le_of_ble_eq_true rfl) dX5_newName_34 ⟨Nat.le_of_ble_eq_true rfl, Nat.le_of_ble_eq_true rfl⟩) hP hD hS hA (fun r21 u20 H locs hw19 hP hD hS => ?_)
    obtain rfl := hw19
    refine W.widen (k := 0) (n := 0) (Nat.le_refl _) (Nat.le_refl _) ?_
    refine W.sz (fun hz9 => ?_)
    refine czx_v (rx_Vk (n := 2) (As := [.int 3, .int r21]) (rest := []) hx hb hml hown ht hKK hFx hP hD hS hA (c_x_X9_refuse l dC dI cI cB cZ cJ cR tb H.size ad pr N L1 L2 u2 (3 : Int32) r21 (show l.stackTraces = false from hst) (show (3 : Int) ≠ 0 from om_59881768ad)) tw_459 tw_578 (by decide +kernel) rfl rfl ⟨Nat.le_of_ble_eq_true rfl, Nat.le_of_ble_eq_true rfl⟩ (List.range (cW ad pr N cI cR L1 L2 u2).length) (rg_map _) (nd_range _) 0 rfl rfl rfl rfl hl.1 rfl (Nat.le_of_ble_eq_true rfl) dX5_newName_37 ⟨Nat.le_of_ble_eq_true rfl, Nat.le_of_ble_eq_true rfl⟩) hP hD hS hA (fun u9 ce9 q9 H locs hx9 hP hD hS hc9 hv9 hf9 => ?_) (fun u23 H locs hw22 hP hD hS hz8 => ?_)
    · exact vx_out (fun x h9 => (hnt x h9).elim) hlocks hc9 hv9 hf9 (fun t9 ht9 hv8 => ⟨u9, ⟨FC.tr (FC.tr (FC.rf _) (FC.up fr1 (by decide) (by decide))) hx9.1, hx9.2⟩, ⟨rfl, by rw [ht9]; exact hP, hD⟩, hS.F ht9⟩) hS.2.2 (Nat.le_refl _) (Nat.le_refl _)
    refine W.shrink (hz8.trans hz9) ?_
    obtain ⟨fr22, no22⟩ := hw22
    have no22 : False := no22
    exact no22.elim
set_option maxHeartbeats 4000000 in
set_option maxRecDepth 100000 in
theorem c_x_X5_wantSlot (l : Launch) (dC : Nat → ClassId) (dI : Nat → Nat → Nat) (cI cB cZ cJ cR : ClassId) (tb : Nat → Nat) (sz : Nat) (ad : Nat → Nat) (pr : Int32 → Nat) (N : Nat) (L1 L2 : List Nat) (v : MS) (ps : Int32) (z304 : 0 ≤ (v.1 0 304).toInt ∧ (v.1 0 304).toInt ≤ 1503) (z312 : 0 ≤ (v.1 0 312).toInt ∧ (v.1 0 312).toInt ≤ 500) (z373 : 0 ≤ (v.1 0 373).toInt ∧ (v.1 0 373).toInt ≤ 4000) (hps : pr ps = ad 908) (es300 : (v.1 0 300) = ps) (hst : l.stackTraces = false) : vx_Met l yX5_wantSlot (Cond.code yX5_wantSlot cX5_wantSlot 1 none :: tw_W) ({ frames := 7, cells := 1, slots := 6, locals := 104 }) (pc_ (dC, dI) (tyS cI cB cZ cJ cR) tb (cW ad pr N cI cR L1 L2 v) sz [.ref (ad 903)]) (qvz_ (dC, dI) (cW ad pr N cI cR L1 L2 v) sz (fun (u : MS) => FC [315] [0] v u) (fun (u : MS) => (cW ad pr N cI cR L1 L2 u))) (qxc (dC, dI) (cW ad pr N cI cR L1 L2 v) sz (fun (u : MS) => (cW ad pr N cI cR L1 L2 u)) (fun (u : MS) => FC xfl xal v u ∧ (u.1 0 308).toInt ≠ 0)) 1 6 (va_A (cW ad pr N cI cR L1 L2 v) sz) := by
  refine vx_ofW (cc := cX5_wantSlot) (maxL := 1) (ret := none) (by decide) rfl ?_
  intro p e s m args below meth c s₁ B hml hnt hv
  obtain ⟨rfl, hsz, hP, hKK, hD0, hFx⟩ := hv
  have hK := hKK.1
  have hx := B.exec
  have hb := B.bytes
  have hr := B.returns
  have ht : ∀ w ∈ tw_W, w.before _ s = true := fun w h => atoms_spec (ws := Cond.code yX5_wantSlot cX5_wantSlot 1 none :: tw_W) B.pre w (List.mem_cons_of_mem _ h)
  have hown : s.vm.findClass RX5 = some m.cls := findClass_of_methodNamed B.named
  have hlocks := B.notSynchronized
  subst hsz
  unfold qvz_ qxc
  have hD := hD0.self (sz := s.heap.size)
  generalize hAe : va_A (cW ad pr N cI cR L1 L2 v) s.heap.size = A at hD hFx ⊢
  have hA : ∀ q : Nat, s.heap.size ≤ q → A q := fun q h => by rw [← hAe]; exact Or.inr h
  have hS : va_S A s.heap s.heap [] := va_S.rf
  have hl := lv_entry ([.ref (ad 903)]) (n := 1) (Nat.le_of_ble_eq_true rfl)
  rw [lg_entry_eq]
  generalize (lg_sl ([.ref (ad 903)]) ++ List.replicate (1 - (lg_sl ([.ref (ad 903)])).length) Slot.unset).toArray = ls at hl ⊢
  have hl : lv_has ls 1 [(0, .ref (ad 903))] := hl
  refine lv_aload_n hx hb dX5_wantSlot_0 rfl (lv_at hl 0 rfl) ?_
  refine va_get (D := (dC, dI)) (ci := 8) (fs := oF_X5 ad pr v) (v := .ref (ad 901)) (C := RX5) (T := TX5) (N := 7) hx hb ht itX5 hown hK hP 3 rfl rfl 2 (by decide) (ht _ tw_573) (fun _ h9 => h9) rfl dX5_wantSlot_1 ?_
  refine lv_iconst (v := 1) hx hb dX5_wantSlot_4 (by decide) ?_
  refine cu_i (rn_Vk (n := 1) (As := [.int 1]) (rest := []) hx hb hml hown ht hKK hFx hP hD hS hA (c_x_X1_wantSlots l dC dI cI cB cZ cJ cR tb s.heap.size ad pr N L1 L2 v (1 : Int32) (show 0 ≤ (v.1 0 312).toInt ∧ (v.1 0 312).toInt ≤ 500 from (om_9861e69da5 z312))) tw_507 tw_579 (by decide +kernel) rfl rfl ⟨Nat.le_of_ble_eq_true rfl, Nat.le_of_ble_eq_true rfl⟩ (List.range (cW ad pr N cI cR L1 L2 v).length) (rg_map _) (nd_range _) 1 rfl rfl rfl rfl hl.1 rfl (Nat.le_of_ble_eq_true rfl) dX5_wantSlot_5 ⟨Nat.le_of_ble_eq_true rfl, Nat.le_of_ble_eq_true rfl⟩) hP hD hS hA (fun r3 u2 H locs hw1 hP hD hS => ?_)
  obtain ⟨fr1, bz1⟩ := hw1
  refine W.widen (k := 0) (n := 0) (Nat.le_refl _) (Nat.le_refl _) ?_
  refine lv_if_ne (tgt := 26) hx hb dX5_wantSlot_8 (by decide) (fun h4 => ?_) (fun h4 => ?_)
  · have z5 : r3.toInt ≠ (0 : Int) := ne_z rfl (show (0 : Int32).toInt = (0 : Int) by decide) h4
    refine W.sz (fun hz => ?_)
    refine vx_ret ?_
    refine W.widen (k := 1) (n := 6) (Nat.le_of_ble_eq_true rfl) (Nat.le_of_ble_eq_true rfl) ?_
    exact W.vret hx hb hr (fun t ht9 hW => ⟨⟨u2, rfl, (FC.tr (FC.rf _) (FC.up fr1 (by decide) (by decide))), ⟨by rw [ht9]; exact hP, hD⟩, by rw [ht9]; exact hz⟩, hS.F ht9⟩) hS.2.2 dX5_wantSlot_26
  · have z6 : r3.toInt = (0 : Int) := eq_z rfl (show (0 : Int32).toInt = (0 : Int) by decide) h4
    refine lv_aload_n hx hb dX5_wantSlot_11 rfl (lv_at hl 0 rfl) ?_
    refine va_get (D := (dC, dI)) (ci := 8) (fs := oF_X5 ad pr u2) (v := .ref (ad 900)) (C := RX5) (T := TX5) (N := 7) hx hb ht itX5 hown hK hP 3 rfl rfl 1 (by decide) (ht _ tw_571) (fun _ h9 => h9) rfl dX5_wantSlot_12 ?_
    refine lv_iconst (v := 5) hx hb dX5_wantSlot_15 (by decide) ?_
    refine lv_aload_n hx hb dX5_wantSlot_16 rfl (lv_at hl 0 rfl) ?_
    refine va_get (D := (dC, dI)) (ci := 8) (fs := oF_X5 ad pr u2) (v := .ref (ad 900)) (C := RX5) (T := TX5) (N := 7) hx hb ht itX5 hown hK hP 3 rfl rfl 1 (by decide) (ht _ tw_571) (fun _ h9 => h9) rfl dX5_wantSlot_17 ?_
    have q7 : (u2.1 0 304).toInt = (v.1 0 304).toInt := congrArg Int32.toInt ((fr1.2.1 304 (by decide)).trans (show v.1 0 304 = (v.1 0 304) by rfl))
    have q8 : (u2.1 0 373).toInt = (v.1 0 373).toInt := congrArg Int32.toInt ((fr1.2.1 373 (by decide)).trans (show v.1 0 373 = (v.1 0 373) by rfl))
    refine cu_i (rn_Vk (n := 0) (As := []) (rest := [.int 5, .ref (ad 900)]) hx hb hml hown ht hKK hFx hP hD hS hA (c_x_X9_place l dC dI cI cB cZ cJ cR tb H.size ad pr N L1 L2 u2 ps (show 0 ≤ (u2.1 0 304).toInt ∧ (u2.1 0 304).toInt ≤ 1503 from (om_73002589c1 z304 q7)) (show 0 ≤ (u2.1 0 373).toInt ∧ (u2.1 0 373).toInt ≤ 4000 from (om_9084c127ed z373 q8)) (show pr ps = ad 908 from hps) (show (u2.1 0 300) = ps from (Eq.trans (fr1.2.1 300 (by decide)) es300))) tw_457 tw_577 (by decide +kernel) rfl rfl ⟨Nat.le_of_ble_eq_true rfl, Nat.le_of_ble_eq_true rfl⟩ (List.range (cW ad pr N cI cR L1 L2 u2).length) (rg_map _) (nd_range _) 0 rfl rfl rfl rfl hl.1 rfl (Nat.le_of_ble_eq_true rfl) dX5_wantSlot_20 ⟨Nat.le_of_ble_eq_true rfl, Nat.le_of_ble_eq_true rfl⟩) hP hD hS hA (fun r11 u10 H locs hw9 hP hD hS => ?_)
    obtain rfl := hw9
    refine W.widen (k := 0) (n := 0) (Nat.le_refl _) (Nat.le_refl _) ?_
    refine W.sz (fun hz9 => ?_)
    refine czx_v (rx_Vk (n := 2) (As := [.int 5, .int r11]) (rest := []) hx hb hml hown ht hKK hFx hP hD hS hA (c_x_X9_refuse l dC dI cI cB cZ cJ cR tb H.size ad pr N L1 L2 u2 (5 : Int32) r11 (show l.stackTraces = false from hst) (show (5 : Int) ≠ 0 from om_5e02973d50)) tw_459 tw_578 (by decide +kernel) rfl rfl ⟨Nat.le_of_ble_eq_true rfl, Nat.le_of_ble_eq_true rfl⟩ (List.range (cW ad pr N cI cR L1 L2 u2).length) (rg_map _) (nd_range _) 0 rfl rfl rfl rfl hl.1 rfl (Nat.le_of_ble_eq_true rfl) dX5_wantSlot_23 ⟨Nat.le_of_ble_eq_true rfl, Nat.le_of_ble_eq_true rfl⟩) hP hD hS hA (fun u9 ce9 q9 H locs hx9 hP hD hS hc9 hv9 hf9 => ?_) (fun u13 H locs hw12 hP hD hS hz8 => ?_)
    · exact vx_out (fun x h9 => (hnt x h9).elim) hlocks hc9 hv9 hf9 (fun t9 ht9 hv8 => ⟨u9, ⟨FC.tr (FC.tr (FC.rf _) (FC.up fr1 (by decide) (by decide))) hx9.1, hx9.2⟩, ⟨rfl, by rw [ht9]; exact hP, hD⟩, hS.F ht9⟩) hS.2.2 (Nat.le_refl _) (Nat.le_refl _)
    refine W.shrink (hz8.trans hz9) ?_
    obtain ⟨fr12, no12⟩ := hw12
    have no12 : False := no12
    exact no12.elim
theorem om_ef974f4033 {x0 x1 x2 : Int} (h0 : 0 ≤ x0 ∧ x0 ≤ 500) (h1 : x1 = x0) (h2 : x2 = x1) (h3 : x2 < (8 : Int)) : 0 ≤ x2 ∧ x2 ≤ 500 := by omega
theorem om_9e96f22fc2 {x0 x1 x2 x3 x4 : Int} (h0 : 0 ≤ x0 ∧ x0 ≤ 500) (h1 : x1 = x0) (h2 : x2 = x1) (h3 : x2 < (8 : Int)) (h4 : x3 = x2) (h5 : x4 = x3) : 0 ≤ x4 ∧ x4 ≤ 500 := by omega
set_option maxHeartbeats 4000000 in
set_option maxRecDepth 100000 in
theorem c_x_X5_parameter (l : Launch) (dC : Nat → ClassId) (dI : Nat → Nat → Nat) (cI cB cZ cJ cR : ClassId) (tb : Nat → Nat) (sz : Nat) (ad : Nat → Nat) (pr : Int32 → Nat) (N : Nat) (L1 L2 : List Nat) (v : MS) (ps : Int32) (z304 : 0 ≤ (v.1 0 304).toInt ∧ (v.1 0 304).toInt ≤ 1503) (z312 : 0 ≤ (v.1 0 312).toInt ∧ (v.1 0 312).toInt ≤ 500) (z373 : 0 ≤ (v.1 0 373).toInt ∧ (v.1 0 373).toInt ≤ 4000) (hps : pr ps = ad 908) (es300 : (v.1 0 300) = ps) (hst : l.stackTraces = false) : vx_Met l yX5_parameter (Cond.code yX5_parameter cX5_parameter 2 none :: tw_W) ({ frames := 9, cells := 1, slots := 6, locals := 145 }) (pc_ (dC, dI) (tyS cI cB cZ cJ cR) tb (cW ad pr N cI cR L1 L2 v) sz [.ref (ad 903)]) (qvz_ (dC, dI) (cW ad pr N cI cR L1 L2 v) sz (fun (u : MS) => FC [305, 312, 315] [0, 311] v u ∧ (0 ≤ (u.1 0 312).toInt ∧ (u.1 0 312).toInt ≤ 500)) (fun (u : MS) => (cW ad pr N cI cR L1 L2 u))) (qxc (dC, dI) (cW ad pr N cI cR L1 L2 v) sz (fun (u : MS) => (cW ad pr N cI cR L1 L2 u)) (fun (u : MS) => FC xfl xal v u ∧ (u.1 0 308).toInt ≠ 0)) 1 6 (va_A (cW ad pr N cI cR L1 L2 v) sz) := by
  refine vx_ofW (cc := cX5_parameter) (maxL := 2) (ret := none) (by decide) rfl ?_
  intro p e s m args below meth c s₁ B hml hnt hv
  obtain ⟨rfl, hsz, hP, hKK, hD0, hFx⟩ := hv
  have hK := hKK.1
  have hx := B.exec
  have hb := B.bytes
  have hr := B.returns
  have ht : ∀ w ∈ tw_W, w.before _ s = true := fun w h => atoms_spec (ws := Cond.code yX5_parameter cX5_parameter 2 none :: tw_W) B.pre w (List.mem_cons_of_mem _ h)
  have hown : s.vm.findClass RX5 = some m.cls := findClass_of_methodNamed B.named
  have hlocks := B.notSynchronized
  subst hsz
  unfold qvz_ qxc
  have hD := hD0.self (sz := s.heap.size)
  generalize hAe : va_A (cW ad pr N cI cR L1 L2 v) s.heap.size = A at hD hFx ⊢
  have hA : ∀ q : Nat, s.heap.size ≤ q → A q := fun q h => by rw [← hAe]; exact Or.inr h
  have hS : va_S A s.heap s.heap [] := va_S.rf
  have hl := lv_entry ([.ref (ad 903)]) (n := 2) (Nat.le_of_ble_eq_true rfl)
  rw [lg_entry_eq]
  generalize (lg_sl ([.ref (ad 903)]) ++ List.replicate (2 - (lg_sl ([.ref (ad 903)])).length) Slot.unset).toArray = ls at hl ⊢
  have hl : lv_has ls 2 [(0, .ref (ad 903))] := hl
  refine lv_aload_n hx hb dX5_parameter_0 rfl (lv_at hl 0 rfl) ?_
  refine va_get (D := (dC, dI)) (ci := 8) (fs := oF_X5 ad pr v) (v := .ref (ad 900)) (C := RX5) (T := TX5) (N := 7) hx hb ht itX5 hown hK hP 3 rfl rfl 1 (by decide) (ht _ tw_571) (fun _ h9 => h9) rfl dX5_parameter_1 ?_
  refine lv_bipush (v := 10) hx hb dX5_parameter_4 (by decide) ?_
  refine W.sz (fun hz9 => ?_)
  refine czx_v (rx_Vk (n := 1) (As := [.int 10]) (rest := []) hx hb hml hown ht hKK hFx hP hD hS hA (c_x_X9_expect l dC dI cI cB cZ cJ cR tb s.heap.size ad pr N L1 L2 v (10 : Int32) ps (show 0 ≤ (v.1 0 304).toInt ∧ (v.1 0 304).toInt ≤ 1503 from (om_c99648273b z304)) (show 0 ≤ (v.1 0 373).toInt ∧ (v.1 0 373).toInt ≤ 4000 from (om_c74a68af25 z373)) (show pr ps = ad 908 from hps) (show (v.1 0 300) = ps from es300) (show l.stackTraces = false from hst)) tw_526 tw_580 (by decide +kernel) rfl rfl ⟨Nat.le_of_ble_eq_true rfl, Nat.le_of_ble_eq_true rfl⟩ (List.range (cW ad pr N cI cR L1 L2 v).length) (rg_map _) (nd_range _) 0 rfl rfl rfl rfl hl.1 rfl (Nat.le_of_ble_eq_true rfl) dX5_parameter_6 ⟨Nat.le_of_ble_eq_true rfl, Nat.le_of_ble_eq_true rfl⟩) hP hD hS hA (fun u9 ce9 q9 H locs hx9 hP hD hS hc9 hv9 hf9 => ?_) (fun u2 H locs hw1 hP hD hS hz8 => ?_)
  · exact vx_out (fun x h9 => (hnt x h9).elim) hlocks hc9 hv9 hf9 (fun t9 ht9 hv8 => ⟨u9, ⟨FC.tr (FC.rf _) hx9.1, hx9.2⟩, ⟨rfl, by rw [ht9]; exact hP, hD⟩, hS.F ht9⟩) hS.2.2 (Nat.le_refl _) (Nat.le_refl _)
  refine W.shrink (hz8.trans hz9) ?_
  have fr1 := hw1
  refine lv_aload_n hx hb dX5_parameter_9 rfl (lv_at hl 0 rfl) ?_
  have q4 : (u2.1 0 304).toInt = (v.1 0 304).toInt := congrArg Int32.toInt ((fr1.2.1 304 (by decide)).trans (show v.1 0 304 = (v.1 0 304) by rfl))
  have q5 : (u2.1 0 312).toInt = (v.1 0 312).toInt := congrArg Int32.toInt ((fr1.2.1 312 (by decide)).trans (show v.1 0 312 = (v.1 0 312) by rfl))
  have q6 : (u2.1 0 373).toInt = (v.1 0 373).toInt := congrArg Int32.toInt ((fr1.2.1 373 (by decide)).trans (show v.1 0 373 = (v.1 0 373) by rfl))
  refine W.sz (fun hz9 => ?_)
  refine czx_i (rx_Vk (n := 0) (As := []) (rest := []) hx hb hml hown ht hKK hFx hP hD hS hA (c_x_X5_newName l dC dI cI cB cZ cJ cR tb H.size ad pr N L1 L2 u2 ps (show 0 ≤ (u2.1 0 304).toInt ∧ (u2.1 0 304).toInt ≤ 1503 from (om_73002589c1 z304 q4)) (show 0 ≤ (u2.1 0 312).toInt ∧ (u2.1 0 312).toInt ≤ 500 from (om_f8376ff89c z312 q5)) (show 0 ≤ (u2.1 0 373).toInt ∧ (u2.1 0 373).toInt ≤ 4000 from (om_9084c127ed z373 q6)) (show pr ps = ad 908 from hps) (show (u2.1 0 300) = ps from (Eq.trans (fr1.2.1 300 (by decide)) es300)) (show l.stackTraces = false from hst)) tw_581 tw_582 (by decide +kernel) rfl rfl ⟨Nat.le_of_ble_eq_true rfl, Nat.le_of_ble_eq_true rfl⟩ (List.range (cW ad pr N cI cR L1 L2 u2).length) (rg_map _) (nd_range _) 3 rfl rfl rfl rfl hl.1 rfl (Nat.le_of_ble_eq_true rfl) dX5_parameter_10 ⟨Nat.le_of_ble_eq_true rfl, Nat.le_of_ble_eq_true rfl⟩) hP hD hS hA (fun u9 ce9 q9 H locs hx9 hP hD hS hc9 hv9 hf9 => ?_) (fun r9 u8 H locs hw7 hP hD hS hz8 => ?_)
  · exact vx_out (fun x h9 => (hnt x h9).elim) hlocks hc9 hv9 hf9 (fun t9 ht9 hv8 => ⟨u9, ⟨FC.tr (FC.tr (FC.rf _) (FC.up fr1 (by decide) (by decide))) hx9.1, hx9.2⟩, ⟨rfl, by rw [ht9]; exact hP, hD⟩, hS.F ht9⟩) hS.2.2 (Nat.le_refl _) (Nat.le_refl _)
  refine W.shrink (hz8.trans hz9) ?_
  have fr7 := hw7
  refine lv_istore_n (lv' := [(1, .int r9), (0, .ref (ad 903))]) hx hb dX5_parameter_13 rfl hl (by decide) rfl (fun ls hl => ?_)
  refine lv_aload_n hx hb dX5_parameter_14 rfl (lv_at hl 1 rfl) ?_
  refine va_get (D := (dC, dI)) (ci := 8) (fs := oF_X5 ad pr u8) (v := .ref (ad 901)) (C := RX5) (T := TX5) (N := 7) hx hb ht itX5 hown hK hP 3 rfl rfl 2 (by decide) (ht _ tw_573) (fun _ h9 => h9) rfl dX5_parameter_15 ?_
  refine va_getN (D := (dC, dI)) (ci := 5) (fs := oF_X1 ad pr u8) (v := .int (u8.1 0 312)) (C := RX1) (T := TX1) (N := 12) hx hb ht itX1 hown hK hP 1 rfl rfl 2 (by decide) (hKK.fl2 4 rfl) (fun _ h9 => h9) rfl dX5_parameter_18 ?_
  refine lv_bipush (v := 8) hx hb dX5_parameter_21 (by decide) ?_
  refine lv_icmp_lt (tgt := 41) hx hb dX5_parameter_23 (by decide) (fun h10 => ?_) (fun h10 => ?_)
  · have z11 : (u8.1 0 312).toInt < (8 : Int) := lt_z rfl (show (8 : Int32).toInt = (8 : Int) by decide) h10
    refine lv_aload_n hx hb dX5_parameter_41 rfl (lv_at hl 1 rfl) ?_
    have q12 : (u8.1 0 304).toInt = (u2.1 0 304).toInt := congrArg Int32.toInt ((fr7.2.1 304 (by decide)).trans (show u2.1 0 304 = (u2.1 0 304) by rfl))
    have q13 : (u8.1 0 312).toInt = (u2.1 0 312).toInt := congrArg Int32.toInt ((fr7.2.1 312 (by decide)).trans (show u2.1 0 312 = (u2.1 0 312) by rfl))
    have q14 : (u8.1 0 373).toInt = (u2.1 0 373).toInt := congrArg Int32.toInt ((fr7.2.1 373 (by decide)).trans (show u2.1 0 373 = (u2.1 0 373) by rfl))
    refine W.sz (fun hz9 => ?_)
    refine czx_v (rx_Vk (n := 0) (As := []) (rest := []) hx hb hml hown ht hKK hFx hP hD hS hA (c_x_X5_wantSlot l dC dI cI cB cZ cJ cR tb H.size ad pr N L1 L2 u8 ps (show 0 ≤ (u8.1 0 304).toInt ∧ (u8.1 0 304).toInt ≤ 1503 from (om_dd87ee851a z304 q4 q12)) (show 0 ≤ (u8.1 0 312).toInt ∧ (u8.1 0 312).toInt ≤ 500 from (om_ef974f4033 z312 q5 q13 z11)) (show 0 ≤ (u8.1 0 373).toInt ∧ (u8.1 0 373).toInt ≤ 4000 from (om_03cd8767ac z373 q6 q14)) (show pr ps = ad 908 from hps) (show (u8.1 0 300) = ps from (Eq.trans (fr7.2.1 300 (by decide)) (Eq.trans (fr1.2.1 300 (by decide)) es300))) (show l.stackTraces = false from hst)) tw_583 tw_584 (by decide +kernel) rfl rfl ⟨Nat.le_of_ble_eq_true rfl, Nat.le_of_ble_eq_true rfl⟩ (List.range (cW ad pr N cI cR L1 L2 u8).length) (rg_map _) (nd_range _) 3 rfl rfl rfl rfl hl.1 rfl (Nat.le_of_ble_eq_true rfl) dX5_parameter_42 ⟨Nat.le_of_ble_eq_true rfl, Nat.le_of_ble_eq_true rfl⟩) hP hD hS hA (fun u9 ce9 q9 H locs hx9 hP hD hS hc9 hv9 hf9 => ?_) (fun u16 H locs hw15 hP hD hS hz8 => ?_)
    · exact vx_out (fun x h9 => (hnt x h9).elim) hlocks hc9 hv9 hf9 (fun t9 ht9 hv8 => ⟨u9, ⟨FC.tr (FC.tr (FC.tr (FC.rf _) (FC.up fr1 (by decide) (by decide))) (FC.up fr7 (by decide) (by decide))) hx9.1, hx9.2⟩, ⟨rfl, by rw [ht9]; exact hP, hD⟩, hS.F ht9⟩) hS.2.2 (Nat.le_refl _) (Nat.le_refl _)
    refine W.shrink (hz8.trans hz9) ?_
    have fr15 := hw15
    refine lv_aload_n hx hb dX5_parameter_45 rfl (lv_at hl 1 rfl) ?_
    refine va_get (D := (dC, dI)) (ci := 8) (fs := oF_X5 ad pr u16) (v := .ref (ad 900)) (C := RX5) (T := TX5) (N := 7) hx hb ht itX5 hown hK hP 3 rfl rfl 1 (by decide) (ht _ tw_571) (fun _ h9 => h9) rfl dX5_parameter_46 ?_
    have q18 : (u16.1 0 304).toInt = (u8.1 0 304).toInt := congrArg Int32.toInt ((fr15.2.1 304 (by decide)).trans (show u8.1 0 304 = (u8.1 0 304) by rfl))
    have q19 : (u16.1 0 373).toInt = (u8.1 0 373).toInt := congrArg Int32.toInt ((fr15.2.1 373 (by decide)).trans (show u8.1 0 373 = (u8.1 0 373) by rfl))
    refine W.sz (fun hz9 => ?_)
    refine czx_v (rx_Vk (n := 0) (As := []) (rest := []) hx hb hml hown ht hKK hFx hP hD hS hA (c_x_X9_take l dC dI cI cB cZ cJ cR tb H.size ad pr N L1 L2 u16 ps (show 0 ≤ (u16.1 0 304).toInt ∧ (u16.1 0 304).toInt ≤ 1503 from (om_57e3d9ffbd z304 q4 q12 q18)) (show 0 ≤ (u16.1 0 373).toInt ∧ (u16.1 0 373).toInt ≤ 4000 from (om_282c7f458f z373 q6 q14 q19)) (show pr ps = ad 908 from hps) (show (u16.1 0 300) = ps from (Eq.trans (fr15.2.1 300 (by decide)) (Eq.trans (fr7.2.1 300 (by decide)) (Eq.trans (fr1.2.1 300 (by decide)) es300)))) (show l.stackTraces = false from hst)) tw_539 tw_585 (by decide +kernel) rfl rfl ⟨Nat.le_of_ble_eq_true rfl, Nat.le_of_ble_eq_true rfl⟩ (List.range (cW ad pr N cI cR L1 L2 u16).length) (rg_map _) (nd_range _) 0 rfl rfl rfl rfl hl.1 rfl (Nat.le_of_ble_eq_true rfl) dX5_parameter_49 ⟨Nat.le_of_ble_eq_true rfl, Nat.le_of_ble_eq_true rfl⟩) hP hD hS hA (fun u9 ce9 q9 H locs hx9 hP hD hS hc9 hv9 hf9 => ?_) (fun u21 H locs hw20 hP hD hS hz8 => ?_)
    · exact vx_out (fun x h9 => (hnt x h9).elim) hlocks hc9 hv9 hf9 (fun t9 ht9 hv8 => ⟨u9, ⟨FC.tr (FC.tr (FC.tr (FC.tr (FC.rf _) (FC.up fr1 (by decide) (by decide))) (FC.up fr7 (by decide) (by decide))) (FC.up fr15 (by decide) (by decide))) hx9.1, hx9.2⟩, ⟨rfl, by rw [ht9]; exact hP, hD⟩, hS.F ht9⟩) hS.2.2 (Nat.le_refl _) (Nat.le_refl _)
    refine W.shrink (hz8.trans hz9) ?_
    have fr20 := hw20
    refine lv_aload_n hx hb dX5_parameter_52 rfl (lv_at hl 1 rfl) ?_
    refine va_get (D := (dC, dI)) (ci := 8) (fs := oF_X5 ad pr u21) (v := .ref (ad 901)) (C := RX5) (T := TX5) (N := 7) hx hb ht itX5 hown hK hP 3 rfl rfl 2 (by decide) (ht _ tw_573) (fun _ h9 => h9) rfl dX5_parameter_53 ?_
    refine lv_iload_n hx hb dX5_parameter_56 rfl (lv_at hl 0 rfl) ?_
    have q23 : (u16.1 0 312).toInt = (u8.1 0 312).toInt := congrArg Int32.toInt ((fr15.2.1 312 (by decide)).trans (show u8.1 0 312 = (u8.1 0 312) by rfl))
    have q24 : (u21.1 0 312).toInt = (u16.1 0 312).toInt := congrArg Int32.toInt ((fr20.2.1 312 (by decide)).trans (show u16.1 0 312 = (u16.1 0 312) by rfl))
    refine cu_v (rn_Vk (n := 1) (As := [.int r9]) (rest := []) hx hb hml hown ht hKK hFx hP hD hS hA (c_x_X1_learn l dC dI cI cB cZ cJ cR tb H.size ad pr N L1 L2 u21 r9 (show 0 ≤ (u21.1 0 312).toInt ∧ (u21.1 0 312).toInt ≤ 500 from (om_9e96f22fc2 z312 q5 q13 z11 q23 q24))) tw_586 tw_587 (by decide +kernel) rfl rfl ⟨Nat.le_of_ble_eq_true rfl, Nat.le_of_ble_eq_true rfl⟩ (List.range (cW ad pr N cI cR L1 L2 u21).length) (rg_map _) (nd_range _) 1 rfl rfl rfl rfl hl.1 rfl (Nat.le_of_ble_eq_true rfl) dX5_parameter_57 ⟨Nat.le_of_ble_eq_true rfl, Nat.le_of_ble_eq_true rfl⟩) hP hD hS hA (fun u26 H locs hw25 hP hD hS => ?_)
    obtain ⟨fr25, i31225⟩ := hw25
    have i31225 : 0 ≤ (u26.1 0 312).toInt ∧ (u26.1 0 312).toInt ≤ 500 := i31225
    refine W.widen (k := 0) (n := 0) (Nat.le_refl _) (Nat.le_refl _) ?_
    refine W.sz (fun hz => ?_)
    refine vx_ret ?_
    refine W.widen (k := 1) (n := 6) (Nat.le_of_ble_eq_true rfl) (Nat.le_of_ble_eq_true rfl) ?_
    exact W.vret hx hb hr (fun t ht9 hW => ⟨⟨u26, rfl, ⟨(FC.tr (FC.tr (FC.tr (FC.tr (FC.tr (FC.rf _) (FC.up fr1 (by decide) (by decide))) (FC.up fr7 (by decide) (by decide))) (FC.up fr15 (by decide) (by decide))) (FC.up fr20 (by decide) (by decide))) (FC.up fr25 (by decide) (by decide))), (show 0 ≤ (u26.1 0 312).toInt ∧ (u26.1 0 312).toInt ≤ 500 from (om_9861e69da5 i31225))⟩, ⟨by rw [ht9]; exact hP, hD⟩, by rw [ht9]; exact hz⟩, hS.F ht9⟩) hS.2.2 dX5_parameter_60
  · have z28 : (8 : Int) ≤ (u8.1 0 312).toInt := nlt_z rfl (show (8 : Int32).toInt = (8 : Int) by decide) h10
    refine lv_aload_n hx hb dX5_parameter_26 rfl (lv_at hl 1 rfl) ?_
    refine va_get (D := (dC, dI)) (ci := 8) (fs := oF_X5 ad pr u8) (v := .ref (ad 900)) (C := RX5) (T := TX5) (N := 7) hx hb ht itX5 hown hK hP 3 rfl rfl 1 (by decide) (ht _ tw_571) (fun _ h9 => h9) rfl dX5_parameter_27 ?_
    refine lv_iconst (v := 5) hx hb dX5_parameter_30 (by decide) ?_
    refine lv_aload_n hx hb dX5_parameter_31 rfl (lv_at hl 1 rfl) ?_
    refine va_get (D := (dC, dI)) (ci := 8) (fs := oF_X5 ad pr u8) (v := .ref (ad 900)) (C := RX5) (T := TX5) (N := 7) hx hb ht itX5 hown hK hP 3 rfl rfl 1 (by decide) (ht _ tw_571) (fun _ h9 => h9) rfl dX5_parameter_32 ?_
    have q29 : (u8.1 0 304).toInt = (u2.1 0 304).toInt := congrArg Int32.toInt ((fr7.2.1 304 (by decide)).trans (show u2.1 0 304 = (u2.1 0 304) by rfl))
    have q30 : (u8.1 0 373).toInt = (u2.1 0 373).toInt := congrArg Int32.toInt ((fr7.2.1 373 (by decide)).trans (show u2.1 0 373 = (u2.1 0 373) by rfl))
    refine cu_i (rn_Vk (n := 0) (As := []) (rest := [.int 5, .ref (ad 900)]) hx hb hml hown ht hKK hFx hP hD hS hA (c_x_X9_place l dC dI cI cB cZ cJ cR tb H.size ad pr N L1 L2 u8 ps (show 0 ≤ (u8.1 0 304).toInt ∧ (u8.1 0 304).toInt ≤ 1503 from (om_dd87ee851a z304 q4 q29)) (show 0 ≤ (u8.1 0 373).toInt ∧ (u8.1 0 373).toInt ≤ 4000 from (om_03cd8767ac z373 q6 q30)) (show pr ps = ad 908 from hps) (show (u8.1 0 300) = ps from (Eq.trans (fr7.2.1 300 (by decide)) (Eq.trans (fr1.2.1 300 (by decide)) es300)))) tw_457 tw_577 (by decide +kernel) rfl rfl ⟨Nat.le_of_ble_eq_true rfl, Nat.le_of_ble_eq_true rfl⟩ (List.range (cW ad pr N cI cR L1 L2 u8).length) (rg_map _) (nd_range _) 0 rfl rfl rfl rfl hl.1 rfl (Nat.le_of_ble_eq_true rfl) dX5_parameter_35 ⟨Nat.le_of_ble_eq_true rfl, Nat.le_of_ble_eq_true rfl⟩) hP hD hS hA (fun r33 u32 H locs hw31 hP hD hS => ?_)
    obtain rfl := hw31
    refine W.widen (k := 0) (n := 0) (Nat.le_refl _) (Nat.le_refl _) ?_
    refine W.sz (fun hz9 => ?_)
    refine czx_v (rx_Vk (n := 2) (As := [.int 5, .int r33]) (rest := []) hx hb hml hown ht hKK hFx hP hD hS hA (c_x_X9_refuse l dC dI cI cB cZ cJ cR tb H.size ad pr N L1 L2 u8 (5 : Int32) r33 (show l.stackTraces = false from hst) (show (5 : Int) ≠ 0 from om_5e02973d50)) tw_459 tw_578 (by decide +kernel) rfl rfl ⟨Nat.le_of_ble_eq_true rfl, Nat.le_of_ble_eq_true rfl⟩ (List.range (cW ad pr N cI cR L1 L2 u8).length) (rg_map _) (nd_range _) 0 rfl rfl rfl rfl hl.1 rfl (Nat.le_of_ble_eq_true rfl) dX5_parameter_38 ⟨Nat.le_of_ble_eq_true rfl, Nat.le_of_ble_eq_true rfl⟩) hP hD hS hA (fun u9 ce9 q9 H locs hx9 hP hD hS hc9 hv9 hf9 => ?_) (fun u35 H locs hw34 hP hD hS hz8 => ?_)
    · exact vx_out (fun x h9 => (hnt x h9).elim) hlocks hc9 hv9 hf9 (fun t9 ht9 hv8 => ⟨u9, ⟨FC.tr (FC.tr (FC.tr (FC.rf _) (FC.up fr1 (by decide) (by decide))) (FC.up fr7 (by decide) (by decide))) hx9.1, hx9.2⟩, ⟨rfl, by rw [ht9]; exact hP, hD⟩, hS.F ht9⟩) hS.2.2 (Nat.le_refl _) (Nat.le_refl _)
    refine W.shrink (hz8.trans hz9) ?_
    obtain ⟨fr34, no34⟩ := hw34
    have no34 : False := no34
    exact no34.elim
set_option maxHeartbeats 4000000 in
set_option maxRecDepth 100000 in
theorem c_x_X5_headOfItem (l : Launch) (dC : Nat → ClassId) (dI : Nat → Nat → Nat) (cI cB cZ cJ cR : ClassId) (tb : Nat → Nat) (sz : Nat) (ad : Nat → Nat) (pr : Int32 → Nat) (N : Nat) (L1 L2 : List Nat) (v : MS) (ps : Int32) (z304 : 0 ≤ (v.1 0 304).toInt ∧ (v.1 0 304).toInt ≤ 1503) (z373 : 0 ≤ (v.1 0 373).toInt ∧ (v.1 0 373).toInt ≤ 4000) (hL1 : L1.length = 40) (hL2 : L2.length = 60) (rp : RP v) (hps : pr ps = ad 908) (es300 : (v.1 0 300) = ps) (es327 : (v.1 0 327) = ps) (hst : l.stackTraces = false) : vx_Met l yX5_headOfItem (Cond.code yX5_headOfItem cX5_headOfItem 2 (some .int) :: tw_W) ({ frames := 8, cells := 1, slots := 6, locals := 125 }) (pc_ (dC, dI) (tyS cI cB cZ cJ cR) tb (cW ad pr N cI cR L1 L2 v) sz [.ref (ad 903)]) (qiz_ (dC, dI) (cW ad pr N cI cR L1 L2 v) sz (fun (r : Int32) (u : MS) => FC [305] [0] v u) (fun (u : MS) => (cW ad pr N cI cR L1 L2 u))) (qxc (dC, dI) (cW ad pr N cI cR L1 L2 v) sz (fun (u : MS) => (cW ad pr N cI cR L1 L2 u)) (fun (u : MS) => FC xfl xal v u ∧ (u.1 0 308).toInt ≠ 0)) 1 6 (va_A (cW ad pr N cI cR L1 L2 v) sz) := by
  refine vx_ofW (cc := cX5_headOfItem) (maxL := 2) (ret := (some .int)) (by decide) rfl ?_
  intro p e s m args below meth c s₁ B hml hnt hv
  obtain ⟨rfl, hsz, hP, hKK, hD0, hFx⟩ := hv
  have hK := hKK.1
  have hx := B.exec
  have hb := B.bytes
  have hr := B.returns
  have ht : ∀ w ∈ tw_W, w.before _ s = true := fun w h => atoms_spec (ws := Cond.code yX5_headOfItem cX5_headOfItem 2 (some .int) :: tw_W) B.pre w (List.mem_cons_of_mem _ h)
  have hown : s.vm.findClass RX5 = some m.cls := findClass_of_methodNamed B.named
  have hlocks := B.notSynchronized
  subst hsz
  unfold qiz_ qxc
  have hD := hD0.self (sz := s.heap.size)
  generalize hAe : va_A (cW ad pr N cI cR L1 L2 v) s.heap.size = A at hD hFx ⊢
  have hA : ∀ q : Nat, s.heap.size ≤ q → A q := fun q h => by rw [← hAe]; exact Or.inr h
  have hS : va_S A s.heap s.heap [] := va_S.rf
  have hl := lv_entry ([.ref (ad 903)]) (n := 2) (Nat.le_of_ble_eq_true rfl)
  rw [lg_entry_eq]
  generalize (lg_sl ([.ref (ad 903)]) ++ List.replicate (2 - (lg_sl ([.ref (ad 903)])).length) Slot.unset).toArray = ls at hl ⊢
  have hl : lv_has ls 2 [(0, .ref (ad 903))] := hl
  refine lv_aload_n hx hb dX5_headOfItem_0 rfl (lv_at hl 0 rfl) ?_
  refine va_get (D := (dC, dI)) (ci := 8) (fs := oF_X5 ad pr v) (v := .ref (ad 900)) (C := RX5) (T := TX5) (N := 7) hx hb ht itX5 hown hK hP 3 rfl rfl 1 (by decide) (ht _ tw_571) (fun _ h9 => h9) rfl dX5_headOfItem_1 ?_
  refine lv_bipush (v := 10) hx hb dX5_headOfItem_4 (by decide) ?_
  refine W.sz (fun hz9 => ?_)
  refine czx_v (rx_Vk (n := 1) (As := [.int 10]) (rest := []) hx hb hml hown ht hKK hFx hP hD hS hA (c_x_X9_expect l dC dI cI cB cZ cJ cR tb s.heap.size ad pr N L1 L2 v (10 : Int32) ps (show 0 ≤ (v.1 0 304).toInt ∧ (v.1 0 304).toInt ≤ 1503 from (om_c99648273b z304)) (show 0 ≤ (v.1 0 373).toInt ∧ (v.1 0 373).toInt ≤ 4000 from (om_c74a68af25 z373)) (show pr ps = ad 908 from hps) (show (v.1 0 300) = ps from es300) (show l.stackTraces = false from hst)) tw_526 tw_580 (by decide +kernel) rfl rfl ⟨Nat.le_of_ble_eq_true rfl, Nat.le_of_ble_eq_true rfl⟩ (List.range (cW ad pr N cI cR L1 L2 v).length) (rg_map _) (nd_range _) 0 rfl rfl rfl rfl hl.1 rfl (Nat.le_of_ble_eq_true rfl) dX5_headOfItem_6 ⟨Nat.le_of_ble_eq_true rfl, Nat.le_of_ble_eq_true rfl⟩) hP hD hS hA (fun u9 ce9 q9 H locs hx9 hP hD hS hc9 hv9 hf9 => ?_) (fun u2 H locs hw1 hP hD hS hz8 => ?_)
  · exact vx_out (fun x h9 => (hnt x h9).elim) hlocks hc9 hv9 hf9 (fun t9 ht9 hv8 => ⟨u9, ⟨FC.tr (FC.rf _) hx9.1, hx9.2⟩, ⟨rfl, by rw [ht9]; exact hP, hD⟩, hS.F ht9⟩) hS.2.2 (Nat.le_refl _) (Nat.le_refl _)
  refine W.shrink (hz8.trans hz9) ?_
  have fr1 := hw1
  refine lv_aload_n hx hb dX5_headOfItem_9 rfl (lv_at hl 0 rfl) ?_
  refine va_get (D := (dC, dI)) (ci := 8) (fs := oF_X5 ad pr u2) (v := .ref (ad 900)) (C := RX5) (T := TX5) (N := 7) hx hb ht itX5 hown hK hP 3 rfl rfl 1 (by decide) (ht _ tw_571) (fun _ h9 => h9) rfl dX5_headOfItem_10 ?_
  refine lv_iconst (v := 2) hx hb dX5_headOfItem_13 (by decide) ?_
  have q4 : (u2.1 0 304).toInt = (v.1 0 304).toInt := congrArg Int32.toInt ((fr1.2.1 304 (by decide)).trans (show v.1 0 304 = (v.1 0 304) by rfl))
  have q5 : (u2.1 0 373).toInt = (v.1 0 373).toInt := congrArg Int32.toInt ((fr1.2.1 373 (by decide)).trans (show v.1 0 373 = (v.1 0 373) by rfl))
  refine W.sz (fun hz9 => ?_)
  refine czx_v (rx_Vk (n := 1) (As := [.int 2]) (rest := []) hx hb hml hown ht hKK hFx hP hD hS hA (c_x_X9_need l dC dI cI cB cZ cJ cR tb H.size ad pr N L1 L2 u2 (2 : Int32) ps (show 0 ≤ (u2.1 0 304).toInt ∧ (u2.1 0 304).toInt ≤ 1503 from (om_73002589c1 z304 q4)) (show 0 ≤ (u2.1 0 373).toInt ∧ (u2.1 0 373).toInt ≤ 4000 from (om_9084c127ed z373 q5)) (show pr ps = ad 908 from hps) (show (u2.1 0 300) = ps from (Eq.trans (fr1.2.1 300 (by decide)) es300)) (show l.stackTraces = false from hst)) tw_559 tw_572 (by decide +kernel) rfl rfl ⟨Nat.le_of_ble_eq_true rfl, Nat.le_of_ble_eq_true rfl⟩ (List.range (cW ad pr N cI cR L1 L2 u2).length) (rg_map _) (nd_range _) 0 rfl rfl rfl rfl hl.1 rfl (Nat.le_of_ble_eq_true rfl) dX5_headOfItem_14 ⟨Nat.le_of_ble_eq_true rfl, Nat.le_of_ble_eq_true rfl⟩) hP hD hS hA (fun u9 ce9 q9 H locs hx9 hP hD hS hc9 hv9 hf9 => ?_) (fun u7 H locs hw6 hP hD hS hz8 => ?_)
  · exact vx_out (fun x h9 => (hnt x h9).elim) hlocks hc9 hv9 hf9 (fun t9 ht9 hv8 => ⟨u9, ⟨FC.tr (FC.tr (FC.rf _) (FC.up fr1 (by decide) (by decide))) hx9.1, hx9.2⟩, ⟨rfl, by rw [ht9]; exact hP, hD⟩, hS.F ht9⟩) hS.2.2 (Nat.le_refl _) (Nat.le_refl _)
  refine W.shrink (hz8.trans hz9) ?_
  have fr6 := hw6
  refine lv_aload_n hx hb dX5_headOfItem_17 rfl (lv_at hl 0 rfl) ?_
  refine va_get (D := (dC, dI)) (ci := 8) (fs := oF_X5 ad pr u7) (v := .ref (ad 900)) (C := RX5) (T := TX5) (N := 7) hx hb ht itX5 hown hK hP 3 rfl rfl 1 (by decide) (ht _ tw_571) (fun _ h9 => h9) rfl dX5_headOfItem_18 ?_
  have q9 : (u7.1 0 304).toInt = (u2.1 0 304).toInt := congrArg Int32.toInt ((fr6.2.1 304 (by decide)).trans (show u2.1 0 304 = (u2.1 0 304) by rfl))
  refine cu_i (rn_Vk (n := 0) (As := []) (rest := []) hx hb hml hown ht hKK hFx hP hD hS hA (c_x_X9_value l dC dI cI cB cZ cJ cR tb H.size ad pr N L1 L2 u7  (show 0 ≤ (u7.1 0 304).toInt ∧ (u7.1 0 304).toInt ≤ 1503 from (om_dd87ee851a z304 q4 q9))) tw_535 tw_574 (by decide +kernel) rfl rfl ⟨Nat.le_of_ble_eq_true rfl, Nat.le_of_ble_eq_true rfl⟩ (List.range (cW ad pr N cI cR L1 L2 u7).length) (rg_map _) (nd_range _) 0 rfl rfl rfl rfl hl.1 rfl (Nat.le_of_ble_eq_true rfl) dX5_headOfItem_21 ⟨Nat.le_of_ble_eq_true rfl, Nat.le_of_ble_eq_true rfl⟩) hP hD hS hA (fun r12 u11 H locs hw10 hP hD hS => ?_)
  obtain rfl := hw10
  refine W.widen (k := 0) (n := 0) (Nat.le_refl _) (Nat.le_refl _) ?_
  refine lv_istore_n (lv' := [(1, .int r12), (0, .ref (ad 903))]) hx hb dX5_headOfItem_24 rfl hl (by decide) rfl (fun ls hl => ?_)
  refine lv_aload_n hx hb dX5_headOfItem_25 rfl (lv_at hl 1 rfl) ?_
  refine va_get (D := (dC, dI)) (ci := 8) (fs := oF_X5 ad pr u7) (v := .ref (pr (u7.1 0 327))) (C := RX5) (T := TX5) (N := 7) hx hb ht itX5 hown hK hP 3 rfl rfl 0 (by decide) (ht _ tw_588) (fun _ h9 => h9) rfl dX5_headOfItem_26 ?_
  refine lv_iload_n hx hb dX5_headOfItem_29 rfl (lv_at hl 0 rfl) ?_
  refine W.eq (g2 := F0 m 30 ls [.int r12, .ref (ad 908)]) (by rw [show pr (u7.1 0 327) = (ad 908) from (by rw [show (u7.1 0 327) = ps from (Eq.trans (fr6.2.1 327 (by decide)) (Eq.trans (fr1.2.1 327 (by decide)) es327))]; exact hps)]) ?_
  refine cu_i (rn_Vk (n := 1) (As := [.int r12]) (rest := []) hx hb hml hown ht hKK hFx hP hD hS hA (c_x_X7_functionNamed l dC dI cI cB cZ cJ cR tb H.size ad pr N L1 L2 u7 r12 (show L1.length = 40 from hL1) (show L2.length = 60 from hL2) (show RP u7 from ((show FC [305] [0] v u7 from (FC.tr (FC.tr (FC.rf _) (FC.up fr1 (by decide) (by decide))) (FC.up fr6 (by decide) (by decide)))).1 rp))) tw_490 tw_589 (by decide +kernel) rfl rfl ⟨Nat.le_of_ble_eq_true rfl, Nat.le_of_ble_eq_true rfl⟩ (List.range (cW ad pr N cI cR L1 L2 u7).length) (rg_map _) (nd_range _) 8 rfl rfl rfl rfl hl.1 rfl (Nat.le_of_ble_eq_true rfl) dX5_headOfItem_30 ⟨Nat.le_of_ble_eq_true rfl, Nat.le_of_ble_eq_true rfl⟩) hP hD hS hA (fun r15 u14 H locs hw13 hP hD hS => ?_)
  obtain rfl := hw13
  refine W.widen (k := 0) (n := 0) (Nat.le_refl _) (Nat.le_refl _) ?_
  refine lv_iconst (v := -1) hx hb dX5_headOfItem_33 (by decide) ?_
  refine lv_icmp_ne (tgt := 49) hx hb dX5_headOfItem_34 (by decide) (fun h16 => ?_) (fun h16 => ?_)
  · have z17 : r15.toInt ≠ (-1 : Int) := ne_z rfl (show ((-1) : Int32).toInt = (-1 : Int) by decide) h16
    refine lv_aload_n hx hb dX5_headOfItem_49 rfl (lv_at hl 1 rfl) ?_
    refine va_get (D := (dC, dI)) (ci := 8) (fs := oF_X5 ad pr u7) (v := .ref (ad 900)) (C := RX5) (T := TX5) (N := 7) hx hb ht itX5 hown hK hP 3 rfl rfl 1 (by decide) (ht _ tw_571) (fun _ h9 => h9) rfl dX5_headOfItem_50 ?_
    refine lv_iconst (v := 3) hx hb dX5_headOfItem_53 (by decide) ?_
    refine lv_aload_n hx hb dX5_headOfItem_54 rfl (lv_at hl 1 rfl) ?_
    refine va_get (D := (dC, dI)) (ci := 8) (fs := oF_X5 ad pr u7) (v := .ref (ad 900)) (C := RX5) (T := TX5) (N := 7) hx hb ht itX5 hown hK hP 3 rfl rfl 1 (by decide) (ht _ tw_571) (fun _ h9 => h9) rfl dX5_headOfItem_55 ?_
    have q18 : (u7.1 0 373).toInt = (u2.1 0 373).toInt := congrArg Int32.toInt ((fr6.2.1 373 (by decide)).trans (show u2.1 0 373 = (u2.1 0 373) by rfl))
    refine cu_i (rn_Vk (n := 0) (As := []) (rest := [.int 3, .ref (ad 900)]) hx hb hml hown ht hKK hFx hP hD hS hA (c_x_X9_place l dC dI cI cB cZ cJ cR tb H.size ad pr N L1 L2 u7 ps (show 0 ≤ (u7.1 0 304).toInt ∧ (u7.1 0 304).toInt ≤ 1503 from (om_dd87ee851a z304 q4 q9)) (show 0 ≤ (u7.1 0 373).toInt ∧ (u7.1 0 373).toInt ≤ 4000 from (om_03cd8767ac z373 q5 q18)) (show pr ps = ad 908 from hps) (show (u7.1 0 300) = ps from (Eq.trans (fr6.2.1 300 (by decide)) (Eq.trans (fr1.2.1 300 (by decide)) es300)))) tw_457 tw_577 (by decide +kernel) rfl rfl ⟨Nat.le_of_ble_eq_true rfl, Nat.le_of_ble_eq_true rfl⟩ (List.range (cW ad pr N cI cR L1 L2 u7).length) (rg_map _) (nd_range _) 0 rfl rfl rfl rfl hl.1 rfl (Nat.le_of_ble_eq_true rfl) dX5_headOfItem_58 ⟨Nat.le_of_ble_eq_true rfl, Nat.le_of_ble_eq_true rfl⟩) hP hD hS hA (fun r21 u20 H locs hw19 hP hD hS => ?_)
    obtain rfl := hw19
    refine W.widen (k := 0) (n := 0) (Nat.le_refl _) (Nat.le_refl _) ?_
    refine W.sz (fun hz9 => ?_)
    refine czx_v (rx_Vk (n := 2) (As := [.int 3, .int r21]) (rest := []) hx hb hml hown ht hKK hFx hP hD hS hA (c_x_X9_refuse l dC dI cI cB cZ cJ cR tb H.size ad pr N L1 L2 u7 (3 : Int32) r21 (show l.stackTraces = false from hst) (show (3 : Int) ≠ 0 from om_59881768ad)) tw_459 tw_578 (by decide +kernel) rfl rfl ⟨Nat.le_of_ble_eq_true rfl, Nat.le_of_ble_eq_true rfl⟩ (List.range (cW ad pr N cI cR L1 L2 u7).length) (rg_map _) (nd_range _) 0 rfl rfl rfl rfl hl.1 rfl (Nat.le_of_ble_eq_true rfl) dX5_headOfItem_61 ⟨Nat.le_of_ble_eq_true rfl, Nat.le_of_ble_eq_true rfl⟩) hP hD hS hA (fun u9 ce9 q9 H locs hx9 hP hD hS hc9 hv9 hf9 => ?_) (fun u23 H locs hw22 hP hD hS hz8 => ?_)
    · exact vx_out (fun x h9 => (hnt x h9).elim) hlocks hc9 hv9 hf9 (fun t9 ht9 hv8 => ⟨u9, ⟨FC.tr (FC.tr (FC.tr (FC.rf _) (FC.up fr1 (by decide) (by decide))) (FC.up fr6 (by decide) (by decide))) hx9.1, hx9.2⟩, ⟨rfl, by rw [ht9]; exact hP, hD⟩, hS.F ht9⟩) hS.2.2 (Nat.le_refl _) (Nat.le_refl _)
    refine W.shrink (hz8.trans hz9) ?_
    obtain ⟨fr22, no22⟩ := hw22
    have no22 : False := no22
    exact no22.elim
  · have z25 : r15.toInt = (-1 : Int) := eq_z rfl (show ((-1) : Int32).toInt = (-1 : Int) by decide) h16
    refine lv_aload_n hx hb dX5_headOfItem_37 rfl (lv_at hl 1 rfl) ?_
    refine va_get (D := (dC, dI)) (ci := 8) (fs := oF_X5 ad pr u7) (v := .ref (pr (u7.1 0 327))) (C := RX5) (T := TX5) (N := 7) hx hb ht itX5 hown hK hP 3 rfl rfl 0 (by decide) (ht _ tw_588) (fun _ h9 => h9) rfl dX5_headOfItem_38 ?_
    refine lv_iload_n hx hb dX5_headOfItem_41 rfl (lv_at hl 0 rfl) ?_
    refine W.eq (g2 := F0 m 42 ls [.int r12, .ref (ad 908)]) (by rw [show pr (u7.1 0 327) = (ad 908) from (by rw [show (u7.1 0 327) = ps from (Eq.trans (fr6.2.1 327 (by decide)) (Eq.trans (fr1.2.1 327 (by decide)) es327))]; exact hps)]) ?_
    refine cu_i (rn_Vk (n := 1) (As := [.int r12]) (rest := []) hx hb hml hown ht hKK hFx hP hD hS hA (c_x_X7_globalNamed l dC dI cI cB cZ cJ cR tb H.size ad pr N L1 L2 u7 r12 (show L1.length = 40 from hL1) (show L2.length = 60 from hL2) (show RP u7 from ((show FC [305] [0] v u7 from (FC.tr (FC.tr (FC.rf _) (FC.up fr1 (by decide) (by decide))) (FC.up fr6 (by decide) (by decide)))).1 rp))) tw_553 tw_590 (by decide +kernel) rfl rfl ⟨Nat.le_of_ble_eq_true rfl, Nat.le_of_ble_eq_true rfl⟩ (List.range (cW ad pr N cI cR L1 L2 u7).length) (rg_map _) (nd_range _) 8 rfl rfl rfl rfl hl.1 rfl (Nat.le_of_ble_eq_true rfl) dX5_headOfItem_42 ⟨Nat.le_of_ble_eq_true rfl, Nat.le_of_ble_eq_true rfl⟩) hP hD hS hA (fun r28 u27 H locs hw26 hP hD hS => ?_)
    obtain rfl := hw26
    refine W.widen (k := 0) (n := 0) (Nat.le_refl _) (Nat.le_refl _) ?_
    refine lv_iconst (v := -1) hx hb dX5_headOfItem_45 (by decide) ?_
    refine lv_icmp_eq (tgt := 64) hx hb dX5_headOfItem_46 (by decide) (fun h29 => ?_) (fun h29 => ?_)
    · have z30 : r28.toInt = (-1 : Int) := eq_z rfl (show ((-1) : Int32).toInt = (-1 : Int) by decide) h29
      refine lv_aload_n hx hb dX5_headOfItem_64 rfl (lv_at hl 1 rfl) ?_
      refine va_get (D := (dC, dI)) (ci := 8) (fs := oF_X5 ad pr u7) (v := .ref (ad 900)) (C := RX5) (T := TX5) (N := 7) hx hb ht itX5 hown hK hP 3 rfl rfl 1 (by decide) (ht _ tw_571) (fun _ h9 => h9) rfl dX5_headOfItem_65 ?_
      refine cu_i (rn_Vk (n := 0) (As := []) (rest := []) hx hb hml hown ht hKK hFx hP hD hS hA (c_x_X9_kindBehind l dC dI cI cB cZ cJ cR tb H.size ad pr N L1 L2 u7  (show 0 ≤ (u7.1 0 304).toInt ∧ (u7.1 0 304).toInt ≤ 1503 from (om_dd87ee851a z304 q4 q9))) tw_543 tw_591 (by decide +kernel) rfl rfl ⟨Nat.le_of_ble_eq_true rfl, Nat.le_of_ble_eq_true rfl⟩ (List.range (cW ad pr N cI cR L1 L2 u7).length) (rg_map _) (nd_range _) 0 rfl rfl rfl rfl hl.1 rfl (Nat.le_of_ble_eq_true rfl) dX5_headOfItem_68 ⟨Nat.le_of_ble_eq_true rfl, Nat.le_of_ble_eq_true rfl⟩) hP hD hS hA (fun r33 u32 H locs hw31 hP hD hS => ?_)
      obtain rfl := hw31
      refine W.widen (k := 0) (n := 0) (Nat.le_refl _) (Nat.le_refl _) ?_
      refine W.sz (fun hz => ?_)
      refine vx_ret ?_
      refine W.widen (k := 1) (n := 6) (Nat.le_of_ble_eq_true rfl) (Nat.le_of_ble_eq_true rfl) ?_
      exact W.iret (v := r33) hx hb hr (fun t ht9 hW => ⟨⟨r33, u7, rfl, (FC.tr (FC.tr (FC.rf _) (FC.up fr1 (by decide) (by decide))) (FC.up fr6 (by decide) (by decide))), ⟨by rw [ht9]; exact hP, hD⟩, by rw [ht9]; exact hz⟩, hS.F ht9⟩) hS.2.2 dX5_headOfItem_71
    · have z34 : r28.toInt ≠ (-1 : Int) := ne_z rfl (show ((-1) : Int32).toInt = (-1 : Int) by decide) h29
      refine lv_aload_n hx hb dX5_headOfItem_49 rfl (lv_at hl 1 rfl) ?_
      refine va_get (D := (dC, dI)) (ci := 8) (fs := oF_X5 ad pr u7) (v := .ref (ad 900)) (C := RX5) (T := TX5) (N := 7) hx hb ht itX5 hown hK hP 3 rfl rfl 1 (by decide) (ht _ tw_571) (fun _ h9 => h9) rfl dX5_headOfItem_50 ?_
      refine lv_iconst (v := 3) hx hb dX5_headOfItem_53 (by decide) ?_
      refine lv_aload_n hx hb dX5_headOfItem_54 rfl (lv_at hl 1 rfl) ?_
      refine va_get (D := (dC, dI)) (ci := 8) (fs := oF_X5 ad pr u7) (v := .ref (ad 900)) (C := RX5) (T := TX5) (N := 7) hx hb ht itX5 hown hK hP 3 rfl rfl 1 (by decide) (ht _ tw_571) (fun _ h9 => h9) rfl dX5_headOfItem_55 ?_
      have q35 : (u7.1 0 373).toInt = (u2.1 0 373).toInt := congrArg Int32.toInt ((fr6.2.1 373 (by decide)).trans (show u2.1 0 373 = (u2.1 0 373) by rfl))
      refine cu_i (rn_Vk (n := 0) (As := []) (rest := [.int 3, .ref (ad 900)]) hx hb hml hown ht hKK hFx hP hD hS hA (c_x_X9_place l dC dI cI cB cZ cJ cR tb H.size ad pr N L1 L2 u7 ps (show 0 ≤ (u7.1 0 304).toInt ∧ (u7.1 0 304).toInt ≤ 1503 from (om_dd87ee851a z304 q4 q9)) (show 0 ≤ (u7.1 0 373).toInt ∧ (u7.1 0 373).toInt ≤ 4000 from (om_03cd8767ac z373 q5 q35)) (show pr ps = ad 908 from hps) (show (u7.1 0 300) = ps from (Eq.trans (fr6.2.1 300 (by decide)) (Eq.trans (fr1.2.1 300 (by decide)) es300)))) tw_457 tw_577 (by decide +kernel) rfl rfl ⟨Nat.le_of_ble_eq_true rfl, Nat.le_of_ble_eq_true rfl⟩ (List.range (cW ad pr N cI cR L1 L2 u7).length) (rg_map _) (nd_range _) 0 rfl rfl rfl rfl hl.1 rfl (Nat.le_of_ble_eq_true rfl) dX5_headOfItem_58 ⟨Nat.le_of_ble_eq_true rfl, Nat.le_of_ble_eq_true rfl⟩) hP hD hS hA (fun r38 u37 H locs hw36 hP hD hS => ?_)
      obtain rfl := hw36
      refine W.widen (k := 0) (n := 0) (Nat.le_refl _) (Nat.le_refl _) ?_
      refine W.sz (fun hz9 => ?_)
      refine czx_v (rx_Vk (n := 2) (As := [.int 3, .int r38]) (rest := []) hx hb hml hown ht hKK hFx hP hD hS hA (c_x_X9_refuse l dC dI cI cB cZ cJ cR tb H.size ad pr N L1 L2 u7 (3 : Int32) r38 (show l.stackTraces = false from hst) (show (3 : Int) ≠ 0 from om_59881768ad)) tw_459 tw_578 (by decide +kernel) rfl rfl ⟨Nat.le_of_ble_eq_true rfl, Nat.le_of_ble_eq_true rfl⟩ (List.range (cW ad pr N cI cR L1 L2 u7).length) (rg_map _) (nd_range _) 0 rfl rfl rfl rfl hl.1 rfl (Nat.le_of_ble_eq_true rfl) dX5_headOfItem_61 ⟨Nat.le_of_ble_eq_true rfl, Nat.le_of_ble_eq_true rfl⟩) hP hD hS hA (fun u9 ce9 q9 H locs hx9 hP hD hS hc9 hv9 hf9 => ?_) (fun u40 H locs hw39 hP hD hS hz8 => ?_)
      · exact vx_out (fun x h9 => (hnt x h9).elim) hlocks hc9 hv9 hf9 (fun t9 ht9 hv8 => ⟨u9, ⟨FC.tr (FC.tr (FC.tr (FC.rf _) (FC.up fr1 (by decide) (by decide))) (FC.up fr6 (by decide) (by decide))) hx9.1, hx9.2⟩, ⟨rfl, by rw [ht9]; exact hP, hD⟩, hS.F ht9⟩) hS.2.2 (Nat.le_refl _) (Nat.le_refl _)
      refine W.shrink (hz8.trans hz9) ?_
      obtain ⟨fr39, no39⟩ := hw39
      have no39 : False := no39
      exact no39.elim
theorem om_e23802e45a : (6 : Int) ≠ 0 := by omega
set_option maxHeartbeats 4000000 in
set_option maxRecDepth 100000 in
theorem c_x_X5_jumpStat (l : Launch) (dC : Nat → ClassId) (dI : Nat → Nat → Nat) (cI cB cZ cJ cR : ClassId) (tb : Nat → Nat) (sz : Nat) (ad : Nat → Nat) (pr : Int32 → Nat) (N : Nat) (L1 L2 : List Nat) (v : MS) (pa : Int32) (ps : Int32) (z304 : 0 ≤ (v.1 0 304).toInt ∧ (v.1 0 304).toInt ≤ 1503) (z373 : 0 ≤ (v.1 0 373).toInt ∧ (v.1 0 373).toInt ≤ 4000) (z381 : 0 ≤ (v.1 0 381).toInt ∧ (v.1 0 381).toInt ≤ 3008) (hps : pr ps = ad 908) (es300 : (v.1 0 300) = ps) (es310 : (v.1 0 310) = ps) (hst : l.stackTraces = false) : vx_Met l yX5_jumpStat (Cond.code yX5_jumpStat cX5_jumpStat 3 none :: tw_W) ({ frames := 8, cells := 1, slots := 6, locals := 125 }) (pc_ (dC, dI) (tyS cI cB cZ cJ cR) tb (cW ad pr N cI cR L1 L2 v) sz [.ref (ad 903), .int pa]) (qvz_ (dC, dI) (cW ad pr N cI cR L1 L2 v) sz (fun (u : MS) => FC [305, 381] [0, 378, 379, 380] v u ∧ (0 ≤ (u.1 0 381).toInt ∧ (u.1 0 381).toInt ≤ 3008)) (fun (u : MS) => (cW ad pr N cI cR L1 L2 u))) (qxc (dC, dI) (cW ad pr N cI cR L1 L2 v) sz (fun (u : MS) => (cW ad pr N cI cR L1 L2 u)) (fun (u : MS) => FC xfl xal v u ∧ (u.1 0 308).toInt ≠ 0)) 1 6 (va_A (cW ad pr N cI cR L1 L2 v) sz) := by
  refine vx_ofW (cc := cX5_jumpStat) (maxL := 3) (ret := none) (by decide) rfl ?_
  intro p e s m args below meth c s₁ B hml hnt hv
  obtain ⟨rfl, hsz, hP, hKK, hD0, hFx⟩ := hv
  have hK := hKK.1
  have hx := B.exec
  have hb := B.bytes
  have hr := B.returns
  have ht : ∀ w ∈ tw_W, w.before _ s = true := fun w h => atoms_spec (ws := Cond.code yX5_jumpStat cX5_jumpStat 3 none :: tw_W) B.pre w (List.mem_cons_of_mem _ h)
  have hown : s.vm.findClass RX5 = some m.cls := findClass_of_methodNamed B.named
  have hlocks := B.notSynchronized
  subst hsz
  unfold qvz_ qxc
  have hD := hD0.self (sz := s.heap.size)
  generalize hAe : va_A (cW ad pr N cI cR L1 L2 v) s.heap.size = A at hD hFx ⊢
  have hA : ∀ q : Nat, s.heap.size ≤ q → A q := fun q h => by rw [← hAe]; exact Or.inr h
  have hS : va_S A s.heap s.heap [] := va_S.rf
  have hl := lv_entry ([.ref (ad 903), .int pa]) (n := 3) (Nat.le_of_ble_eq_true rfl)
  rw [lg_entry_eq]
  generalize (lg_sl ([.ref (ad 903), .int pa]) ++ List.replicate (3 - (lg_sl ([.ref (ad 903), .int pa])).length) Slot.unset).toArray = ls at hl ⊢
  have hl : lv_has ls 3 [(0, .ref (ad 903)), (1, .int pa)] := hl
  refine lv_aload_n hx hb dX5_jumpStat_0 rfl (lv_at hl 0 rfl) ?_
  refine va_get (D := (dC, dI)) (ci := 8) (fs := oF_X5 ad pr v) (v := .ref (ad 900)) (C := RX5) (T := TX5) (N := 7) hx hb ht itX5 hown hK hP 3 rfl rfl 1 (by decide) (ht _ tw_571) (fun _ h9 => h9) rfl dX5_jumpStat_1 ?_
  refine cu_i (rn_Vk (n := 0) (As := []) (rest := []) hx hb hml hown ht hKK hFx hP hD hS hA (c_x_X9_place l dC dI cI cB cZ cJ cR tb s.heap.size ad pr N L1 L2 v ps (show 0 ≤ (v.1 0 304).toInt ∧ (v.1 0 304).toInt ≤ 1503 from (om_c99648273b z304)) (show 0 ≤ (v.1 0 373).toInt ∧ (v.1 0 373).toInt ≤ 4000 from (om_c74a68af25 z373)) (show pr ps = ad 908 from hps) (show (v.1 0 300) = ps from es300)) tw_457 tw_577 (by decide +kernel) rfl rfl ⟨Nat.le_of_ble_eq_true rfl, Nat.le_of_ble_eq_true rfl⟩ (List.range (cW ad pr N cI cR L1 L2 v).length) (rg_map _) (nd_range _) 0 rfl rfl rfl rfl hl.1 rfl (Nat.le_of_ble_eq_true rfl) dX5_jumpStat_4 ⟨Nat.le_of_ble_eq_true rfl, Nat.le_of_ble_eq_true rfl⟩) hP hD hS hA (fun r3 u2 H locs hw1 hP hD hS => ?_)
  obtain rfl := hw1
  refine W.widen (k := 0) (n := 0) (Nat.le_refl _) (Nat.le_refl _) ?_
  refine lv_istore_n (lv' := [(2, .int r3), (0, .ref (ad 903)), (1, .int pa)]) hx hb dX5_jumpStat_7 rfl hl (by decide) rfl (fun ls hl => ?_)
  refine lv_aload_n hx hb dX5_jumpStat_8 rfl (lv_at hl 1 rfl) ?_
  refine va_get (D := (dC, dI)) (ci := 8) (fs := oF_X5 ad pr v) (v := .ref (ad 900)) (C := RX5) (T := TX5) (N := 7) hx hb ht itX5 hown hK hP 3 rfl rfl 1 (by decide) (ht _ tw_571) (fun _ h9 => h9) rfl dX5_jumpStat_9 ?_
  refine W.sz (fun hz9 => ?_)
  refine czx_v (rx_Vk (n := 0) (As := []) (rest := []) hx hb hml hown ht hKK hFx hP hD hS hA (c_x_X9_take l dC dI cI cB cZ cJ cR tb H.size ad pr N L1 L2 v ps (show 0 ≤ (v.1 0 304).toInt ∧ (v.1 0 304).toInt ≤ 1503 from (om_c99648273b z304)) (show 0 ≤ (v.1 0 373).toInt ∧ (v.1 0 373).toInt ≤ 4000 from (om_c74a68af25 z373)) (show pr ps = ad 908 from hps) (show (v.1 0 300) = ps from es300) (show l.stackTraces = false from hst)) tw_539 tw_585 (by decide +kernel) rfl rfl ⟨Nat.le_of_ble_eq_true rfl, Nat.le_of_ble_eq_true rfl⟩ (List.range (cW ad pr N cI cR L1 L2 v).length) (rg_map _) (nd_range _) 0 rfl rfl rfl rfl hl.1 rfl (Nat.le_of_ble_eq_true rfl) dX5_jumpStat_12 ⟨Nat.le_of_ble_eq_true rfl, Nat.le_of_ble_eq_true rfl⟩) hP hD hS hA (fun u9 ce9 q9 H locs hx9 hP hD hS hc9 hv9 hf9 => ?_) (fun u5 H locs hw4 hP hD hS hz8 => ?_)
  · exact vx_out (fun x h9 => (hnt x h9).elim) hlocks hc9 hv9 hf9 (fun t9 ht9 hv8 => ⟨u9, ⟨FC.tr (FC.rf _) hx9.1, hx9.2⟩, ⟨rfl, by rw [ht9]; exact hP, hD⟩, hS.F ht9⟩) hS.2.2 (Nat.le_refl _) (Nat.le_refl _)
  refine W.shrink (hz8.trans hz9) ?_
  have fr4 := hw4
  refine lv_iload_n hx hb dX5_jumpStat_15 rfl (lv_at hl 2 rfl) ?_
  refine lv_iconst (v := -1) hx hb dX5_jumpStat_16 (by decide) ?_
  refine lv_icmp_ne (tgt := 30) hx hb dX5_jumpStat_17 (by decide) (fun h7 => ?_) (fun h7 => ?_)
  · have z8 : pa.toInt ≠ (-1 : Int) := ne_z rfl (show ((-1) : Int32).toInt = (-1 : Int) by decide) h7
    refine lv_aload_n hx hb dX5_jumpStat_30 rfl (lv_at hl 1 rfl) ?_
    refine va_get (D := (dC, dI)) (ci := 8) (fs := oF_X5 ad pr u5) (v := .ref (ad 901)) (C := RX5) (T := TX5) (N := 7) hx hb ht itX5 hown hK hP 3 rfl rfl 2 (by decide) (ht _ tw_573) (fun _ h9 => h9) rfl dX5_jumpStat_31 ?_
    refine lv_bipush (v := 19) hx hb dX5_jumpStat_34 (by decide) ?_
    refine lv_iload_n hx hb dX5_jumpStat_36 rfl (lv_at hl 2 rfl) ?_
    refine lv_iconst (v := 0) hx hb dX5_jumpStat_37 (by decide) ?_
    have q9 : (u5.1 0 381).toInt = (v.1 0 381).toInt := congrArg Int32.toInt ((fr4.2.1 381 (by decide)).trans (show v.1 0 381 = (v.1 0 381) by rfl))
    refine cu_v (rn_Vk (n := 3) (As := [.int 19, .int pa, .int 0]) (rest := []) hx hb hml hown ht hKK hFx hP hD hS hA (c_x_X1_add l dC dI cI cB cZ cJ cR tb H.size ad pr N L1 L2 u5 (19 : Int32) pa (0 : Int32) ps (show 0 ≤ (u5.1 0 381).toInt ∧ (u5.1 0 381).toInt ≤ 3008 from (om_6e4eb11ad3 z381 q9)) (show pr ps = ad 908 from hps) (show (u5.1 0 310) = ps from (Eq.trans (fr4.2.1 310 (by decide)) es310))) tw_499 tw_592 (by decide +kernel) rfl rfl ⟨Nat.le_of_ble_eq_true rfl, Nat.le_of_ble_eq_true rfl⟩ (List.range (cW ad pr N cI cR L1 L2 u5).length) (rg_map _) (nd_range _) 1 rfl rfl rfl rfl hl.1 rfl (Nat.le_of_ble_eq_true rfl) dX5_jumpStat_38 ⟨Nat.le_of_ble_eq_true rfl, Nat.le_of_ble_eq_true rfl⟩) hP hD hS hA (fun u11 H locs hw10 hP hD hS => ?_)
    obtain ⟨fr10, i38110⟩ := hw10
    have i38110 : 0 ≤ (u11.1 0 381).toInt ∧ (u11.1 0 381).toInt ≤ 3008 := i38110
    refine W.widen (k := 0) (n := 0) (Nat.le_refl _) (Nat.le_refl _) ?_
    refine lv_aload_n hx hb dX5_jumpStat_41 rfl (lv_at hl 1 rfl) ?_
    refine va_get (D := (dC, dI)) (ci := 8) (fs := oF_X5 ad pr u11) (v := .ref (ad 900)) (C := RX5) (T := TX5) (N := 7) hx hb ht itX5 hown hK hP 3 rfl rfl 1 (by decide) (ht _ tw_571) (fun _ h9 => h9) rfl dX5_jumpStat_42 ?_
    refine lv_bipush (v := 36) hx hb dX5_jumpStat_45 (by decide) ?_
    have q13 : (u5.1 0 304).toInt = (v.1 0 304).toInt := congrArg Int32.toInt ((fr4.2.1 304 (by decide)).trans (show v.1 0 304 = (v.1 0 304) by rfl))
    have q14 : (u11.1 0 304).toInt = (u5.1 0 304).toInt := congrArg Int32.toInt ((fr10.2.1 304 (by decide)).trans (show u5.1 0 304 = (u5.1 0 304) by rfl))
    have q15 : (u5.1 0 373).toInt = (v.1 0 373).toInt := congrArg Int32.toInt ((fr4.2.1 373 (by decide)).trans (show v.1 0 373 = (v.1 0 373) by rfl))
    have q16 : (u11.1 0 373).toInt = (u5.1 0 373).toInt := congrArg Int32.toInt ((fr10.2.1 373 (by decide)).trans (show u5.1 0 373 = (u5.1 0 373) by rfl))
    refine W.sz (fun hz9 => ?_)
    refine czx_v (rx_Vk (n := 1) (As := [.int 36]) (rest := []) hx hb hml hown ht hKK hFx hP hD hS hA (c_x_X9_expect l dC dI cI cB cZ cJ cR tb H.size ad pr N L1 L2 u11 (36 : Int32) ps (show 0 ≤ (u11.1 0 304).toInt ∧ (u11.1 0 304).toInt ≤ 1503 from (om_dd87ee851a z304 q13 q14)) (show 0 ≤ (u11.1 0 373).toInt ∧ (u11.1 0 373).toInt ≤ 4000 from (om_03cd8767ac z373 q15 q16)) (show pr ps = ad 908 from hps) (show (u11.1 0 300) = ps from (Eq.trans (fr10.2.1 300 (by decide)) (Eq.trans (fr4.2.1 300 (by decide)) es300))) (show l.stackTraces = false from hst)) tw_526 tw_580 (by decide +kernel) rfl rfl ⟨Nat.le_of_ble_eq_true rfl, Nat.le_of_ble_eq_true rfl⟩ (List.range (cW ad pr N cI cR L1 L2 u11).length) (rg_map _) (nd_range _) 0 rfl rfl rfl rfl hl.1 rfl (Nat.le_of_ble_eq_true rfl) dX5_jumpStat_47 ⟨Nat.le_of_ble_eq_true rfl, Nat.le_of_ble_eq_true rfl⟩) hP hD hS hA (fun u9 ce9 q9 H locs hx9 hP hD hS hc9 hv9 hf9 => ?_) (fun u18 H locs hw17 hP hD hS hz8 => ?_)
    · exact vx_out (fun x h9 => (hnt x h9).elim) hlocks hc9 hv9 hf9 (fun t9 ht9 hv8 => ⟨u9, ⟨FC.tr (FC.tr (FC.tr (FC.rf _) (FC.up fr4 (by decide) (by decide))) (FC.up fr10 (by decide) (by decide))) hx9.1, hx9.2⟩, ⟨rfl, by rw [ht9]; exact hP, hD⟩, hS.F ht9⟩) hS.2.2 (Nat.le_refl _) (Nat.le_refl _)
    refine W.shrink (hz8.trans hz9) ?_
    have fr17 := hw17
    have q20 : (u18.1 0 381).toInt = (u11.1 0 381).toInt := congrArg Int32.toInt ((fr17.2.1 381 (by decide)).trans (show u11.1 0 381 = (u11.1 0 381) by rfl))
    refine W.sz (fun hz => ?_)
    refine vx_ret ?_
    refine W.widen (k := 1) (n := 6) (Nat.le_of_ble_eq_true rfl) (Nat.le_of_ble_eq_true rfl) ?_
    exact W.vret hx hb hr (fun t ht9 hW => ⟨⟨u18, rfl, ⟨(FC.tr (FC.tr (FC.tr (FC.rf _) (FC.up fr4 (by decide) (by decide))) (FC.up fr10 (by decide) (by decide))) (FC.up fr17 (by decide) (by decide))), (show 0 ≤ (u18.1 0 381).toInt ∧ (u18.1 0 381).toInt ≤ 3008 from (om_6e4eb11ad3 i38110 q20))⟩, ⟨by rw [ht9]; exact hP, hD⟩, by rw [ht9]; exact hz⟩, hS.F ht9⟩) hS.2.2 dX5_jumpStat_50
  · have z21 : pa.toInt = (-1 : Int) := eq_z rfl (show ((-1) : Int32).toInt = (-1 : Int) by decide) h7
    refine lv_aload_n hx hb dX5_jumpStat_20 rfl (lv_at hl 1 rfl) ?_
    refine va_get (D := (dC, dI)) (ci := 8) (fs := oF_X5 ad pr u5) (v := .ref (ad 900)) (C := RX5) (T := TX5) (N := 7) hx hb ht itX5 hown hK hP 3 rfl rfl 1 (by decide) (ht _ tw_571) (fun _ h9 => h9) rfl dX5_jumpStat_21 ?_
    refine lv_bipush (v := 6) hx hb dX5_jumpStat_24 (by decide) ?_
    refine lv_iload_n hx hb dX5_jumpStat_26 rfl (lv_at hl 0 rfl) ?_
    refine W.sz (fun hz9 => ?_)
    refine czx_v (rx_Vk (n := 2) (As := [.int 6, .int r3]) (rest := []) hx hb hml hown ht hKK hFx hP hD hS hA (c_x_X9_refuse l dC dI cI cB cZ cJ cR tb H.size ad pr N L1 L2 u5 (6 : Int32) r3 (show l.stackTraces = false from hst) (show (6 : Int) ≠ 0 from om_e23802e45a)) tw_459 tw_578 (by decide +kernel) rfl rfl ⟨Nat.le_of_ble_eq_true rfl, Nat.le_of_ble_eq_true rfl⟩ (List.range (cW ad pr N cI cR L1 L2 u5).length) (rg_map _) (nd_range _) 0 rfl rfl rfl rfl hl.1 rfl (Nat.le_of_ble_eq_true rfl) dX5_jumpStat_27 ⟨Nat.le_of_ble_eq_true rfl, Nat.le_of_ble_eq_true rfl⟩) hP hD hS hA (fun u9 ce9 q9 H locs hx9 hP hD hS hc9 hv9 hf9 => ?_) (fun u23 H locs hw22 hP hD hS hz8 => ?_)
    · exact vx_out (fun x h9 => (hnt x h9).elim) hlocks hc9 hv9 hf9 (fun t9 ht9 hv8 => ⟨u9, ⟨FC.tr (FC.tr (FC.rf _) (FC.up fr4 (by decide) (by decide))) hx9.1, hx9.2⟩, ⟨rfl, by rw [ht9]; exact hP, hD⟩, hS.F ht9⟩) hS.2.2 (Nat.le_refl _) (Nat.le_refl _)
    refine W.shrink (hz8.trans hz9) ?_
    obtain ⟨fr22, no22⟩ := hw22
    have no22 : False := no22
    exact no22.elim
theorem om_d6bb448ea1 {x0 x1 x2 x3 : Int} (h0 : x0 = x1 + 1) (h1 : x2 = x0) (h2 : x3 = x2 - 1) : x3 = x1 := by omega
theorem om_300badd5bd {x0 x1 x2 : Int} (h0 : x0 = x1 + 1) (h1 : x2 = x0) : x2 = x1 + 1 := by omega
theorem om_8d8f12efc9 {x0 x1 x2 x3 : Int} (h0 : 0 ≤ x0 ∧ x0 ≤ 40) (h1 : 0 ≤ x1 ∧ x1 ≤ 40) (h2 : x1 = x0 + 1) (h3 : x2 = x1) (h4 : x3 = x2) : 0 ≤ x3 ∧ x3 ≤ 40 := by omega
set_option maxHeartbeats 4000000 in
set_option maxRecDepth 100000 in
theorem c_x_X5_parameters (l : Launch) (dC : Nat → ClassId) (dI : Nat → Nat → Nat) (cI cB cZ cJ cR : ClassId) (tb : Nat → Nat) (sz : Nat) (ad : Nat → Nat) (pr : Int32 → Nat) (N : Nat) (L1 L2 : List Nat) (v : MS) (ps : Int32) (z304 : 0 ≤ (v.1 0 304).toInt ∧ (v.1 0 304).toInt ≤ 1503) (z306 : 0 ≤ (v.1 0 306).toInt ∧ (v.1 0 306).toInt ≤ 40) (z312 : 0 ≤ (v.1 0 312).toInt ∧ (v.1 0 312).toInt ≤ 500) (z373 : 0 ≤ (v.1 0 373).toInt ∧ (v.1 0 373).toInt ≤ 4000) (hps : pr ps = ad 908) (es300 : (v.1 0 300) = ps) (hst : l.stackTraces = false) : vx_Met l yX5_parameters (Cond.code yX5_parameters cX5_parameters 2 none :: tw_W) ({ frames := 10, cells := 1, slots := 6, locals := 166 }) (pc_ (dC, dI) (tyS cI cB cZ cJ cR) tb (cW ad pr N cI cR L1 L2 v) sz [.ref (ad 903)]) (qvz_ (dC, dI) (cW ad pr N cI cR L1 L2 v) sz (fun (u : MS) => FC [305, 306, 312, 315] [0, 311] v u ∧ (0 ≤ (u.1 0 306).toInt ∧ (u.1 0 306).toInt ≤ 40) ∧ (0 ≤ (u.1 0 312).toInt ∧ (u.1 0 312).toInt ≤ 500) ∧ ((u.1 0 306).toInt = (v.1 0 306).toInt)) (fun (u : MS) => (cW ad pr N cI cR L1 L2 u))) (qxc (dC, dI) (cW ad pr N cI cR L1 L2 v) sz (fun (u : MS) => (cW ad pr N cI cR L1 L2 u)) (fun (u : MS) => FC xfl xal v u ∧ (u.1 0 308).toInt ≠ 0)) 1 6 (va_A (cW ad pr N cI cR L1 L2 v) sz) := by
  refine vx_ofW (cc := cX5_parameters) (maxL := 2) (ret := none) (by decide) rfl ?_
  intro p e s m args below meth c s₁ B hml hnt hv
  obtain ⟨rfl, hsz, hP, hKK, hD0, hFx⟩ := hv
  have hK := hKK.1
  have hx := B.exec
  have hb := B.bytes
  have hr := B.returns
  have ht : ∀ w ∈ tw_W, w.before _ s = true := fun w h => atoms_spec (ws := Cond.code yX5_parameters cX5_parameters 2 none :: tw_W) B.pre w (List.mem_cons_of_mem _ h)
  have hown : s.vm.findClass RX5 = some m.cls := findClass_of_methodNamed B.named
  have hlocks := B.notSynchronized
  subst hsz
  unfold qvz_ qxc
  have hD := hD0.self (sz := s.heap.size)
  generalize hAe : va_A (cW ad pr N cI cR L1 L2 v) s.heap.size = A at hD hFx ⊢
  have hA : ∀ q : Nat, s.heap.size ≤ q → A q := fun q h => by rw [← hAe]; exact Or.inr h
  have hS : va_S A s.heap s.heap [] := va_S.rf
  have hl := lv_entry ([.ref (ad 903)]) (n := 2) (Nat.le_of_ble_eq_true rfl)
  rw [lg_entry_eq]
  generalize (lg_sl ([.ref (ad 903)]) ++ List.replicate (2 - (lg_sl ([.ref (ad 903)])).length) Slot.unset).toArray = ls at hl ⊢
  have hl : lv_has ls 2 [(0, .ref (ad 903))] := hl
  refine lv_aload_n hx hb dX5_parameters_0 rfl (lv_at hl 0 rfl) ?_
  refine va_get (D := (dC, dI)) (ci := 8) (fs := oF_X5 ad pr v) (v := .ref (ad 900)) (C := RX5) (T := TX5) (N := 7) hx hb ht itX5 hown hK hP 3 rfl rfl 1 (by decide) (ht _ tw_571) (fun _ h9 => h9) rfl dX5_parameters_1 ?_
  refine W.sz (fun hz9 => ?_)
  refine czx_v (rx_Vk (n := 0) (As := []) (rest := []) hx hb hml hown ht hKK hFx hP hD hS hA (c_x_X9_open l dC dI cI cB cZ cJ cR tb s.heap.size ad pr N L1 L2 v ps (show 0 ≤ (v.1 0 304).toInt ∧ (v.1 0 304).toInt ≤ 1503 from (om_c99648273b z304)) (show 0 ≤ (v.1 0 306).toInt ∧ (v.1 0 306).toInt ≤ 40 from (om_7eaf33e007 z306)) (show 0 ≤ (v.1 0 373).toInt ∧ (v.1 0 373).toInt ≤ 4000 from (om_c74a68af25 z373)) (show pr ps = ad 908 from hps) (show (v.1 0 300) = ps from es300) (show l.stackTraces = false from hst)) tw_524 tw_593 (by decide +kernel) rfl rfl ⟨Nat.le_of_ble_eq_true rfl, Nat.le_of_ble_eq_true rfl⟩ (List.range (cW ad pr N cI cR L1 L2 v).length) (rg_map _) (nd_range _) 0 rfl rfl rfl rfl hl.1 rfl (Nat.le_of_ble_eq_true rfl) dX5_parameters_4 ⟨Nat.le_of_ble_eq_true rfl, Nat.le_of_ble_eq_true rfl⟩) hP hD hS hA (fun u9 ce9 q9 H locs hx9 hP hD hS hc9 hv9 hf9 => ?_) (fun u2 H locs hw1 hP hD hS hz8 => ?_)
  · exact vx_out (fun x h9 => (hnt x h9).elim) hlocks hc9 hv9 hf9 (fun t9 ht9 hv8 => ⟨u9, ⟨FC.tr (FC.rf _) hx9.1, hx9.2⟩, ⟨rfl, by rw [ht9]; exact hP, hD⟩, hS.F ht9⟩) hS.2.2 (Nat.le_refl _) (Nat.le_refl _)
  refine W.shrink (hz8.trans hz9) ?_
  obtain ⟨fr1, i3061, pj1⟩ := hw1
  refine lv_aload_n hx hb dX5_parameters_7 rfl (lv_at hl 0 rfl) ?_
  refine va_get (D := (dC, dI)) (ci := 8) (fs := oF_X5 ad pr u2) (v := .ref (ad 900)) (C := RX5) (T := TX5) (N := 7) hx hb ht itX5 hown hK hP 3 rfl rfl 1 (by decide) (ht _ tw_571) (fun _ h9 => h9) rfl dX5_parameters_8 ?_
  have q4 : (u2.1 0 304).toInt = (v.1 0 304).toInt := congrArg Int32.toInt ((fr1.2.1 304 (by decide)).trans (show v.1 0 304 = (v.1 0 304) by rfl))
  refine cu_i (rn_Vk (n := 0) (As := []) (rest := []) hx hb hml hown ht hKK hFx hP hD hS hA (c_x_X9_kind l dC dI cI cB cZ cJ cR tb H.size ad pr N L1 L2 u2  (show 0 ≤ (u2.1 0 304).toInt ∧ (u2.1 0 304).toInt ≤ 1503 from (om_73002589c1 z304 q4))) tw_455 tw_594 (by decide +kernel) rfl rfl ⟨Nat.le_of_ble_eq_true rfl, Nat.le_of_ble_eq_true rfl⟩ (List.range (cW ad pr N cI cR L1 L2 u2).length) (rg_map _) (nd_range _) 0 rfl rfl rfl rfl hl.1 rfl (Nat.le_of_ble_eq_true rfl) dX5_parameters_11 ⟨Nat.le_of_ble_eq_true rfl, Nat.le_of_ble_eq_true rfl⟩) hP hD hS hA (fun r7 u6 H locs hw5 hP hD hS => ?_)
  obtain rfl := hw5
  refine W.widen (k := 0) (n := 0) (Nat.le_refl _) (Nat.le_refl _) ?_
  refine lv_bipush (v := 31) hx hb dX5_parameters_14 (by decide) ?_
  refine lv_icmp_eq (tgt := 61) hx hb dX5_parameters_16 (by decide) (fun h8 => ?_) (fun h8 => ?_)
  · have z9 : r7.toInt = (31 : Int) := eq_z rfl (show (31 : Int32).toInt = (31 : Int) by decide) h8
    refine lv_aload_n hx hb dX5_parameters_61 rfl (lv_at hl 0 rfl) ?_
    refine va_get (D := (dC, dI)) (ci := 8) (fs := oF_X5 ad pr u2) (v := .ref (ad 900)) (C := RX5) (T := TX5) (N := 7) hx hb ht itX5 hown hK hP 3 rfl rfl 1 (by decide) (ht _ tw_571) (fun _ h9 => h9) rfl dX5_parameters_62 ?_
    refine lv_bipush (v := 31) hx hb dX5_parameters_65 (by decide) ?_
    have q10 : (u2.1 0 373).toInt = (v.1 0 373).toInt := congrArg Int32.toInt ((fr1.2.1 373 (by decide)).trans (show v.1 0 373 = (v.1 0 373) by rfl))
    refine W.sz (fun hz9 => ?_)
    refine czx_v (rx_Vk (n := 1) (As := [.int 31]) (rest := []) hx hb hml hown ht hKK hFx hP hD hS hA (c_x_X9_expect l dC dI cI cB cZ cJ cR tb H.size ad pr N L1 L2 u2 (31 : Int32) ps (show 0 ≤ (u2.1 0 304).toInt ∧ (u2.1 0 304).toInt ≤ 1503 from (om_73002589c1 z304 q4)) (show 0 ≤ (u2.1 0 373).toInt ∧ (u2.1 0 373).toInt ≤ 4000 from (om_9084c127ed z373 q10)) (show pr ps = ad 908 from hps) (show (u2.1 0 300) = ps from (Eq.trans (fr1.2.1 300 (by decide)) es300)) (show l.stackTraces = false from hst)) tw_526 tw_580 (by decide +kernel) rfl rfl ⟨Nat.le_of_ble_eq_true rfl, Nat.le_of_ble_eq_true rfl⟩ (List.range (cW ad pr N cI cR L1 L2 u2).length) (rg_map _) (nd_range _) 0 rfl rfl rfl rfl hl.1 rfl (Nat.le_of_ble_eq_true rfl) dX5_parameters_67 ⟨Nat.le_of_ble_eq_true rfl, Nat.le_of_ble_eq_true rfl⟩) hP hD hS hA (fun u9 ce9 q9 H locs hx9 hP hD hS hc9 hv9 hf9 => ?_) (fun u12 H locs hw11 hP hD hS hz8 => ?_)
    · exact vx_out (fun x h9 => (hnt x h9).elim) hlocks hc9 hv9 hf9 (fun t9 ht9 hv8 => ⟨u9, ⟨FC.tr (FC.tr (FC.rf _) (FC.up fr1 (by decide) (by decide))) hx9.1, hx9.2⟩, ⟨rfl, by rw [ht9]; exact hP, hD⟩, hS.F ht9⟩) hS.2.2 (Nat.le_refl _) (Nat.le_refl _)
    refine W.shrink (hz8.trans hz9) ?_
    have fr11 := hw11
    refine lv_aload_n hx hb dX5_parameters_70 rfl (lv_at hl 0 rfl) ?_
    refine va_get (D := (dC, dI)) (ci := 8) (fs := oF_X5 ad pr u12) (v := .ref (ad 900)) (C := RX5) (T := TX5) (N := 7) hx hb ht itX5 hown hK hP 3 rfl rfl 1 (by decide) (ht _ tw_571) (fun _ h9 => h9) rfl dX5_parameters_71 ?_
    have q14 : (u12.1 0 306).toInt = (u2.1 0 306).toInt := congrArg Int32.toInt ((fr11.2.1 306 (by decide)).trans (show u2.1 0 306 = (u2.1 0 306) by rfl))
    refine cu_v (rn_Vk (n := 0) (As := []) (rest := []) hx hb hml hown ht hKK hFx hP hD hS hA (c_x_X9_close l dC dI cI cB cZ cJ cR tb H.size ad pr N L1 L2 u12  (show 0 ≤ (u12.1 0 306).toInt ∧ (u12.1 0 306).toInt ≤ 40 from (om_209fa13ef3 z306 i3061 pj1 q14)) (show 1 ≤ (u12.1 0 306).toInt from (om_bfd497b3b5 z306 pj1 q14))) tw_528 tw_595 (by decide +kernel) rfl rfl ⟨Nat.le_of_ble_eq_true rfl, Nat.le_of_ble_eq_true rfl⟩ (List.range (cW ad pr N cI cR L1 L2 u12).length) (rg_map _) (nd_range _) 0 rfl rfl rfl rfl hl.1 rfl (Nat.le_of_ble_eq_true rfl) dX5_parameters_74 ⟨Nat.le_of_ble_eq_true rfl, Nat.le_of_ble_eq_true rfl⟩) hP hD hS hA (fun u16 H locs hw15 hP hD hS => ?_)
    obtain ⟨fr15, i30615, pj15⟩ := hw15
    have i30615 : 0 ≤ (u16.1 0 306).toInt ∧ (u16.1 0 306).toInt ≤ 40 := i30615
    have pj15 : (u16.1 0 306).toInt = (u12.1 0 306).toInt - 1 := pj15
    refine W.widen (k := 0) (n := 0) (Nat.le_refl _) (Nat.le_refl _) ?_
    have q18 : (u2.1 0 312).toInt = (v.1 0 312).toInt := congrArg Int32.toInt ((fr1.2.1 312 (by decide)).trans (show v.1 0 312 = (v.1 0 312) by rfl))
    have q19 : (u12.1 0 312).toInt = (u2.1 0 312).toInt := congrArg Int32.toInt ((fr11.2.1 312 (by decide)).trans (show u2.1 0 312 = (u2.1 0 312) by rfl))
    have q20 : (u16.1 0 312).toInt = (u12.1 0 312).toInt := congrArg Int32.toInt ((fr15.2.1 312 (by decide)).trans (show u12.1 0 312 = (u12.1 0 312) by rfl))
    refine W.sz (fun hz => ?_)
    refine vx_ret ?_
    refine W.widen (k := 1) (n := 6) (Nat.le_of_ble_eq_true rfl) (Nat.le_of_ble_eq_true rfl) ?_
    exact W.vret hx hb hr (fun t ht9 hW => ⟨⟨u16, rfl, ⟨(FC.tr (FC.tr (FC.tr (FC.rf _) (FC.up fr1 (by decide) (by decide))) (FC.up fr11 (by decide) (by decide))) (FC.up fr15 (by decide) (by decide))), (show 0 ≤ (u16.1 0 306).toInt ∧ (u16.1 0 306).toInt ≤ 40 from (om_7eaf33e007 i30615)), (show 0 ≤ (u16.1 0 312).toInt ∧ (u16.1 0 312).toInt ≤ 500 from (om_a369f3fea6 z312 q18 q19 q20)), (show (u16.1 0 306).toInt = (v.1 0 306).toInt from (om_d6bb448ea1 pj1 q14 pj15))⟩, ⟨by rw [ht9]; exact hP, hD⟩, by rw [ht9]; exact hz⟩, hS.F ht9⟩) hS.2.2 dX5_parameters_77
  · have z21 : r7.toInt ≠ (31 : Int) := ne_z rfl (show (31 : Int32).toInt = (31 : Int) by decide) h8
    refine lv_aload_n hx hb dX5_parameters_19 rfl (lv_at hl 0 rfl) ?_
    have q22 : (u2.1 0 312).toInt = (v.1 0 312).toInt := congrArg Int32.toInt ((fr1.2.1 312 (by decide)).trans (show v.1 0 312 = (v.1 0 312) by rfl))
    have q23 : (u2.1 0 373).toInt = (v.1 0 373).toInt := congrArg Int32.toInt ((fr1.2.1 373 (by decide)).trans (show v.1 0 373 = (v.1 0 373) by rfl))
    refine W.sz (fun hz9 => ?_)
    refine czx_v (rx_Vk (n := 0) (As := []) (rest := []) hx hb hml hown ht hKK hFx hP hD hS hA (c_x_X5_parameter l dC dI cI cB cZ cJ cR tb H.size ad pr N L1 L2 u2 ps (show 0 ≤ (u2.1 0 304).toInt ∧ (u2.1 0 304).toInt ≤ 1503 from (om_73002589c1 z304 q4)) (show 0 ≤ (u2.1 0 312).toInt ∧ (u2.1 0 312).toInt ≤ 500 from (om_f8376ff89c z312 q22)) (show 0 ≤ (u2.1 0 373).toInt ∧ (u2.1 0 373).toInt ≤ 4000 from (om_9084c127ed z373 q23)) (show pr ps = ad 908 from hps) (show (u2.1 0 300) = ps from (Eq.trans (fr1.2.1 300 (by decide)) es300)) (show l.stackTraces = false from hst)) tw_596 tw_597 (by decide +kernel) rfl rfl ⟨Nat.le_of_ble_eq_true rfl, Nat.le_of_ble_eq_true rfl⟩ (List.range (cW ad pr N cI cR L1 L2 u2).length) (rg_map _) (nd_range _) 3 rfl rfl rfl rfl hl.1 rfl (Nat.le_of_ble_eq_true rfl) dX5_parameters_20 ⟨Nat.le_of_ble_eq_true rfl, Nat.le_of_ble_eq_true rfl⟩) hP hD hS hA (fun u9 ce9 q9 H locs hx9 hP hD hS hc9 hv9 hf9 => ?_) (fun u25 H locs hw24 hP hD hS hz8 => ?_)
    · exact vx_out (fun x h9 => (hnt x h9).elim) hlocks hc9 hv9 hf9 (fun t9 ht9 hv8 => ⟨u9, ⟨FC.tr (FC.tr (FC.rf _) (FC.up fr1 (by decide) (by decide))) hx9.1, hx9.2⟩, ⟨rfl, by rw [ht9]; exact hP, hD⟩, hS.F ht9⟩) hS.2.2 (Nat.le_refl _) (Nat.le_refl _)
    refine W.shrink (hz8.trans hz9) ?_
    obtain ⟨fr24, i31224⟩ := hw24
    have i31224 : 0 ≤ (u25.1 0 312).toInt ∧ (u25.1 0 312).toInt ≤ 500 := i31224
    refine lv_iconst (v := 0) hx hb dX5_parameters_23 (by decide) ?_
    refine lv_istore_n (lv' := [(1, .int 0), (0, .ref (ad 903))]) hx hb dX5_parameters_24 rfl hl (by decide) rfl (fun ls hl => ?_)
    have q27 : (u25.1 0 306).toInt = (u2.1 0 306).toInt := congrArg Int32.toInt ((fr24.2.1 306 (by decide)).trans (show u2.1 0 306 = (u2.1 0 306) by rfl))
    refine lpm_ (X := Int32 × MS) (P := (fun (x9 : Int32 × MS) (H : Heap) (locs : List Loc) (ls : Array Slot) => (FC [305, 306, 312, 315] [0, 311] v x9.2) ∧ (0 ≤ (x9.2.1 0 306).toInt ∧ (x9.2.1 0 306).toInt ≤ 40) ∧ (0 ≤ (x9.2.1 0 312).toInt ∧ (x9.2.1 0 312).toInt ≤ 500) ∧ (0 ≤ x9.1.toInt ∧ x9.1.toInt ≤ 1500) ∧ ((x9.2.1 0 306).toInt = (v.1 0 306).toInt + 1) ∧ va_P (dC, dI) vwCl (cW ad pr N cI cR L1 L2 x9.2) H ∧ va_D A (cW ad pr N cI cR L1 L2 x9.2) ∧ va_S A s.heap H locs ∧ lv_has ls 2 [(1, .int x9.1), (0, .ref (ad 903))])) (fun x9 => (1500 - x9.1.toInt).toNat) 25 (fun x9 H locs ls hh ih25 => ?_) (0, u25) _ _ _ ⟨(show FC [305, 306, 312, 315] [0, 311] v u25 from (FC.tr (FC.tr (FC.rf _) (FC.up fr1 (by decide) (by decide))) (FC.up fr24 (by decide) (by decide)))), (show 0 ≤ (u25.1 0 306).toInt ∧ (u25.1 0 306).toInt ≤ 40 from (om_209fa13ef3 z306 i3061 pj1 q27)), (show 0 ≤ (u25.1 0 312).toInt ∧ (u25.1 0 312).toInt ≤ 500 from (om_9861e69da5 i31224)), (show 0 ≤ (0 : Int) ∧ (0 : Int) ≤ 1500 from om_b1c23a1f42), (show (u25.1 0 306).toInt = (v.1 0 306).toInt + 1 from (om_300badd5bd pj1 q27)), hP, hD, hS, lv_sub hl [0, 1] rfl⟩
    obtain ⟨ka, w25⟩ := x9
    obtain ⟨fwL25, i306L25, i312L25, f1L25, poL25, hP, hD, hS, hl⟩ := hh
    have fwL25 : FC [305, 306, 312, 315] [0, 311] v w25 := fwL25
    have i306L25 : 0 ≤ (w25.1 0 306).toInt ∧ (w25.1 0 306).toInt ≤ 40 := i306L25
    have i312L25 : 0 ≤ (w25.1 0 312).toInt ∧ (w25.1 0 312).toInt ≤ 500 := i312L25
    have f1L25 : 0 ≤ ka.toInt ∧ ka.toInt ≤ 1500 := f1L25
    have poL25 : (w25.1 0 306).toInt = (v.1 0 306).toInt + 1 := poL25
    have hP : va_P (dC, dI) vwCl (cW ad pr N cI cR L1 L2 w25) H := hP
    have hD : va_D A (cW ad pr N cI cR L1 L2 w25) := hD
    have hl : lv_has ls 2 [(1, .int ka), (0, .ref (ad 903))] := hl
    refine lv_iload_n hx hb dX5_parameters_25 rfl (lv_at hl 0 rfl) ?_
    refine lv_sipush (v := 1500) hx hb dX5_parameters_26 (by decide) ?_
    refine lv_icmp_ge (tgt := 61) hx hb dX5_parameters_29 (by decide) (fun h28 => ?_) (fun h28 => ?_)
    · have z29 : (1500 : Int) ≤ ka.toInt := le_z (show (1500 : Int32).toInt = (1500 : Int) by decide) rfl h28
      refine lv_aload_n hx hb dX5_parameters_61 rfl (lv_at hl 1 rfl) ?_
      refine va_get (D := (dC, dI)) (ci := 8) (fs := oF_X5 ad pr w25) (v := .ref (ad 900)) (C := RX5) (T := TX5) (N := 7) hx hb ht itX5 hown hK hP 3 rfl rfl 1 (by decide) (ht _ tw_571) (fun _ h9 => h9) rfl dX5_parameters_62 ?_
      refine lv_bipush (v := 31) hx hb dX5_parameters_65 (by decide) ?_
      have q30 : (w25.1 0 304).toInt = (v.1 0 304).toInt := congrArg Int32.toInt ((fwL25.2.1 304 (by decide)).trans (show v.1 0 304 = (v.1 0 304) by rfl))
      have q31 : (w25.1 0 373).toInt = (v.1 0 373).toInt := congrArg Int32.toInt ((fwL25.2.1 373 (by decide)).trans (show v.1 0 373 = (v.1 0 373) by rfl))
      refine W.sz (fun hz9 => ?_)
      refine czx_v (rx_Vk (n := 1) (As := [.int 31]) (rest := []) hx hb hml hown ht hKK hFx hP hD hS hA (c_x_X9_expect l dC dI cI cB cZ cJ cR tb H.size ad pr N L1 L2 w25 (31 : Int32) ps (show 0 ≤ (w25.1 0 304).toInt ∧ (w25.1 0 304).toInt ≤ 1503 from (om_73002589c1 z304 q30)) (show 0 ≤ (w25.1 0 373).toInt ∧ (w25.1 0 373).toInt ≤ 4000 from (om_9084c127ed z373 q31)) (show pr ps = ad 908 from hps) (show (w25.1 0 300) = ps from (Eq.trans (fwL25.2.1 300 (by decide)) es300)) (show l.stackTraces = false from hst)) tw_526 tw_580 (by decide +kernel) rfl rfl ⟨Nat.le_of_ble_eq_true rfl, Nat.le_of_ble_eq_true rfl⟩ (List.range (cW ad pr N cI cR L1 L2 w25).length) (rg_map _) (nd_range _) 0 rfl rfl rfl rfl hl.1 rfl (Nat.le_of_ble_eq_true rfl) dX5_parameters_67 ⟨Nat.le_of_ble_eq_true rfl, Nat.le_of_ble_eq_true rfl⟩) hP hD hS hA (fun u9 ce9 q9 H locs hx9 hP hD hS hc9 hv9 hf9 => ?_) (fun u33 H locs hw32 hP hD hS hz8 => ?_)
      · exact vx_out (fun x h9 => (hnt x h9).elim) hlocks hc9 hv9 hf9 (fun t9 ht9 hv8 => ⟨u9, ⟨FC.tr (FC.tr (FC.rf _) (FC.up fwL25 (by decide) (by decide))) hx9.1, hx9.2⟩, ⟨rfl, by rw [ht9]; exact hP, hD⟩, hS.F ht9⟩) hS.2.2 (Nat.le_refl _) (Nat.le_refl _)
      refine W.shrink (hz8.trans hz9) ?_
      have fr32 := hw32
      refine lv_aload_n hx hb dX5_parameters_70 rfl (lv_at hl 1 rfl) ?_
      refine va_get (D := (dC, dI)) (ci := 8) (fs := oF_X5 ad pr u33) (v := .ref (ad 900)) (C := RX5) (T := TX5) (N := 7) hx hb ht itX5 hown hK hP 3 rfl rfl 1 (by decide) (ht _ tw_571) (fun _ h9 => h9) rfl dX5_parameters_71 ?_
      have q35 : (u33.1 0 306).toInt = (w25.1 0 306).toInt := congrArg Int32.toInt ((fr32.2.1 306 (by decide)).trans (show w25.1 0 306 = (w25.1 0 306) by rfl))
      refine cu_v (rn_Vk (n := 0) (As := []) (rest := []) hx hb hml hown ht hKK hFx hP hD hS hA (c_x_X9_close l dC dI cI cB cZ cJ cR tb H.size ad pr N L1 L2 u33  (show 0 ≤ (u33.1 0 306).toInt ∧ (u33.1 0 306).toInt ≤ 40 from (om_209fa13ef3 z306 i306L25 poL25 q35)) (show 1 ≤ (u33.1 0 306).toInt from (om_bfd497b3b5 z306 poL25 q35))) tw_528 tw_595 (by decide +kernel) rfl rfl ⟨Nat.le_of_ble_eq_true rfl, Nat.le_of_ble_eq_true rfl⟩ (List.range (cW ad pr N cI cR L1 L2 u33).length) (rg_map _) (nd_range _) 0 rfl rfl rfl rfl hl.1 rfl (Nat.le_of_ble_eq_true rfl) dX5_parameters_74 ⟨Nat.le_of_ble_eq_true rfl, Nat.le_of_ble_eq_true rfl⟩) hP hD hS hA (fun u37 H locs hw36 hP hD hS => ?_)
      obtain ⟨fr36, i30636, pj36⟩ := hw36
      have i30636 : 0 ≤ (u37.1 0 306).toInt ∧ (u37.1 0 306).toInt ≤ 40 := i30636
      have pj36 : (u37.1 0 306).toInt = (u33.1 0 306).toInt - 1 := pj36
      refine W.widen (k := 0) (n := 0) (Nat.le_refl _) (Nat.le_refl _) ?_
      have q39 : (u33.1 0 312).toInt = (w25.1 0 312).toInt := congrArg Int32.toInt ((fr32.2.1 312 (by decide)).trans (show w25.1 0 312 = (w25.1 0 312) by rfl))
      have q40 : (u37.1 0 312).toInt = (u33.1 0 312).toInt := congrArg Int32.toInt ((fr36.2.1 312 (by decide)).trans (show u33.1 0 312 = (u33.1 0 312) by rfl))
      refine W.sz (fun hz => ?_)
      refine vx_ret ?_
      refine W.widen (k := 1) (n := 6) (Nat.le_of_ble_eq_true rfl) (Nat.le_of_ble_eq_true rfl) ?_
      exact W.vret hx hb hr (fun t ht9 hW => ⟨⟨u37, rfl, ⟨(FC.tr (FC.tr (FC.tr (FC.rf _) (FC.up fwL25 (by decide) (by decide))) (FC.up fr32 (by decide) (by decide))) (FC.up fr36 (by decide) (by decide))), (show 0 ≤ (u37.1 0 306).toInt ∧ (u37.1 0 306).toInt ≤ 40 from (om_7eaf33e007 i30636)), (show 0 ≤ (u37.1 0 312).toInt ∧ (u37.1 0 312).toInt ≤ 500 from (om_8a5975ec21 i312L25 q39 q40)), (show (u37.1 0 306).toInt = (v.1 0 306).toInt from (om_d6bb448ea1 poL25 q35 pj36))⟩, ⟨by rw [ht9]; exact hP, hD⟩, by rw [ht9]; exact hz⟩, hS.F ht9⟩) hS.2.2 dX5_parameters_77
    · have z41 : ka.toInt < (1500 : Int) := nle_z (show (1500 : Int32).toInt = (1500 : Int) by decide) rfl h28
      refine lv_aload_n hx hb dX5_parameters_32 rfl (lv_at hl 1 rfl) ?_
      refine va_get (D := (dC, dI)) (ci := 8) (fs := oF_X5 ad pr w25) (v := .ref (ad 900)) (C := RX5) (T := TX5) (N := 7) hx hb ht itX5 hown hK hP 3 rfl rfl 1 (by decide) (ht _ tw_571) (fun _ h9 => h9) rfl dX5_parameters_33 ?_
      have q42 : (w25.1 0 304).toInt = (v.1 0 304).toInt := congrArg Int32.toInt ((fwL25.2.1 304 (by decide)).trans (show v.1 0 304 = (v.1 0 304) by rfl))
      refine cu_i (rn_Vk (n := 0) (As := []) (rest := []) hx hb hml hown ht hKK hFx hP hD hS hA (c_x_X9_kind l dC dI cI cB cZ cJ cR tb H.size ad pr N L1 L2 w25  (show 0 ≤ (w25.1 0 304).toInt ∧ (w25.1 0 304).toInt ≤ 1503 from (om_73002589c1 z304 q42))) tw_455 tw_594 (by decide +kernel) rfl rfl ⟨Nat.le_of_ble_eq_true rfl, Nat.le_of_ble_eq_true rfl⟩ (List.range (cW ad pr N cI cR L1 L2 w25).length) (rg_map _) (nd_range _) 0 rfl rfl rfl rfl hl.1 rfl (Nat.le_of_ble_eq_true rfl) dX5_parameters_36 ⟨Nat.le_of_ble_eq_true rfl, Nat.le_of_ble_eq_true rfl⟩) hP hD hS hA (fun r45 u44 H locs hw43 hP hD hS => ?_)
      obtain rfl := hw43
      refine W.widen (k := 0) (n := 0) (Nat.le_refl _) (Nat.le_refl _) ?_
      refine lv_bipush (v := 37) hx hb dX5_parameters_39 (by decide) ?_
      refine lv_icmp_ne (tgt := 61) hx hb dX5_parameters_41 (by decide) (fun h46 => ?_) (fun h46 => ?_)
      · have z47 : r45.toInt ≠ (37 : Int) := ne_z rfl (show (37 : Int32).toInt = (37 : Int) by decide) h46
        refine lv_aload_n hx hb dX5_parameters_61 rfl (lv_at hl 1 rfl) ?_
        refine va_get (D := (dC, dI)) (ci := 8) (fs := oF_X5 ad pr w25) (v := .ref (ad 900)) (C := RX5) (T := TX5) (N := 7) hx hb ht itX5 hown hK hP 3 rfl rfl 1 (by decide) (ht _ tw_571) (fun _ h9 => h9) rfl dX5_parameters_62 ?_
        refine lv_bipush (v := 31) hx hb dX5_parameters_65 (by decide) ?_
        have q48 : (w25.1 0 373).toInt = (v.1 0 373).toInt := congrArg Int32.toInt ((fwL25.2.1 373 (by decide)).trans (show v.1 0 373 = (v.1 0 373) by rfl))
        refine W.sz (fun hz9 => ?_)
        refine czx_v (rx_Vk (n := 1) (As := [.int 31]) (rest := []) hx hb hml hown ht hKK hFx hP hD hS hA (c_x_X9_expect l dC dI cI cB cZ cJ cR tb H.size ad pr N L1 L2 w25 (31 : Int32) ps (show 0 ≤ (w25.1 0 304).toInt ∧ (w25.1 0 304).toInt ≤ 1503 from (om_73002589c1 z304 q42)) (show 0 ≤ (w25.1 0 373).toInt ∧ (w25.1 0 373).toInt ≤ 4000 from (om_9084c127ed z373 q48)) (show pr ps = ad 908 from hps) (show (w25.1 0 300) = ps from (Eq.trans (fwL25.2.1 300 (by decide)) es300)) (show l.stackTraces = false from hst)) tw_526 tw_580 (by decide +kernel) rfl rfl ⟨Nat.le_of_ble_eq_true rfl, Nat.le_of_ble_eq_true rfl⟩ (List.range (cW ad pr N cI cR L1 L2 w25).length) (rg_map _) (nd_range _) 0 rfl rfl rfl rfl hl.1 rfl (Nat.le_of_ble_eq_true rfl) dX5_parameters_67 ⟨Nat.le_of_ble_eq_true rfl, Nat.le_of_ble_eq_true rfl⟩) hP hD hS hA (fun u9 ce9 q9 H locs hx9 hP hD hS hc9 hv9 hf9 => ?_) (fun u50 H locs hw49 hP hD hS hz8 => ?_)
        · exact vx_out (fun x h9 => (hnt x h9).elim) hlocks hc9 hv9 hf9 (fun t9 ht9 hv8 => ⟨u9, ⟨FC.tr (FC.tr (FC.rf _) (FC.up fwL25 (by decide) (by decide))) hx9.1, hx9.2⟩, ⟨rfl, by rw [ht9]; exact hP, hD⟩, hS.F ht9⟩) hS.2.2 (Nat.le_refl _) (Nat.le_refl _)
        refine W.shrink (hz8.trans hz9) ?_
        have fr49 := hw49
        refine lv_aload_n hx hb dX5_parameters_70 rfl (lv_at hl 1 rfl) ?_
        refine va_get (D := (dC, dI)) (ci := 8) (fs := oF_X5 ad pr u50) (v := .ref (ad 900)) (C := RX5) (T := TX5) (N := 7) hx hb ht itX5 hown hK hP 3 rfl rfl 1 (by decide) (ht _ tw_571) (fun _ h9 => h9) rfl dX5_parameters_71 ?_
        have q52 : (u50.1 0 306).toInt = (w25.1 0 306).toInt := congrArg Int32.toInt ((fr49.2.1 306 (by decide)).trans (show w25.1 0 306 = (w25.1 0 306) by rfl))
        refine cu_v (rn_Vk (n := 0) (As := []) (rest := []) hx hb hml hown ht hKK hFx hP hD hS hA (c_x_X9_close l dC dI cI cB cZ cJ cR tb H.size ad pr N L1 L2 u50  (show 0 ≤ (u50.1 0 306).toInt ∧ (u50.1 0 306).toInt ≤ 40 from (om_209fa13ef3 z306 i306L25 poL25 q52)) (show 1 ≤ (u50.1 0 306).toInt from (om_bfd497b3b5 z306 poL25 q52))) tw_528 tw_595 (by decide +kernel) rfl rfl ⟨Nat.le_of_ble_eq_true rfl, Nat.le_of_ble_eq_true rfl⟩ (List.range (cW ad pr N cI cR L1 L2 u50).length) (rg_map _) (nd_range _) 0 rfl rfl rfl rfl hl.1 rfl (Nat.le_of_ble_eq_true rfl) dX5_parameters_74 ⟨Nat.le_of_ble_eq_true rfl, Nat.le_of_ble_eq_true rfl⟩) hP hD hS hA (fun u54 H locs hw53 hP hD hS => ?_)
        obtain ⟨fr53, i30653, pj53⟩ := hw53
        have i30653 : 0 ≤ (u54.1 0 306).toInt ∧ (u54.1 0 306).toInt ≤ 40 := i30653
        have pj53 : (u54.1 0 306).toInt = (u50.1 0 306).toInt - 1 := pj53
        refine W.widen (k := 0) (n := 0) (Nat.le_refl _) (Nat.le_refl _) ?_
        have q56 : (u50.1 0 312).toInt = (w25.1 0 312).toInt := congrArg Int32.toInt ((fr49.2.1 312 (by decide)).trans (show w25.1 0 312 = (w25.1 0 312) by rfl))
        have q57 : (u54.1 0 312).toInt = (u50.1 0 312).toInt := congrArg Int32.toInt ((fr53.2.1 312 (by decide)).trans (show u50.1 0 312 = (u50.1 0 312) by rfl))
        refine W.sz (fun hz => ?_)
        refine vx_ret ?_
        refine W.widen (k := 1) (n := 6) (Nat.le_of_ble_eq_true rfl) (Nat.le_of_ble_eq_true rfl) ?_
        exact W.vret hx hb hr (fun t ht9 hW => ⟨⟨u54, rfl, ⟨(FC.tr (FC.tr (FC.tr (FC.rf _) (FC.up fwL25 (by decide) (by decide))) (FC.up fr49 (by decide) (by decide))) (FC.up fr53 (by decide) (by decide))), (show 0 ≤ (u54.1 0 306).toInt ∧ (u54.1 0 306).toInt ≤ 40 from (om_7eaf33e007 i30653)), (show 0 ≤ (u54.1 0 312).toInt ∧ (u54.1 0 312).toInt ≤ 500 from (om_8a5975ec21 i312L25 q56 q57)), (show (u54.1 0 306).toInt = (v.1 0 306).toInt from (om_d6bb448ea1 poL25 q52 pj53))⟩, ⟨by rw [ht9]; exact hP, hD⟩, by rw [ht9]; exact hz⟩, hS.F ht9⟩) hS.2.2 dX5_parameters_77
      · have z58 : r45.toInt = (37 : Int) := eq_z rfl (show (37 : Int32).toInt = (37 : Int) by decide) h46
        refine lv_aload_n hx hb dX5_parameters_44 rfl (lv_at hl 1 rfl) ?_
        refine va_get (D := (dC, dI)) (ci := 8) (fs := oF_X5 ad pr w25) (v := .ref (ad 900)) (C := RX5) (T := TX5) (N := 7) hx hb ht itX5 hown hK hP 3 rfl rfl 1 (by decide) (ht _ tw_571) (fun _ h9 => h9) rfl dX5_parameters_45 ?_
        have q59 : (w25.1 0 373).toInt = (v.1 0 373).toInt := congrArg Int32.toInt ((fwL25.2.1 373 (by decide)).trans (show v.1 0 373 = (v.1 0 373) by rfl))
        refine W.sz (fun hz9 => ?_)
        refine czx_v (rx_Vk (n := 0) (As := []) (rest := []) hx hb hml hown ht hKK hFx hP hD hS hA (c_x_X9_take l dC dI cI cB cZ cJ cR tb H.size ad pr N L1 L2 w25 ps (show 0 ≤ (w25.1 0 304).toInt ∧ (w25.1 0 304).toInt ≤ 1503 from (om_73002589c1 z304 q42)) (show 0 ≤ (w25.1 0 373).toInt ∧ (w25.1 0 373).toInt ≤ 4000 from (om_9084c127ed z373 q59)) (show pr ps = ad 908 from hps) (show (w25.1 0 300) = ps from (Eq.trans (fwL25.2.1 300 (by decide)) es300)) (show l.stackTraces = false from hst)) tw_539 tw_585 (by decide +kernel) rfl rfl ⟨Nat.le_of_ble_eq_true rfl, Nat.le_of_ble_eq_true rfl⟩ (List.range (cW ad pr N cI cR L1 L2 w25).length) (rg_map _) (nd_range _) 0 rfl rfl rfl rfl hl.1 rfl (Nat.le_of_ble_eq_true rfl) dX5_parameters_48 ⟨Nat.le_of_ble_eq_true rfl, Nat.le_of_ble_eq_true rfl⟩) hP hD hS hA (fun u9 ce9 q9 H locs hx9 hP hD hS hc9 hv9 hf9 => ?_) (fun u61 H locs hw60 hP hD hS hz8 => ?_)
        · exact vx_out (fun x h9 => (hnt x h9).elim) hlocks hc9 hv9 hf9 (fun t9 ht9 hv8 => ⟨u9, ⟨FC.tr (FC.tr (FC.rf _) (FC.up fwL25 (by decide) (by decide))) hx9.1, hx9.2⟩, ⟨rfl, by rw [ht9]; exact hP, hD⟩, hS.F ht9⟩) hS.2.2 (Nat.le_refl _) (Nat.le_refl _)
        refine W.shrink (hz8.trans hz9) ?_
        have fr60 := hw60
        refine lv_aload_n hx hb dX5_parameters_51 rfl (lv_at hl 1 rfl) ?_
        have q63 : (u61.1 0 304).toInt = (w25.1 0 304).toInt := congrArg Int32.toInt ((fr60.2.1 304 (by decide)).trans (show w25.1 0 304 = (w25.1 0 304) by rfl))
        have q64 : (u61.1 0 312).toInt = (w25.1 0 312).toInt := congrArg Int32.toInt ((fr60.2.1 312 (by decide)).trans (show w25.1 0 312 = (w25.1 0 312) by rfl))
        have q65 : (u61.1 0 373).toInt = (w25.1 0 373).toInt := congrArg Int32.toInt ((fr60.2.1 373 (by decide)).trans (show w25.1 0 373 = (w25.1 0 373) by rfl))
        refine W.sz (fun hz9 => ?_)
        refine czx_v (rx_Vk (n := 0) (As := []) (rest := []) hx hb hml hown ht hKK hFx hP hD hS hA (c_x_X5_parameter l dC dI cI cB cZ cJ cR tb H.size ad pr N L1 L2 u61 ps (show 0 ≤ (u61.1 0 304).toInt ∧ (u61.1 0 304).toInt ≤ 1503 from (om_dd87ee851a z304 q42 q63)) (show 0 ≤ (u61.1 0 312).toInt ∧ (u61.1 0 312).toInt ≤ 500 from (om_f8376ff89c i312L25 q64)) (show 0 ≤ (u61.1 0 373).toInt ∧ (u61.1 0 373).toInt ≤ 4000 from (om_03cd8767ac z373 q59 q65)) (show pr ps = ad 908 from hps) (show (u61.1 0 300) = ps from (Eq.trans (fr60.2.1 300 (by decide)) (Eq.trans (fwL25.2.1 300 (by decide)) es300))) (show l.stackTraces = false from hst)) tw_596 tw_597 (by decide +kernel) rfl rfl ⟨Nat.le_of_ble_eq_true rfl, Nat.le_of_ble_eq_true rfl⟩ (List.range (cW ad pr N cI cR L1 L2 u61).length) (rg_map _) (nd_range _) 3 rfl rfl rfl rfl hl.1 rfl (Nat.le_of_ble_eq_true rfl) dX5_parameters_52 ⟨Nat.le_of_ble_eq_true rfl, Nat.le_of_ble_eq_true rfl⟩) hP hD hS hA (fun u9 ce9 q9 H locs hx9 hP hD hS hc9 hv9 hf9 => ?_) (fun u67 H locs hw66 hP hD hS hz8 => ?_)
        · exact vx_out (fun x h9 => (hnt x h9).elim) hlocks hc9 hv9 hf9 (fun t9 ht9 hv8 => ⟨u9, ⟨FC.tr (FC.tr (FC.tr (FC.rf _) (FC.up fwL25 (by decide) (by decide))) (FC.up fr60 (by decide) (by decide))) hx9.1, hx9.2⟩, ⟨rfl, by rw [ht9]; exact hP, hD⟩, hS.F ht9⟩) hS.2.2 (Nat.le_refl _) (Nat.le_refl _)
        refine W.shrink (hz8.trans hz9) ?_
        obtain ⟨fr66, i31266⟩ := hw66
        have i31266 : 0 ≤ (u67.1 0 312).toInt ∧ (u67.1 0 312).toInt ≤ 500 := i31266
        refine lv_iinc (v := (ka + (1 : Int32))) (lv' := [(1, .int (ka + (1 : Int32))), (0, .ref (ad 903))]) hx hb dX5_parameters_55 hl (k := 0) rfl (rfl) (by decide) rfl (fun ls hl => ?_)
        have z69 : (ka + (1 : Int32)).toInt = ka.toInt + (1 : Int) := add_z rfl (show (1 : Int32).toInt = (1 : Int) by decide) (om_8a2b73c54c f1L25) (om_3176a8b66b f1L25)
        refine lv_goto (tgt := 25) hx hb dX5_parameters_58 (by decide) ?_
        have q70 : (u61.1 0 306).toInt = (w25.1 0 306).toInt := congrArg Int32.toInt ((fr60.2.1 306 (by decide)).trans (show w25.1 0 306 = (w25.1 0 306) by rfl))
        have q71 : (u67.1 0 306).toInt = (u61.1 0 306).toInt := congrArg Int32.toInt ((fr66.2.1 306 (by decide)).trans (show u61.1 0 306 = (u61.1 0 306) by rfl))
        exact ih25 ((ka + (1 : Int32)), u67) _ _ _ (show (1500 - (ka + (1 : Int32)).toInt).toNat < (1500 - ka.toInt).toNat from tn_z (om_f107c3c51d z69) (om_1cb5cb4f43 z41)) ⟨(show FC [305, 306, 312, 315] [0, 311] v u67 from (FC.tr (FC.tr (FC.tr (FC.rf _) (FC.up fwL25 (by decide) (by decide))) (FC.up fr60 (by decide) (by decide))) (FC.up fr66 (by decide) (by decide)))), (show 0 ≤ (u67.1 0 306).toInt ∧ (u67.1 0 306).toInt ≤ 40 from (om_8d8f12efc9 z306 i306L25 poL25 q70 q71)), (show 0 ≤ (u67.1 0 312).toInt ∧ (u67.1 0 312).toInt ≤ 500 from (om_9861e69da5 i31266)), (show 0 ≤ (ka + (1 : Int32)).toInt ∧ (ka + (1 : Int32)).toInt ≤ 1500 from (om_46db715386 f1L25 z41 z69)), (show (u67.1 0 306).toInt = (v.1 0 306).toInt + 1 from (om_c1f65cf568 poL25 q70 q71)), hP, hD, hS, lv_sub hl [0, 1] rfl⟩
theorem om_020c78c161 {x0 x1 x2 x3 x4 : Int} (h0 : 0 ≤ x0 ∧ x0 ≤ 40) (h1 : 0 ≤ x1 ∧ x1 ≤ 40) (h2 : x1 = x0 + 1) (h3 : x2 = x1) (h4 : x3 = x2) (h5 : x4 = x3) : 0 ≤ x4 ∧ x4 ≤ 40 := by omega
theorem om_b444a9632b {x0 x1 x2 x3 x4 : Int} (h0 : 0 ≤ x0 ∧ x0 ≤ 40) (h1 : x1 = x0 + 1) (h2 : x2 = x1) (h3 : x3 = x2) (h4 : x4 = x3) : 1 ≤ x4 := by omega
theorem om_b71634050f {x0 : Int} (h0 : (1 : Int) ≤ x0) (h1 : x0 ≤ (1000 : Int)) : 1 ≤ x0 ∧ x0 ≤ 1000 := by omega
theorem om_46a3fd6db8 {x0 x1 x2 x3 x4 x5 : Int} (h0 : x0 = x1 + 1) (h1 : x2 = x0) (h2 : x3 = x2) (h3 : x4 = x3) (h4 : x5 = x4 - 1) : x5 = x1 := by omega
set_option maxHeartbeats 4000000 in
set_option maxRecDepth 100000 in
theorem c_x_X5_rowSize (l : Launch) (dC : Nat → ClassId) (dI : Nat → Nat → Nat) (cI cB cZ cJ cR : ClassId) (tb : Nat → Nat) (sz : Nat) (ad : Nat → Nat) (pr : Int32 → Nat) (N : Nat) (L1 L2 : List Nat) (v : MS) (ps : Int32) (z304 : 0 ≤ (v.1 0 304).toInt ∧ (v.1 0 304).toInt ≤ 1503) (z306 : 0 ≤ (v.1 0 306).toInt ∧ (v.1 0 306).toInt ≤ 40) (z373 : 0 ≤ (v.1 0 373).toInt ∧ (v.1 0 373).toInt ≤ 4000) (hps : pr ps = ad 908) (es300 : (v.1 0 300) = ps) (hst : l.stackTraces = false) : vx_Met l yX5_rowSize (Cond.code yX5_rowSize cX5_rowSize 3 (some .int) :: tw_W) ({ frames := 8, cells := 1, slots := 6, locals := 125 }) (pc_ (dC, dI) (tyS cI cB cZ cJ cR) tb (cW ad pr N cI cR L1 L2 v) sz [.ref (ad 903)]) (qiz_ (dC, dI) (cW ad pr N cI cR L1 L2 v) sz (fun (r : Int32) (u : MS) => FC [305, 306] [0] v u ∧ (0 ≤ (u.1 0 306).toInt ∧ (u.1 0 306).toInt ≤ 40) ∧ (1 ≤ r.toInt ∧ r.toInt ≤ 1000) ∧ ((u.1 0 306).toInt = (v.1 0 306).toInt)) (fun (u : MS) => (cW ad pr N cI cR L1 L2 u))) (qxc (dC, dI) (cW ad pr N cI cR L1 L2 v) sz (fun (u : MS) => (cW ad pr N cI cR L1 L2 u)) (fun (u : MS) => FC xfl xal v u ∧ (u.1 0 308).toInt ≠ 0)) 1 6 (va_A (cW ad pr N cI cR L1 L2 v) sz) := by
  refine vx_ofW (cc := cX5_rowSize) (maxL := 3) (ret := (some .int)) (by decide) rfl ?_
  intro p e s m args below meth c s₁ B hml hnt hv
  obtain ⟨rfl, hsz, hP, hKK, hD0, hFx⟩ := hv
  have hK := hKK.1
  have hx := B.exec
  have hb := B.bytes
  have hr := B.returns
  have ht : ∀ w ∈ tw_W, w.before _ s = true := fun w h => atoms_spec (ws := Cond.code yX5_rowSize cX5_rowSize 3 (some .int) :: tw_W) B.pre w (List.mem_cons_of_mem _ h)
  have hown : s.vm.findClass RX5 = some m.cls := findClass_of_methodNamed B.named
  have hlocks := B.notSynchronized
  subst hsz
  unfold qiz_ qxc
  have hD := hD0.self (sz := s.heap.size)
  generalize hAe : va_A (cW ad pr N cI cR L1 L2 v) s.heap.size = A at hD hFx ⊢
  have hA : ∀ q : Nat, s.heap.size ≤ q → A q := fun q h => by rw [← hAe]; exact Or.inr h
  have hS : va_S A s.heap s.heap [] := va_S.rf
  have hl := lv_entry ([.ref (ad 903)]) (n := 3) (Nat.le_of_ble_eq_true rfl)
  rw [lg_entry_eq]
  generalize (lg_sl ([.ref (ad 903)]) ++ List.replicate (3 - (lg_sl ([.ref (ad 903)])).length) Slot.unset).toArray = ls at hl ⊢
  have hl : lv_has ls 3 [(0, .ref (ad 903))] := hl
  refine lv_aload_n hx hb dX5_rowSize_0 rfl (lv_at hl 0 rfl) ?_
  refine va_get (D := (dC, dI)) (ci := 8) (fs := oF_X5 ad pr v) (v := .ref (ad 900)) (C := RX5) (T := TX5) (N := 7) hx hb ht itX5 hown hK hP 3 rfl rfl 1 (by decide) (ht _ tw_571) (fun _ h9 => h9) rfl dX5_rowSize_1 ?_
  refine W.sz (fun hz9 => ?_)
  refine czx_v (rx_Vk (n := 0) (As := []) (rest := []) hx hb hml hown ht hKK hFx hP hD hS hA (c_x_X9_open l dC dI cI cB cZ cJ cR tb s.heap.size ad pr N L1 L2 v ps (show 0 ≤ (v.1 0 304).toInt ∧ (v.1 0 304).toInt ≤ 1503 from (om_c99648273b z304)) (show 0 ≤ (v.1 0 306).toInt ∧ (v.1 0 306).toInt ≤ 40 from (om_7eaf33e007 z306)) (show 0 ≤ (v.1 0 373).toInt ∧ (v.1 0 373).toInt ≤ 4000 from (om_c74a68af25 z373)) (show pr ps = ad 908 from hps) (show (v.1 0 300) = ps from es300) (show l.stackTraces = false from hst)) tw_524 tw_593 (by decide +kernel) rfl rfl ⟨Nat.le_of_ble_eq_true rfl, Nat.le_of_ble_eq_true rfl⟩ (List.range (cW ad pr N cI cR L1 L2 v).length) (rg_map _) (nd_range _) 0 rfl rfl rfl rfl hl.1 rfl (Nat.le_of_ble_eq_true rfl) dX5_rowSize_4 ⟨Nat.le_of_ble_eq_true rfl, Nat.le_of_ble_eq_true rfl⟩) hP hD hS hA (fun u9 ce9 q9 H locs hx9 hP hD hS hc9 hv9 hf9 => ?_) (fun u2 H locs hw1 hP hD hS hz8 => ?_)
  · exact vx_out (fun x h9 => (hnt x h9).elim) hlocks hc9 hv9 hf9 (fun t9 ht9 hv8 => ⟨u9, ⟨FC.tr (FC.rf _) hx9.1, hx9.2⟩, ⟨rfl, by rw [ht9]; exact hP, hD⟩, hS.F ht9⟩) hS.2.2 (Nat.le_refl _) (Nat.le_refl _)
  refine W.shrink (hz8.trans hz9) ?_
  obtain ⟨fr1, i3061, pj1⟩ := hw1
  refine lv_aload_n hx hb dX5_rowSize_7 rfl (lv_at hl 0 rfl) ?_
  refine va_get (D := (dC, dI)) (ci := 8) (fs := oF_X5 ad pr u2) (v := .ref (ad 900)) (C := RX5) (T := TX5) (N := 7) hx hb ht itX5 hown hK hP 3 rfl rfl 1 (by decide) (ht _ tw_571) (fun _ h9 => h9) rfl dX5_rowSize_8 ?_
  have q4 : (u2.1 0 304).toInt = (v.1 0 304).toInt := congrArg Int32.toInt ((fr1.2.1 304 (by decide)).trans (show v.1 0 304 = (v.1 0 304) by rfl))
  refine cu_i (rn_Vk (n := 0) (As := []) (rest := []) hx hb hml hown ht hKK hFx hP hD hS hA (c_x_X9_kind l dC dI cI cB cZ cJ cR tb H.size ad pr N L1 L2 u2  (show 0 ≤ (u2.1 0 304).toInt ∧ (u2.1 0 304).toInt ≤ 1503 from (om_73002589c1 z304 q4))) tw_455 tw_594 (by decide +kernel) rfl rfl ⟨Nat.le_of_ble_eq_true rfl, Nat.le_of_ble_eq_true rfl⟩ (List.range (cW ad pr N cI cR L1 L2 u2).length) (rg_map _) (nd_range _) 0 rfl rfl rfl rfl hl.1 rfl (Nat.le_of_ble_eq_true rfl) dX5_rowSize_11 ⟨Nat.le_of_ble_eq_true rfl, Nat.le_of_ble_eq_true rfl⟩) hP hD hS hA (fun r7 u6 H locs hw5 hP hD hS => ?_)
  obtain rfl := hw5
  refine W.widen (k := 0) (n := 0) (Nat.le_refl _) (Nat.le_refl _) ?_
  refine lv_iconst (v := 4) hx hb dX5_rowSize_14 (by decide) ?_
  refine lv_icmp_ne (tgt := 22) hx hb dX5_rowSize_15 (by decide) (fun h8 => ?_) (fun h8 => ?_)
  · have z9 : r7.toInt ≠ (4 : Int) := ne_z rfl (show (4 : Int32).toInt = (4 : Int) by decide) h8
    refine lv_iconst (v := 0) hx hb dX5_rowSize_22 (by decide) ?_
    refine lv_istore_n (lv' := [(1, .int 0), (0, .ref (ad 903))]) hx hb dX5_rowSize_23 rfl hl (by decide) rfl (fun ls hl => ?_)
    refine lv_iload_n hx hb dX5_rowSize_24 rfl (lv_at hl 0 rfl) ?_
    refine lv_if_ne (tgt := 36) hx hb dX5_rowSize_25 (by decide) (fun k10 => absurd k10 (by decide)) (fun _ => ?_)
    refine lv_aload_n hx hb dX5_rowSize_28 rfl (lv_at hl 1 rfl) ?_
    refine va_get (D := (dC, dI)) (ci := 8) (fs := oF_X5 ad pr u2) (v := .ref (ad 900)) (C := RX5) (T := TX5) (N := 7) hx hb ht itX5 hown hK hP 3 rfl rfl 1 (by decide) (ht _ tw_571) (fun _ h9 => h9) rfl dX5_rowSize_29 ?_
    refine lv_iconst (v := 3) hx hb dX5_rowSize_32 (by decide) ?_
    have q11 : (u2.1 0 373).toInt = (v.1 0 373).toInt := congrArg Int32.toInt ((fr1.2.1 373 (by decide)).trans (show v.1 0 373 = (v.1 0 373) by rfl))
    refine W.sz (fun hz9 => ?_)
    refine czx_v (rx_Vk (n := 1) (As := [.int 3]) (rest := []) hx hb hml hown ht hKK hFx hP hD hS hA (c_x_X9_need l dC dI cI cB cZ cJ cR tb H.size ad pr N L1 L2 u2 (3 : Int32) ps (show 0 ≤ (u2.1 0 304).toInt ∧ (u2.1 0 304).toInt ≤ 1503 from (om_73002589c1 z304 q4)) (show 0 ≤ (u2.1 0 373).toInt ∧ (u2.1 0 373).toInt ≤ 4000 from (om_9084c127ed z373 q11)) (show pr ps = ad 908 from hps) (show (u2.1 0 300) = ps from (Eq.trans (fr1.2.1 300 (by decide)) es300)) (show l.stackTraces = false from hst)) tw_559 tw_572 (by decide +kernel) rfl rfl ⟨Nat.le_of_ble_eq_true rfl, Nat.le_of_ble_eq_true rfl⟩ (List.range (cW ad pr N cI cR L1 L2 u2).length) (rg_map _) (nd_range _) 0 rfl rfl rfl rfl hl.1 rfl (Nat.le_of_ble_eq_true rfl) dX5_rowSize_33 ⟨Nat.le_of_ble_eq_true rfl, Nat.le_of_ble_eq_true rfl⟩) hP hD hS hA (fun u9 ce9 q9 H locs hx9 hP hD hS hc9 hv9 hf9 => ?_) (fun u13 H locs hw12 hP hD hS hz8 => ?_)
    · exact vx_out (fun x h9 => (hnt x h9).elim) hlocks hc9 hv9 hf9 (fun t9 ht9 hv8 => ⟨u9, ⟨FC.tr (FC.tr (FC.rf _) (FC.up fr1 (by decide) (by decide))) hx9.1, hx9.2⟩, ⟨rfl, by rw [ht9]; exact hP, hD⟩, hS.F ht9⟩) hS.2.2 (Nat.le_refl _) (Nat.le_refl _)
    refine W.shrink (hz8.trans hz9) ?_
    have fr12 := hw12
    refine lv_aload_n hx hb dX5_rowSize_36 rfl (lv_at hl 1 rfl) ?_
    refine va_get (D := (dC, dI)) (ci := 8) (fs := oF_X5 ad pr u13) (v := .ref (ad 900)) (C := RX5) (T := TX5) (N := 7) hx hb ht itX5 hown hK hP 3 rfl rfl 1 (by decide) (ht _ tw_571) (fun _ h9 => h9) rfl dX5_rowSize_37 ?_
    have q15 : (u13.1 0 304).toInt = (u2.1 0 304).toInt := congrArg Int32.toInt ((fr12.2.1 304 (by decide)).trans (show u2.1 0 304 = (u2.1 0 304) by rfl))
    refine cu_i (rn_Vk (n := 0) (As := []) (rest := []) hx hb hml hown ht hKK hFx hP hD hS hA (c_x_X9_value l dC dI cI cB cZ cJ cR tb H.size ad pr N L1 L2 u13  (show 0 ≤ (u13.1 0 304).toInt ∧ (u13.1 0 304).toInt ≤ 1503 from (om_dd87ee851a z304 q4 q15))) tw_535 tw_574 (by decide +kernel) rfl rfl ⟨Nat.le_of_ble_eq_true rfl, Nat.le_of_ble_eq_true rfl⟩ (List.range (cW ad pr N cI cR L1 L2 u13).length) (rg_map _) (nd_range _) 0 rfl rfl rfl rfl hl.1 rfl (Nat.le_of_ble_eq_true rfl) dX5_rowSize_40 ⟨Nat.le_of_ble_eq_true rfl, Nat.le_of_ble_eq_true rfl⟩) hP hD hS hA (fun r18 u17 H locs hw16 hP hD hS => ?_)
    obtain rfl := hw16
    refine W.widen (k := 0) (n := 0) (Nat.le_refl _) (Nat.le_refl _) ?_
    refine lv_istore_n (lv' := [(2, .int r18), (1, .int 0), (0, .ref (ad 903))]) hx hb dX5_rowSize_43 rfl hl (by decide) rfl (fun ls hl => ?_)
    refine lv_iload_n hx hb dX5_rowSize_44 rfl (lv_at hl 1 rfl) ?_
    refine lv_if_ne (tgt := 60) hx hb dX5_rowSize_45 (by decide) (fun k19 => absurd k19 (by decide)) (fun _ => ?_)
    refine lv_iload_n hx hb dX5_rowSize_48 rfl (lv_at hl 0 rfl) ?_
    refine lv_iconst (v := 1) hx hb dX5_rowSize_49 (by decide) ?_
    refine lv_icmp_lt (tgt := 60) hx hb dX5_rowSize_50 (by decide) (fun h20 => ?_) (fun h20 => ?_)
    · have z21 : r18.toInt < (1 : Int) := lt_z rfl (show (1 : Int32).toInt = (1 : Int) by decide) h20
      refine lv_aload_n hx hb dX5_rowSize_60 rfl (lv_at hl 2 rfl) ?_
      refine va_get (D := (dC, dI)) (ci := 8) (fs := oF_X5 ad pr u13) (v := .ref (ad 900)) (C := RX5) (T := TX5) (N := 7) hx hb ht itX5 hown hK hP 3 rfl rfl 1 (by decide) (ht _ tw_571) (fun _ h9 => h9) rfl dX5_rowSize_61 ?_
      refine lv_iconst (v := 5) hx hb dX5_rowSize_64 (by decide) ?_
      refine lv_aload_n hx hb dX5_rowSize_65 rfl (lv_at hl 2 rfl) ?_
      refine va_get (D := (dC, dI)) (ci := 8) (fs := oF_X5 ad pr u13) (v := .ref (ad 900)) (C := RX5) (T := TX5) (N := 7) hx hb ht itX5 hown hK hP 3 rfl rfl 1 (by decide) (ht _ tw_571) (fun _ h9 => h9) rfl dX5_rowSize_66 ?_
      have q22 : (u13.1 0 373).toInt = (u2.1 0 373).toInt := congrArg Int32.toInt ((fr12.2.1 373 (by decide)).trans (show u2.1 0 373 = (u2.1 0 373) by rfl))
      refine cu_i (rn_Vk (n := 0) (As := []) (rest := [.int 5, .ref (ad 900)]) hx hb hml hown ht hKK hFx hP hD hS hA (c_x_X9_place l dC dI cI cB cZ cJ cR tb H.size ad pr N L1 L2 u13 ps (show 0 ≤ (u13.1 0 304).toInt ∧ (u13.1 0 304).toInt ≤ 1503 from (om_dd87ee851a z304 q4 q15)) (show 0 ≤ (u13.1 0 373).toInt ∧ (u13.1 0 373).toInt ≤ 4000 from (om_03cd8767ac z373 q11 q22)) (show pr ps = ad 908 from hps) (show (u13.1 0 300) = ps from (Eq.trans (fr12.2.1 300 (by decide)) (Eq.trans (fr1.2.1 300 (by decide)) es300)))) tw_457 tw_577 (by decide +kernel) rfl rfl ⟨Nat.le_of_ble_eq_true rfl, Nat.le_of_ble_eq_true rfl⟩ (List.range (cW ad pr N cI cR L1 L2 u13).length) (rg_map _) (nd_range _) 0 rfl rfl rfl rfl hl.1 rfl (Nat.le_of_ble_eq_true rfl) dX5_rowSize_69 ⟨Nat.le_of_ble_eq_true rfl, Nat.le_of_ble_eq_true rfl⟩) hP hD hS hA (fun r25 u24 H locs hw23 hP hD hS => ?_)
      obtain rfl := hw23
      refine W.widen (k := 0) (n := 0) (Nat.le_refl _) (Nat.le_refl _) ?_
      refine W.sz (fun hz9 => ?_)
      refine czx_v (rx_Vk (n := 2) (As := [.int 5, .int r25]) (rest := []) hx hb hml hown ht hKK hFx hP hD hS hA (c_x_X9_refuse l dC dI cI cB cZ cJ cR tb H.size ad pr N L1 L2 u13 (5 : Int32) r25 (show l.stackTraces = false from hst) (show (5 : Int) ≠ 0 from om_5e02973d50)) tw_459 tw_578 (by decide +kernel) rfl rfl ⟨Nat.le_of_ble_eq_true rfl, Nat.le_of_ble_eq_true rfl⟩ (List.range (cW ad pr N cI cR L1 L2 u13).length) (rg_map _) (nd_range _) 0 rfl rfl rfl rfl hl.1 rfl (Nat.le_of_ble_eq_true rfl) dX5_rowSize_72 ⟨Nat.le_of_ble_eq_true rfl, Nat.le_of_ble_eq_true rfl⟩) hP hD hS hA (fun u9 ce9 q9 H locs hx9 hP hD hS hc9 hv9 hf9 => ?_) (fun u27 H locs hw26 hP hD hS hz8 => ?_)
      · exact vx_out (fun x h9 => (hnt x h9).elim) hlocks hc9 hv9 hf9 (fun t9 ht9 hv8 => ⟨u9, ⟨FC.tr (FC.tr (FC.tr (FC.rf _) (FC.up fr1 (by decide) (by decide))) (FC.up fr12 (by decide) (by decide))) hx9.1, hx9.2⟩, ⟨rfl, by rw [ht9]; exact hP, hD⟩, hS.F ht9⟩) hS.2.2 (Nat.le_refl _) (Nat.le_refl _)
      refine W.shrink (hz8.trans hz9) ?_
      obtain ⟨fr26, no26⟩ := hw26
      have no26 : False := no26
      exact no26.elim
    · have z29 : (1 : Int) ≤ r18.toInt := nlt_z rfl (show (1 : Int32).toInt = (1 : Int) by decide) h20
      refine lv_iload_n hx hb dX5_rowSize_53 rfl (lv_at hl 0 rfl) ?_
      refine lv_sipush (v := 1000) hx hb dX5_rowSize_54 (by decide) ?_
      refine lv_icmp_le (tgt := 75) hx hb dX5_rowSize_57 (by decide) (fun h30 => ?_) (fun h30 => ?_)
      · have z31 : r18.toInt ≤ (1000 : Int) := le_z rfl (show (1000 : Int32).toInt = (1000 : Int) by decide) h30
        refine lv_aload_n hx hb dX5_rowSize_75 rfl (lv_at hl 2 rfl) ?_
        refine va_get (D := (dC, dI)) (ci := 8) (fs := oF_X5 ad pr u13) (v := .ref (ad 900)) (C := RX5) (T := TX5) (N := 7) hx hb ht itX5 hown hK hP 3 rfl rfl 1 (by decide) (ht _ tw_571) (fun _ h9 => h9) rfl dX5_rowSize_76 ?_
        have q32 : (u13.1 0 373).toInt = (u2.1 0 373).toInt := congrArg Int32.toInt ((fr12.2.1 373 (by decide)).trans (show u2.1 0 373 = (u2.1 0 373) by rfl))
        refine W.sz (fun hz9 => ?_)
        refine czx_v (rx_Vk (n := 0) (As := []) (rest := []) hx hb hml hown ht hKK hFx hP hD hS hA (c_x_X9_take l dC dI cI cB cZ cJ cR tb H.size ad pr N L1 L2 u13 ps (show 0 ≤ (u13.1 0 304).toInt ∧ (u13.1 0 304).toInt ≤ 1503 from (om_dd87ee851a z304 q4 q15)) (show 0 ≤ (u13.1 0 373).toInt ∧ (u13.1 0 373).toInt ≤ 4000 from (om_03cd8767ac z373 q11 q32)) (show pr ps = ad 908 from hps) (show (u13.1 0 300) = ps from (Eq.trans (fr12.2.1 300 (by decide)) (Eq.trans (fr1.2.1 300 (by decide)) es300))) (show l.stackTraces = false from hst)) tw_539 tw_585 (by decide +kernel) rfl rfl ⟨Nat.le_of_ble_eq_true rfl, Nat.le_of_ble_eq_true rfl⟩ (List.range (cW ad pr N cI cR L1 L2 u13).length) (rg_map _) (nd_range _) 0 rfl rfl rfl rfl hl.1 rfl (Nat.le_of_ble_eq_true rfl) dX5_rowSize_79 ⟨Nat.le_of_ble_eq_true rfl, Nat.le_of_ble_eq_true rfl⟩) hP hD hS hA (fun u9 ce9 q9 H locs hx9 hP hD hS hc9 hv9 hf9 => ?_) (fun u34 H locs hw33 hP hD hS hz8 => ?_)
        · exact vx_out (fun x h9 => (hnt x h9).elim) hlocks hc9 hv9 hf9 (fun t9 ht9 hv8 => ⟨u9, ⟨FC.tr (FC.tr (FC.tr (FC.rf _) (FC.up fr1 (by decide) (by decide))) (FC.up fr12 (by decide) (by decide))) hx9.1, hx9.2⟩, ⟨rfl, by rw [ht9]; exact hP, hD⟩, hS.F ht9⟩) hS.2.2 (Nat.le_refl _) (Nat.le_refl _)
        refine W.shrink (hz8.trans hz9) ?_
        have fr33 := hw33
        refine lv_aload_n hx hb dX5_rowSize_82 rfl (lv_at hl 2 rfl) ?_
        refine va_get (D := (dC, dI)) (ci := 8) (fs := oF_X5 ad pr u34) (v := .ref (ad 900)) (C := RX5) (T := TX5) (N := 7) hx hb ht itX5 hown hK hP 3 rfl rfl 1 (by decide) (ht _ tw_571) (fun _ h9 => h9) rfl dX5_rowSize_83 ?_
        refine lv_bipush (v := 35) hx hb dX5_rowSize_86 (by decide) ?_
        have q36 : (u34.1 0 304).toInt = (u13.1 0 304).toInt := congrArg Int32.toInt ((fr33.2.1 304 (by decide)).trans (show u13.1 0 304 = (u13.1 0 304) by rfl))
        have q37 : (u34.1 0 373).toInt = (u13.1 0 373).toInt := congrArg Int32.toInt ((fr33.2.1 373 (by decide)).trans (show u13.1 0 373 = (u13.1 0 373) by rfl))
        refine W.sz (fun hz9 => ?_)
        refine czx_v (rx_Vk (n := 1) (As := [.int 35]) (rest := []) hx hb hml hown ht hKK hFx hP hD hS hA (c_x_X9_expect l dC dI cI cB cZ cJ cR tb H.size ad pr N L1 L2 u34 (35 : Int32) ps (show 0 ≤ (u34.1 0 304).toInt ∧ (u34.1 0 304).toInt ≤ 1503 from (om_57e3d9ffbd z304 q4 q15 q36)) (show 0 ≤ (u34.1 0 373).toInt ∧ (u34.1 0 373).toInt ≤ 4000 from (om_282c7f458f z373 q11 q32 q37)) (show pr ps = ad 908 from hps) (show (u34.1 0 300) = ps from (Eq.trans (fr33.2.1 300 (by decide)) (Eq.trans (fr12.2.1 300 (by decide)) (Eq.trans (fr1.2.1 300 (by decide)) es300)))) (show l.stackTraces = false from hst)) tw_526 tw_580 (by decide +kernel) rfl rfl ⟨Nat.le_of_ble_eq_true rfl, Nat.le_of_ble_eq_true rfl⟩ (List.range (cW ad pr N cI cR L1 L2 u34).length) (rg_map _) (nd_range _) 0 rfl rfl rfl rfl hl.1 rfl (Nat.le_of_ble_eq_true rfl) dX5_rowSize_88 ⟨Nat.le_of_ble_eq_true rfl, Nat.le_of_ble_eq_true rfl⟩) hP hD hS hA (fun u9 ce9 q9 H locs hx9 hP hD hS hc9 hv9 hf9 => ?_) (fun u39 H locs hw38 hP hD hS hz8 => ?_)
        · exact vx_out (fun x h9 => (hnt x h9).elim) hlocks hc9 hv9 hf9 (fun t9 ht9 hv8 => ⟨u9, ⟨FC.tr (FC.tr (FC.tr (FC.tr (FC.rf _) (FC.up fr1 (by decide) (by decide))) (FC.up fr12 (by decide) (by decide))) (FC.up fr33 (by decide) (by decide))) hx9.1, hx9.2⟩, ⟨rfl, by rw [ht9]; exact hP, hD⟩, hS.F ht9⟩) hS.2.2 (Nat.le_refl _) (Nat.le_refl _)
        refine W.shrink (hz8.trans hz9) ?_
        have fr38 := hw38
        refine lv_aload_n hx hb dX5_rowSize_91 rfl (lv_at hl 2 rfl) ?_
        refine va_get (D := (dC, dI)) (ci := 8) (fs := oF_X5 ad pr u39) (v := .ref (ad 900)) (C := RX5) (T := TX5) (N := 7) hx hb ht itX5 hown hK hP 3 rfl rfl 1 (by decide) (ht _ tw_571) (fun _ h9 => h9) rfl dX5_rowSize_92 ?_
        have q41 : (u13.1 0 306).toInt = (u2.1 0 306).toInt := congrArg Int32.toInt ((fr12.2.1 306 (by decide)).trans (show u2.1 0 306 = (u2.1 0 306) by rfl))
        have q42 : (u34.1 0 306).toInt = (u13.1 0 306).toInt := congrArg Int32.toInt ((fr33.2.1 306 (by decide)).trans (show u13.1 0 306 = (u13.1 0 306) by rfl))
        have q43 : (u39.1 0 306).toInt = (u34.1 0 306).toInt := congrArg Int32.toInt ((fr38.2.1 306 (by decide)).trans (show u34.1 0 306 = (u34.1 0 306) by rfl))
        refine cu_v (rn_Vk (n := 0) (As := []) (rest := []) hx hb hml hown ht hKK hFx hP hD hS hA (c_x_X9_close l dC dI cI cB cZ cJ cR tb H.size ad pr N L1 L2 u39  (show 0 ≤ (u39.1 0 306).toInt ∧ (u39.1 0 306).toInt ≤ 40 from (om_020c78c161 z306 i3061 pj1 q41 q42 q43)) (show 1 ≤ (u39.1 0 306).toInt from (om_b444a9632b z306 pj1 q41 q42 q43))) tw_528 tw_595 (by decide +kernel) rfl rfl ⟨Nat.le_of_ble_eq_true rfl, Nat.le_of_ble_eq_true rfl⟩ (List.range (cW ad pr N cI cR L1 L2 u39).length) (rg_map _) (nd_range _) 0 rfl rfl rfl rfl hl.1 rfl (Nat.le_of_ble_eq_true rfl) dX5_rowSize_95 ⟨Nat.le_of_ble_eq_true rfl, Nat.le_of_ble_eq_true rfl⟩) hP hD hS hA (fun u45 H locs hw44 hP hD hS => ?_)
        obtain ⟨fr44, i30644, pj44⟩ := hw44
        have i30644 : 0 ≤ (u45.1 0 306).toInt ∧ (u45.1 0 306).toInt ≤ 40 := i30644
        have pj44 : (u45.1 0 306).toInt = (u39.1 0 306).toInt - 1 := pj44
        refine W.widen (k := 0) (n := 0) (Nat.le_refl _) (Nat.le_refl _) ?_
        refine lv_iload_n hx hb dX5_rowSize_98 rfl (lv_at hl 0 rfl) ?_
        refine W.sz (fun hz => ?_)
        refine vx_ret ?_
        refine W.widen (k := 1) (n := 6) (Nat.le_of_ble_eq_true rfl) (Nat.le_of_ble_eq_true rfl) ?_
        exact W.iret (v := r18) hx hb hr (fun t ht9 hW => ⟨⟨r18, u45, rfl, ⟨(FC.tr (FC.tr (FC.tr (FC.tr (FC.tr (FC.rf _) (FC.up fr1 (by decide) (by decide))) (FC.up fr12 (by decide) (by decide))) (FC.up fr33 (by decide) (by decide))) (FC.up fr38 (by decide) (by decide))) (FC.up fr44 (by decide) (by decide))), (show 0 ≤ (u45.1 0 306).toInt ∧ (u45.1 0 306).toInt ≤ 40 from (om_7eaf33e007 i30644)), (show 1 ≤ r18.toInt ∧ r18.toInt ≤ 1000 from (om_b71634050f z29 z31)), (show (u45.1 0 306).toInt = (v.1 0 306).toInt from (om_46a3fd6db8 pj1 q41 q42 q43 pj44))⟩, ⟨by rw [ht9]; exact hP, hD⟩, by rw [ht9]; exact hz⟩, hS.F ht9⟩) hS.2.2 dX5_rowSize_99
      · have z47 : (1000 : Int) < r18.toInt := nle_z rfl (show (1000 : Int32).toInt = (1000 : Int) by decide) h30
        refine lv_aload_n hx hb dX5_rowSize_60 rfl (lv_at hl 2 rfl) ?_
        refine va_get (D := (dC, dI)) (ci := 8) (fs := oF_X5 ad pr u13) (v := .ref (ad 900)) (C := RX5) (T := TX5) (N := 7) hx hb ht itX5 hown hK hP 3 rfl rfl 1 (by decide) (ht _ tw_571) (fun _ h9 => h9) rfl dX5_rowSize_61 ?_
        refine lv_iconst (v := 5) hx hb dX5_rowSize_64 (by decide) ?_
        refine lv_aload_n hx hb dX5_rowSize_65 rfl (lv_at hl 2 rfl) ?_
        refine va_get (D := (dC, dI)) (ci := 8) (fs := oF_X5 ad pr u13) (v := .ref (ad 900)) (C := RX5) (T := TX5) (N := 7) hx hb ht itX5 hown hK hP 3 rfl rfl 1 (by decide) (ht _ tw_571) (fun _ h9 => h9) rfl dX5_rowSize_66 ?_
        have q48 : (u13.1 0 373).toInt = (u2.1 0 373).toInt := congrArg Int32.toInt ((fr12.2.1 373 (by decide)).trans (show u2.1 0 373 = (u2.1 0 373) by rfl))
        refine cu_i (rn_Vk (n := 0) (As := []) (rest := [.int 5, .ref (ad 900)]) hx hb hml hown ht hKK hFx hP hD hS hA (c_x_X9_place l dC dI cI cB cZ cJ cR tb H.size ad pr N L1 L2 u13 ps (show 0 ≤ (u13.1 0 304).toInt ∧ (u13.1 0 304).toInt ≤ 1503 from (om_dd87ee851a z304 q4 q15)) (show 0 ≤ (u13.1 0 373).toInt ∧ (u13.1 0 373).toInt ≤ 4000 from (om_03cd8767ac z373 q11 q48)) (show pr ps = ad 908 from hps) (show (u13.1 0 300) = ps from (Eq.trans (fr12.2.1 300 (by decide)) (Eq.trans (fr1.2.1 300 (by decide)) es300)))) tw_457 tw_577 (by decide +kernel) rfl rfl ⟨Nat.le_of_ble_eq_true rfl, Nat.le_of_ble_eq_true rfl⟩ (List.range (cW ad pr N cI cR L1 L2 u13).length) (rg_map _) (nd_range _) 0 rfl rfl rfl rfl hl.1 rfl (Nat.le_of_ble_eq_true rfl) dX5_rowSize_69 ⟨Nat.le_of_ble_eq_true rfl, Nat.le_of_ble_eq_true rfl⟩) hP hD hS hA (fun r51 u50 H locs hw49 hP hD hS => ?_)
        obtain rfl := hw49
        refine W.widen (k := 0) (n := 0) (Nat.le_refl _) (Nat.le_refl _) ?_
        refine W.sz (fun hz9 => ?_)
        refine czx_v (rx_Vk (n := 2) (As := [.int 5, .int r51]) (rest := []) hx hb hml hown ht hKK hFx hP hD hS hA (c_x_X9_refuse l dC dI cI cB cZ cJ cR tb H.size ad pr N L1 L2 u13 (5 : Int32) r51 (show l.stackTraces = false from hst) (show (5 : Int) ≠ 0 from om_5e02973d50)) tw_459 tw_578 (by decide +kernel) rfl rfl ⟨Nat.le_of_ble_eq_true rfl, Nat.le_of_ble_eq_true rfl⟩ (List.range (cW ad pr N cI cR L1 L2 u13).length) (rg_map _) (nd_range _) 0 rfl rfl rfl rfl hl.1 rfl (Nat.le_of_ble_eq_true rfl) dX5_rowSize_72 ⟨Nat.le_of_ble_eq_true rfl, Nat.le_of_ble_eq_true rfl⟩) hP hD hS hA (fun u9 ce9 q9 H locs hx9 hP hD hS hc9 hv9 hf9 => ?_) (fun u53 H locs hw52 hP hD hS hz8 => ?_)
        · exact vx_out (fun x h9 => (hnt x h9).elim) hlocks hc9 hv9 hf9 (fun t9 ht9 hv8 => ⟨u9, ⟨FC.tr (FC.tr (FC.tr (FC.rf _) (FC.up fr1 (by decide) (by decide))) (FC.up fr12 (by decide) (by decide))) hx9.1, hx9.2⟩, ⟨rfl, by rw [ht9]; exact hP, hD⟩, hS.F ht9⟩) hS.2.2 (Nat.le_refl _) (Nat.le_refl _)
        refine W.shrink (hz8.trans hz9) ?_
        obtain ⟨fr52, no52⟩ := hw52
        have no52 : False := no52
        exact no52.elim
  · have z55 : r7.toInt = (4 : Int) := eq_z rfl (show (4 : Int32).toInt = (4 : Int) by decide) h8
    refine lv_iconst (v := 1) hx hb dX5_rowSize_18 (by decide) ?_
    refine lv_goto (tgt := 23) hx hb dX5_rowSize_19 (by decide) ?_
    refine lv_istore_n (lv' := [(1, .int 1), (0, .ref (ad 903))]) hx hb dX5_rowSize_23 rfl hl (by decide) rfl (fun ls hl => ?_)
    refine lv_iload_n hx hb dX5_rowSize_24 rfl (lv_at hl 0 rfl) ?_
    refine lv_if_ne (tgt := 36) hx hb dX5_rowSize_25 (by decide) (fun _ => ?_) (fun k56 => absurd k56 (by decide))
    refine lv_aload_n hx hb dX5_rowSize_36 rfl (lv_at hl 1 rfl) ?_
    refine va_get (D := (dC, dI)) (ci := 8) (fs := oF_X5 ad pr u2) (v := .ref (ad 900)) (C := RX5) (T := TX5) (N := 7) hx hb ht itX5 hown hK hP 3 rfl rfl 1 (by decide) (ht _ tw_571) (fun _ h9 => h9) rfl dX5_rowSize_37 ?_
    refine cu_i (rn_Vk (n := 0) (As := []) (rest := []) hx hb hml hown ht hKK hFx hP hD hS hA (c_x_X9_value l dC dI cI cB cZ cJ cR tb H.size ad pr N L1 L2 u2  (show 0 ≤ (u2.1 0 304).toInt ∧ (u2.1 0 304).toInt ≤ 1503 from (om_73002589c1 z304 q4))) tw_535 tw_574 (by decide +kernel) rfl rfl ⟨Nat.le_of_ble_eq_true rfl, Nat.le_of_ble_eq_true rfl⟩ (List.range (cW ad pr N cI cR L1 L2 u2).length) (rg_map _) (nd_range _) 0 rfl rfl rfl rfl hl.1 rfl (Nat.le_of_ble_eq_true rfl) dX5_rowSize_40 ⟨Nat.le_of_ble_eq_true rfl, Nat.le_of_ble_eq_true rfl⟩) hP hD hS hA (fun r59 u58 H locs hw57 hP hD hS => ?_)
    obtain rfl := hw57
    refine W.widen (k := 0) (n := 0) (Nat.le_refl _) (Nat.le_refl _) ?_
    refine lv_istore_n (lv' := [(2, .int r59), (1, .int 1), (0, .ref (ad 903))]) hx hb dX5_rowSize_43 rfl hl (by decide) rfl (fun ls hl => ?_)
    refine lv_iload_n hx hb dX5_rowSize_44 rfl (lv_at hl 1 rfl) ?_
    refine lv_if_ne (tgt := 60) hx hb dX5_rowSize_45 (by decide) (fun _ => ?_) (fun k60 => absurd k60 (by decide))
    refine lv_aload_n hx hb dX5_rowSize_60 rfl (lv_at hl 2 rfl) ?_
    refine va_get (D := (dC, dI)) (ci := 8) (fs := oF_X5 ad pr u2) (v := .ref (ad 900)) (C := RX5) (T := TX5) (N := 7) hx hb ht itX5 hown hK hP 3 rfl rfl 1 (by decide) (ht _ tw_571) (fun _ h9 => h9) rfl dX5_rowSize_61 ?_
    refine lv_iconst (v := 5) hx hb dX5_rowSize_64 (by decide) ?_
    refine lv_aload_n hx hb dX5_rowSize_65 rfl (lv_at hl 2 rfl) ?_
    refine va_get (D := (dC, dI)) (ci := 8) (fs := oF_X5 ad pr u2) (v := .ref (ad 900)) (C := RX5) (T := TX5) (N := 7) hx hb ht itX5 hown hK hP 3 rfl rfl 1 (by decide) (ht _ tw_571) (fun _ h9 => h9) rfl dX5_rowSize_66 ?_
    have q61 : (u2.1 0 373).toInt = (v.1 0 373).toInt := congrArg Int32.toInt ((fr1.2.1 373 (by decide)).trans (show v.1 0 373 = (v.1 0 373) by rfl))
    refine cu_i (rn_Vk (n := 0) (As := []) (rest := [.int 5, .ref (ad 900)]) hx hb hml hown ht hKK hFx hP hD hS hA (c_x_X9_place l dC dI cI cB cZ cJ cR tb H.size ad pr N L1 L2 u2 ps (show 0 ≤ (u2.1 0 304).toInt ∧ (u2.1 0 304).toInt ≤ 1503 from (om_73002589c1 z304 q4)) (show 0 ≤ (u2.1 0 373).toInt ∧ (u2.1 0 373).toInt ≤ 4000 from (om_9084c127ed z373 q61)) (show pr ps = ad 908 from hps) (show (u2.1 0 300) = ps from (Eq.trans (fr1.2.1 300 (by decide)) es300))) tw_457 tw_577 (by decide +kernel) rfl rfl ⟨Nat.le_of_ble_eq_true rfl, Nat.le_of_ble_eq_true rfl⟩ (List.range (cW ad pr N cI cR L1 L2 u2).length) (rg_map _) (nd_range _) 0 rfl rfl rfl rfl hl.1 rfl (Nat.le_of_ble_eq_true rfl) dX5_rowSize_69 ⟨Nat.le_of_ble_eq_true rfl, Nat.le_of_ble_eq_true rfl⟩) hP hD hS hA (fun r64 u63 H locs hw62 hP hD hS => ?_)
    obtain rfl := hw62
    refine W.widen (k := 0) (n := 0) (Nat.le_refl _) (Nat.le_refl _) ?_
    refine W.sz (fun hz9 => ?_)
    refine czx_v (rx_Vk (n := 2) (As := [.int 5, .int r64]) (rest := []) hx hb hml hown ht hKK hFx hP hD hS hA (c_x_X9_refuse l dC dI cI cB cZ cJ cR tb H.size ad pr N L1 L2 u2 (5 : Int32) r64 (show l.stackTraces = false from hst) (show (5 : Int) ≠ 0 from om_5e02973d50)) tw_459 tw_578 (by decide +kernel) rfl rfl ⟨Nat.le_of_ble_eq_true rfl, Nat.le_of_ble_eq_true rfl⟩ (List.range (cW ad pr N cI cR L1 L2 u2).length) (rg_map _) (nd_range _) 0 rfl rfl rfl rfl hl.1 rfl (Nat.le_of_ble_eq_true rfl) dX5_rowSize_72 ⟨Nat.le_of_ble_eq_true rfl, Nat.le_of_ble_eq_true rfl⟩) hP hD hS hA (fun u9 ce9 q9 H locs hx9 hP hD hS hc9 hv9 hf9 => ?_) (fun u66 H locs hw65 hP hD hS hz8 => ?_)
    · exact vx_out (fun x h9 => (hnt x h9).elim) hlocks hc9 hv9 hf9 (fun t9 ht9 hv8 => ⟨u9, ⟨FC.tr (FC.tr (FC.rf _) (FC.up fr1 (by decide) (by decide))) hx9.1, hx9.2⟩, ⟨rfl, by rw [ht9]; exact hP, hD⟩, hS.F ht9⟩) hS.2.2 (Nat.le_refl _) (Nat.le_refl _)
    refine W.shrink (hz8.trans hz9) ?_
    obtain ⟨fr65, no65⟩ := hw65
    have no65 : False := no65
    exact no65.elim
theorem om_24e1f2eced {x0 : Int} : (4 : Int) ≠ 0 ∨ x0 ≤ 1000 := by omega
theorem om_4550d86e9b {x0 : Int} : (3 : Int) ≠ 0 ∨ x0 ≤ 1000 := by omega
theorem om_52043010a0 : (2 : Int) ≠ 0 ∨ (0 : Int) ≤ 1000 := by omega
theorem om_5a4c72df4e : (0 : Int) ≠ 0 ∨ (1 : Int) ≤ 1000 := by omega
theorem om_a4a88028d4 {x0 x1 x2 x3 x4 x5 x6 : Int} (h0 : 0 ≤ x0 ∧ x0 ≤ 40) (h1 : x1 = x0) (h2 : x2 = x1) (h3 : x3 = x2) (h4 : x4 = x3) (h5 : x5 = x4) (h6 : x6 = x5) : 0 ≤ x6 ∧ x6 ≤ 40 := by omega
theorem om_df9b2185da : (2 : Int) ≠ 0 ∨ (1 : Int) ≤ 1000 := by omega
theorem om_ca678151ea {x0 x1 x2 x3 x4 : Int} (h0 : 0 ≤ x0 ∧ x0 ≤ 40) (h1 : x1 = x0) (h2 : x2 = x1) (h3 : x3 = x2) (h4 : x4 = x3) : 0 ≤ x4 ∧ x4 ≤ 40 := by omega
theorem om_ffc4732c03 {x0 : Int} (h0 : 1 ≤ x0 ∧ x0 ≤ 1000) : (0 : Int) ≠ 0 ∨ x0 ≤ 1000 := by omega
theorem om_1a945f4049 {x0 x1 x2 x3 x4 x5 x6 : Int} (h0 : 0 ≤ x0 ∧ x0 ≤ 1503) (h1 : x1 = x0) (h2 : x2 = x1) (h3 : x3 = x2) (h4 : x4 = x3) (h5 : x5 = x4) (h6 : x6 = x5) : 0 ≤ x6 ∧ x6 ≤ 1503 := by omega
theorem om_1de556205c {x0 x1 x2 x3 x4 x5 x6 : Int} (h0 : 0 ≤ x0 ∧ x0 ≤ 4000) (h1 : x1 = x0) (h2 : x2 = x1) (h3 : x3 = x2) (h4 : x4 = x3) (h5 : x5 = x4) (h6 : x6 = x5) : 0 ≤ x6 ∧ x6 ≤ 4000 := by omega
set_option maxHeartbeats 4000000 in
set_option maxRecDepth 100000 in
theorem c_x_X5_globalItem (l : Launch) (dC : Nat → ClassId) (dI : Nat → Nat → Nat) (cI cB cZ cJ cR : ClassId) (tb : Nat → Nat) (sz : Nat) (ad : Nat → Nat) (pr : Int32 → Nat) (N : Nat) (L1 L2 : List Nat) (v : MS) (pa : Int32) (ps : Int32) (z304 : 0 ≤ (v.1 0 304).toInt ∧ (v.1 0 304).toInt ≤ 1503) (z306 : 0 ≤ (v.1 0 306).toInt ∧ (v.1 0 306).toInt ≤ 40) (z373 : 0 ≤ (v.1 0 373).toInt ∧ (v.1 0 373).toInt ≤ 4000) (hL1 : L1.length = 40) (hL2 : L2.length = 60) (rp : RP v) (hps : pr ps = ad 908) (es300 : (v.1 0 300) = ps) (es327 : (v.1 0 327) = ps) (hst : l.stackTraces = false) : vx_Met l yX5_globalItem (Cond.code yX5_globalItem cX5_globalItem 5 none :: tw_W) ({ frames := 9, cells := 1, slots := 6, locals := 147 }) (pc_ (dC, dI) (tyS cI cB cZ cJ cR) tb (cW ad pr N cI cR L1 L2 v) sz [.ref (ad 903), .int pa]) (qvz_ (dC, dI) (cW ad pr N cI cR L1 L2 v) sz (fun (u : MS) => FC [305, 306, 377] [0] v u ∧ (0 ≤ (u.1 0 306).toInt ∧ (u.1 0 306).toInt ≤ 40)) (fun (u : MS) => (cW ad pr N cI cR L1 L2 u))) (qxc (dC, dI) (cW ad pr N cI cR L1 L2 v) sz (fun (u : MS) => (cW ad pr N cI cR L1 L2 u)) (fun (u : MS) => FC xfl xal v u ∧ (u.1 0 308).toInt ≠ 0)) 1 6 (va_A (cW ad pr N cI cR L1 L2 v) sz) := by
  refine vx_ofW (cc := cX5_globalItem) (maxL := 5) (ret := none) (by decide) rfl ?_
  intro p e s m args below meth c s₁ B hml hnt hv
  obtain ⟨rfl, hsz, hP, hKK, hD0, hFx⟩ := hv
  have hK := hKK.1
  have hx := B.exec
  have hb := B.bytes
  have hr := B.returns
  have ht : ∀ w ∈ tw_W, w.before _ s = true := fun w h => atoms_spec (ws := Cond.code yX5_globalItem cX5_globalItem 5 none :: tw_W) B.pre w (List.mem_cons_of_mem _ h)
  have hown : s.vm.findClass RX5 = some m.cls := findClass_of_methodNamed B.named
  have hlocks := B.notSynchronized
  subst hsz
  unfold qvz_ qxc
  have hD := hD0.self (sz := s.heap.size)
  generalize hAe : va_A (cW ad pr N cI cR L1 L2 v) s.heap.size = A at hD hFx ⊢
  have hA : ∀ q : Nat, s.heap.size ≤ q → A q := fun q h => by rw [← hAe]; exact Or.inr h
  have hS : va_S A s.heap s.heap [] := va_S.rf
  have hl := lv_entry ([.ref (ad 903), .int pa]) (n := 5) (Nat.le_of_ble_eq_true rfl)
  rw [lg_entry_eq]
  generalize (lg_sl ([.ref (ad 903), .int pa]) ++ List.replicate (5 - (lg_sl ([.ref (ad 903), .int pa])).length) Slot.unset).toArray = ls at hl ⊢
  have hl : lv_has ls 5 [(0, .ref (ad 903)), (1, .int pa)] := hl
  refine lv_aload_n hx hb dX5_globalItem_0 rfl (lv_at hl 0 rfl) ?_
  refine va_get (D := (dC, dI)) (ci := 8) (fs := oF_X5 ad pr v) (v := .ref (pr (v.1 0 327))) (C := RX5) (T := TX5) (N := 7) hx hb ht itX5 hown hK hP 3 rfl rfl 0 (by decide) (ht _ tw_588) (fun _ h9 => h9) rfl dX5_globalItem_1 ?_
  refine W.eq (g2 := F0 m 4 ls [.ref (ad 908)]) (by rw [show pr (v.1 0 327) = (ad 908) from (by rw [show (v.1 0 327) = ps from es327]; exact hps)]) ?_
  refine va_get (D := (dC, dI)) (ci := 10) (fs := oF_X7 ad pr v) (v := .int (v.1 0 377)) (C := RX7) (T := TX7) (N := 13) hx hb ht itX7 hown hK hP 8 rfl rfl 5 (by decide) (ht _ tw_598) (fun _ h9 => h9) rfl dX5_globalItem_4 ?_
  refine lv_istore_n (lv' := [(2, .int (v.1 0 377)), (0, .ref (ad 903)), (1, .int pa)]) hx hb dX5_globalItem_7 rfl hl (by decide) rfl (fun ls hl => ?_)
  refine lv_iload_n hx hb dX5_globalItem_8 rfl (lv_at hl 2 rfl) ?_
  refine lv_bipush (v := 34) hx hb dX5_globalItem_9 (by decide) ?_
  refine lv_icmp_ne (tgt := 18) hx hb dX5_globalItem_11 (by decide) (fun h1 => ?_) (fun h1 => ?_)
  · have z2 : pa.toInt ≠ (34 : Int) := ne_z rfl (show (34 : Int32).toInt = (34 : Int) by decide) h1
    refine lv_iconst (v := 0) hx hb dX5_globalItem_18 (by decide) ?_
    refine lv_istore_n (lv' := [(3, .int 0), (2, .int (v.1 0 377)), (0, .ref (ad 903)), (1, .int pa)]) hx hb dX5_globalItem_19 rfl hl (by decide) rfl (fun ls hl => ?_)
    refine lv_iload_n hx hb dX5_globalItem_20 rfl (lv_at hl 0 rfl) ?_
    refine lv_if_ne (tgt := 30) hx hb dX5_globalItem_21 (by decide) (fun k3 => absurd k3 (by decide)) (fun _ => ?_)
    refine lv_iload_n hx hb dX5_globalItem_24 rfl (lv_at hl 3 rfl) ?_
    refine lv_bipush (v := 36) hx hb dX5_globalItem_25 (by decide) ?_
    refine lv_icmp_ne (tgt := 34) hx hb dX5_globalItem_27 (by decide) (fun h4 => ?_) (fun h4 => ?_)
    · have z5 : pa.toInt ≠ (36 : Int) := ne_z rfl (show (36 : Int32).toInt = (36 : Int) by decide) h4
      refine lv_iconst (v := 0) hx hb dX5_globalItem_34 (by decide) ?_
      refine lv_istore (lv' := [(4, .int 0), (3, .int 0), (2, .int (v.1 0 377)), (0, .ref (ad 903)), (1, .int pa)]) hx hb dX5_globalItem_35 hl (by decide) rfl (fun ls hl => ?_)
      refine lv_iload hx hb dX5_globalItem_37 (lv_at hl 0 rfl) ?_
      refine lv_if_eq (tgt := 63) hx hb dX5_globalItem_39 (by decide) (fun _ => ?_) (fun k6 => absurd k6 (by decide))
      refine lv_aload_n hx hb dX5_globalItem_63 rfl (lv_at hl 3 rfl) ?_
      refine va_get (D := (dC, dI)) (ci := 8) (fs := oF_X5 ad pr v) (v := .ref (pr (v.1 0 327))) (C := RX5) (T := TX5) (N := 7) hx hb ht itX5 hown hK hP 3 rfl rfl 0 (by decide) (ht _ tw_588) (fun _ h9 => h9) rfl dX5_globalItem_64 ?_
      refine lv_iload_n hx hb dX5_globalItem_67 rfl (lv_at hl 2 rfl) ?_
      refine lv_iconst (v := 4) hx hb dX5_globalItem_68 (by decide) ?_
      refine lv_aload_n hx hb dX5_globalItem_69 rfl (lv_at hl 3 rfl) ?_
      refine va_get (D := (dC, dI)) (ci := 8) (fs := oF_X5 ad pr v) (v := .ref (ad 900)) (C := RX5) (T := TX5) (N := 7) hx hb ht itX5 hown hK hP 3 rfl rfl 1 (by decide) (ht _ tw_571) (fun _ h9 => h9) rfl dX5_globalItem_70 ?_
      refine cu_i (rn_Vk (n := 0) (As := []) (rest := [.int 4, .int (v.1 0 377), .ref (pr (v.1 0 327))]) hx hb hml hown ht hKK hFx hP hD hS hA (c_x_X9_value l dC dI cI cB cZ cJ cR tb s.heap.size ad pr N L1 L2 v  (show 0 ≤ (v.1 0 304).toInt ∧ (v.1 0 304).toInt ≤ 1503 from (om_c99648273b z304))) tw_535 tw_574 (by decide +kernel) rfl rfl ⟨Nat.le_of_ble_eq_true rfl, Nat.le_of_ble_eq_true rfl⟩ (List.range (cW ad pr N cI cR L1 L2 v).length) (rg_map _) (nd_range _) 0 rfl rfl rfl rfl hl.1 rfl (Nat.le_of_ble_eq_true rfl) dX5_globalItem_73 ⟨Nat.le_of_ble_eq_true rfl, Nat.le_of_ble_eq_true rfl⟩) hP hD hS hA (fun r9 u8 H locs hw7 hP hD hS => ?_)
      obtain rfl := hw7
      refine W.widen (k := 0) (n := 0) (Nat.le_refl _) (Nat.le_refl _) ?_
      refine W.eq (g2 := F0 m 76 ls [.int r9, .int 4, .int (v.1 0 377), .ref (ad 908)]) (by rw [show pr (v.1 0 327) = (ad 908) from (by rw [show (v.1 0 327) = ps from es327]; exact hps)]) ?_
      refine cu_v (rn_Vk (n := 3) (As := [.int (v.1 0 377), .int 4, .int r9]) (rest := []) hx hb hml hown ht hKK hFx hP hD hS hA (c_x_X7_changeGlobal l dC dI cI cB cZ cJ cR tb H.size ad pr N L1 L2 v (v.1 0 377) (4 : Int32) r9 (show L1.length = 40 from hL1) (show L2.length = 60 from hL2) (show RP v from rp) (show (4 : Int) ≠ 0 ∨ r9.toInt ≤ 1000 from om_24e1f2eced)) tw_599 tw_600 (by decide +kernel) rfl rfl ⟨Nat.le_of_ble_eq_true rfl, Nat.le_of_ble_eq_true rfl⟩ (List.range (cW ad pr N cI cR L1 L2 v).length) (rg_map _) (nd_range _) 8 rfl rfl rfl rfl hl.1 rfl (Nat.le_of_ble_eq_true rfl) dX5_globalItem_76 ⟨Nat.le_of_ble_eq_true rfl, Nat.le_of_ble_eq_true rfl⟩) hP hD hS hA (fun u11 H locs hw10 hP hD hS => ?_)
      have fr10 := hw10
      refine W.widen (k := 0) (n := 0) (Nat.le_refl _) (Nat.le_refl _) ?_
      refine lv_aload_n hx hb dX5_globalItem_79 rfl (lv_at hl 3 rfl) ?_
      refine va_get (D := (dC, dI)) (ci := 8) (fs := oF_X5 ad pr u11) (v := .ref (pr (u11.1 0 327))) (C := RX5) (T := TX5) (N := 7) hx hb ht itX5 hown hK hP 3 rfl rfl 0 (by decide) (ht _ tw_588) (fun _ h9 => h9) rfl dX5_globalItem_80 ?_
      refine lv_iload_n hx hb dX5_globalItem_83 rfl (lv_at hl 2 rfl) ?_
      refine lv_iconst (v := 3) hx hb dX5_globalItem_84 (by decide) ?_
      refine lv_aload_n hx hb dX5_globalItem_85 rfl (lv_at hl 3 rfl) ?_
      refine va_get (D := (dC, dI)) (ci := 8) (fs := oF_X5 ad pr u11) (v := .ref (ad 900)) (C := RX5) (T := TX5) (N := 7) hx hb ht itX5 hown hK hP 3 rfl rfl 1 (by decide) (ht _ tw_571) (fun _ h9 => h9) rfl dX5_globalItem_86 ?_
      have q13 : (u11.1 0 304).toInt = (v.1 0 304).toInt := congrArg Int32.toInt ((fr10.2.1 304 (by decide)).trans (show v.1 0 304 = (v.1 0 304) by rfl))
      have q14 : (u11.1 0 373).toInt = (v.1 0 373).toInt := congrArg Int32.toInt ((fr10.2.1 373 (by decide)).trans (show v.1 0 373 = (v.1 0 373) by rfl))
      refine cu_i (rn_Vk (n := 0) (As := []) (rest := [.int 3, .int (v.1 0 377), .ref (pr (u11.1 0 327))]) hx hb hml hown ht hKK hFx hP hD hS hA (c_x_X9_place l dC dI cI cB cZ cJ cR tb H.size ad pr N L1 L2 u11 ps (show 0 ≤ (u11.1 0 304).toInt ∧ (u11.1 0 304).toInt ≤ 1503 from (om_73002589c1 z304 q13)) (show 0 ≤ (u11.1 0 373).toInt ∧ (u11.1 0 373).toInt ≤ 4000 from (om_9084c127ed z373 q14)) (show pr ps = ad 908 from hps) (show (u11.1 0 300) = ps from (Eq.trans (fr10.2.1 300 (by decide)) es300))) tw_457 tw_577 (by decide +kernel) rfl rfl ⟨Nat.le_of_ble_eq_true rfl, Nat.le_of_ble_eq_true rfl⟩ (List.range (cW ad pr N cI cR L1 L2 u11).length) (rg_map _) (nd_range _) 0 rfl rfl rfl rfl hl.1 rfl (Nat.le_of_ble_eq_true rfl) dX5_globalItem_89 ⟨Nat.le_of_ble_eq_true rfl, Nat.le_of_ble_eq_true rfl⟩) hP hD hS hA (fun r17 u16 H locs hw15 hP hD hS => ?_)
      obtain rfl := hw15
      refine W.widen (k := 0) (n := 0) (Nat.le_refl _) (Nat.le_refl _) ?_
      refine W.eq (g2 := F0 m 92 ls [.int r17, .int 3, .int (v.1 0 377), .ref (ad 908)]) (by rw [show pr (u11.1 0 327) = (ad 908) from (by rw [show (u11.1 0 327) = ps from (Eq.trans (fr10.2.1 327 (by decide)) es327)]; exact hps)]) ?_
      refine cu_v (rn_Vk (n := 3) (As := [.int (v.1 0 377), .int 3, .int r17]) (rest := []) hx hb hml hown ht hKK hFx hP hD hS hA (c_x_X7_changeGlobal l dC dI cI cB cZ cJ cR tb H.size ad pr N L1 L2 u11 (v.1 0 377) (3 : Int32) r17 (show L1.length = 40 from hL1) (show L2.length = 60 from hL2) (show RP u11 from ((show FC [305, 306, 377] [0] v u11 from (FC.tr (FC.rf _) (FC.up fr10 (by decide) (by decide)))).1 rp)) (show (3 : Int) ≠ 0 ∨ r17.toInt ≤ 1000 from om_4550d86e9b)) tw_599 tw_600 (by decide +kernel) rfl rfl ⟨Nat.le_of_ble_eq_true rfl, Nat.le_of_ble_eq_true rfl⟩ (List.range (cW ad pr N cI cR L1 L2 u11).length) (rg_map _) (nd_range _) 8 rfl rfl rfl rfl hl.1 rfl (Nat.le_of_ble_eq_true rfl) dX5_globalItem_92 ⟨Nat.le_of_ble_eq_true rfl, Nat.le_of_ble_eq_true rfl⟩) hP hD hS hA (fun u19 H locs hw18 hP hD hS => ?_)
      have fr18 := hw18
      refine W.widen (k := 0) (n := 0) (Nat.le_refl _) (Nat.le_refl _) ?_
      refine lv_aload_n hx hb dX5_globalItem_95 rfl (lv_at hl 3 rfl) ?_
      refine va_get (D := (dC, dI)) (ci := 8) (fs := oF_X5 ad pr u19) (v := .ref (ad 900)) (C := RX5) (T := TX5) (N := 7) hx hb ht itX5 hown hK hP 3 rfl rfl 1 (by decide) (ht _ tw_571) (fun _ h9 => h9) rfl dX5_globalItem_96 ?_
      have q21 : (u19.1 0 304).toInt = (u11.1 0 304).toInt := congrArg Int32.toInt ((fr18.2.1 304 (by decide)).trans (show u11.1 0 304 = (u11.1 0 304) by rfl))
      have q22 : (u19.1 0 373).toInt = (u11.1 0 373).toInt := congrArg Int32.toInt ((fr18.2.1 373 (by decide)).trans (show u11.1 0 373 = (u11.1 0 373) by rfl))
      refine W.sz (fun hz9 => ?_)
      refine czx_v (rx_Vk (n := 0) (As := []) (rest := []) hx hb hml hown ht hKK hFx hP hD hS hA (c_x_X9_take l dC dI cI cB cZ cJ cR tb H.size ad pr N L1 L2 u19 ps (show 0 ≤ (u19.1 0 304).toInt ∧ (u19.1 0 304).toInt ≤ 1503 from (om_dd87ee851a z304 q13 q21)) (show 0 ≤ (u19.1 0 373).toInt ∧ (u19.1 0 373).toInt ≤ 4000 from (om_03cd8767ac z373 q14 q22)) (show pr ps = ad 908 from hps) (show (u19.1 0 300) = ps from (Eq.trans (fr18.2.1 300 (by decide)) (Eq.trans (fr10.2.1 300 (by decide)) es300))) (show l.stackTraces = false from hst)) tw_539 tw_585 (by decide +kernel) rfl rfl ⟨Nat.le_of_ble_eq_true rfl, Nat.le_of_ble_eq_true rfl⟩ (List.range (cW ad pr N cI cR L1 L2 u19).length) (rg_map _) (nd_range _) 0 rfl rfl rfl rfl hl.1 rfl (Nat.le_of_ble_eq_true rfl) dX5_globalItem_99 ⟨Nat.le_of_ble_eq_true rfl, Nat.le_of_ble_eq_true rfl⟩) hP hD hS hA (fun u9 ce9 q9 H locs hx9 hP hD hS hc9 hv9 hf9 => ?_) (fun u24 H locs hw23 hP hD hS hz8 => ?_)
      · exact vx_out (fun x h9 => (hnt x h9).elim) hlocks hc9 hv9 hf9 (fun t9 ht9 hv8 => ⟨u9, ⟨FC.tr (FC.tr (FC.tr (FC.rf _) (FC.up fr10 (by decide) (by decide))) (FC.up fr18 (by decide) (by decide))) hx9.1, hx9.2⟩, ⟨rfl, by rw [ht9]; exact hP, hD⟩, hS.F ht9⟩) hS.2.2 (Nat.le_refl _) (Nat.le_refl _)
      refine W.shrink (hz8.trans hz9) ?_
      have fr23 := hw23
      refine lv_aload_n hx hb dX5_globalItem_102 rfl (lv_at hl 3 rfl) ?_
      refine va_get (D := (dC, dI)) (ci := 8) (fs := oF_X5 ad pr u24) (v := .ref (pr (u24.1 0 327))) (C := RX5) (T := TX5) (N := 7) hx hb ht itX5 hown hK hP 3 rfl rfl 0 (by decide) (ht _ tw_588) (fun _ h9 => h9) rfl dX5_globalItem_103 ?_
      refine lv_iload_n hx hb dX5_globalItem_106 rfl (lv_at hl 2 rfl) ?_
      refine lv_iconst (v := 2) hx hb dX5_globalItem_107 (by decide) ?_
      refine lv_iload_n hx hb dX5_globalItem_108 rfl (lv_at hl 1 rfl) ?_
      refine lv_if_eq (tgt := 116) hx hb dX5_globalItem_109 (by decide) (fun _ => ?_) (fun k26 => absurd k26 (by decide))
      refine lv_iconst (v := 0) hx hb dX5_globalItem_116 (by decide) ?_
      refine W.eq (g2 := F0 m 117 ls [.int 0, .int 2, .int (v.1 0 377), .ref (ad 908)]) (by rw [show pr (u24.1 0 327) = (ad 908) from (by rw [show (u24.1 0 327) = ps from (Eq.trans (fr23.2.1 327 (by decide)) (Eq.trans (fr18.2.1 327 (by decide)) (Eq.trans (fr10.2.1 327 (by decide)) es327)))]; exact hps)]) ?_
      refine cu_v (rn_Vk (n := 3) (As := [.int (v.1 0 377), .int 2, .int 0]) (rest := []) hx hb hml hown ht hKK hFx hP hD hS hA (c_x_X7_changeGlobal l dC dI cI cB cZ cJ cR tb H.size ad pr N L1 L2 u24 (v.1 0 377) (2 : Int32) (0 : Int32) (show L1.length = 40 from hL1) (show L2.length = 60 from hL2) (show RP u24 from ((show FC [305, 306, 377] [0] v u24 from (FC.tr (FC.tr (FC.tr (FC.rf _) (FC.up fr10 (by decide) (by decide))) (FC.up fr18 (by decide) (by decide))) (FC.up fr23 (by decide) (by decide)))).1 rp)) (show (2 : Int) ≠ 0 ∨ (0 : Int) ≤ 1000 from om_52043010a0)) tw_599 tw_600 (by decide +kernel) rfl rfl ⟨Nat.le_of_ble_eq_true rfl, Nat.le_of_ble_eq_true rfl⟩ (List.range (cW ad pr N cI cR L1 L2 u24).length) (rg_map _) (nd_range _) 8 rfl rfl rfl rfl hl.1 rfl (Nat.le_of_ble_eq_true rfl) dX5_globalItem_117 ⟨Nat.le_of_ble_eq_true rfl, Nat.le_of_ble_eq_true rfl⟩) hP hD hS hA (fun u28 H locs hw27 hP hD hS => ?_)
      have fr27 := hw27
      refine W.widen (k := 0) (n := 0) (Nat.le_refl _) (Nat.le_refl _) ?_
      refine lv_aload_n hx hb dX5_globalItem_120 rfl (lv_at hl 3 rfl) ?_
      refine va_get (D := (dC, dI)) (ci := 8) (fs := oF_X5 ad pr u28) (v := .ref (pr (u28.1 0 327))) (C := RX5) (T := TX5) (N := 7) hx hb ht itX5 hown hK hP 3 rfl rfl 0 (by decide) (ht _ tw_588) (fun _ h9 => h9) rfl dX5_globalItem_121 ?_
      refine lv_iload_n hx hb dX5_globalItem_124 rfl (lv_at hl 2 rfl) ?_
      refine lv_iconst (v := 0) hx hb dX5_globalItem_125 (by decide) ?_
      refine lv_iload_n hx hb dX5_globalItem_126 rfl (lv_at hl 1 rfl) ?_
      refine lv_if_eq (tgt := 137) hx hb dX5_globalItem_127 (by decide) (fun _ => ?_) (fun k30 => absurd k30 (by decide))
      refine lv_iconst (v := 1) hx hb dX5_globalItem_137 (by decide) ?_
      refine W.eq (g2 := F0 m 138 ls [.int 1, .int 0, .int (v.1 0 377), .ref (ad 908)]) (by rw [show pr (u28.1 0 327) = (ad 908) from (by rw [show (u28.1 0 327) = ps from (Eq.trans (fr27.2.1 327 (by decide)) (Eq.trans (fr23.2.1 327 (by decide)) (Eq.trans (fr18.2.1 327 (by decide)) (Eq.trans (fr10.2.1 327 (by decide)) es327))))]; exact hps)]) ?_
      refine cu_v (rn_Vk (n := 3) (As := [.int (v.1 0 377), .int 0, .int 1]) (rest := []) hx hb hml hown ht hKK hFx hP hD hS hA (c_x_X7_changeGlobal l dC dI cI cB cZ cJ cR tb H.size ad pr N L1 L2 u28 (v.1 0 377) (0 : Int32) (1 : Int32) (show L1.length = 40 from hL1) (show L2.length = 60 from hL2) (show RP u28 from ((show FC [305, 306, 377] [0] v u28 from (FC.tr (FC.tr (FC.tr (FC.tr (FC.rf _) (FC.up fr10 (by decide) (by decide))) (FC.up fr18 (by decide) (by decide))) (FC.up fr23 (by decide) (by decide))) (FC.up fr27 (by decide) (by decide)))).1 rp)) (show (0 : Int) ≠ 0 ∨ (1 : Int) ≤ 1000 from om_5a4c72df4e)) tw_599 tw_600 (by decide +kernel) rfl rfl ⟨Nat.le_of_ble_eq_true rfl, Nat.le_of_ble_eq_true rfl⟩ (List.range (cW ad pr N cI cR L1 L2 u28).length) (rg_map _) (nd_range _) 8 rfl rfl rfl rfl hl.1 rfl (Nat.le_of_ble_eq_true rfl) dX5_globalItem_138 ⟨Nat.le_of_ble_eq_true rfl, Nat.le_of_ble_eq_true rfl⟩) hP hD hS hA (fun u32 H locs hw31 hP hD hS => ?_)
      have fr31 := hw31
      refine W.widen (k := 0) (n := 0) (Nat.le_refl _) (Nat.le_refl _) ?_
      refine lv_aload_n hx hb dX5_globalItem_141 rfl (lv_at hl 3 rfl) ?_
      refine va_get (D := (dC, dI)) (ci := 8) (fs := oF_X5 ad pr u32) (v := .ref (ad 900)) (C := RX5) (T := TX5) (N := 7) hx hb ht itX5 hown hK hP 3 rfl rfl 1 (by decide) (ht _ tw_571) (fun _ h9 => h9) rfl dX5_globalItem_142 ?_
      refine lv_bipush (v := 36) hx hb dX5_globalItem_145 (by decide) ?_
      have q34 : (u24.1 0 304).toInt = (u19.1 0 304).toInt := congrArg Int32.toInt ((fr23.2.1 304 (by decide)).trans (show u19.1 0 304 = (u19.1 0 304) by rfl))
      have q35 : (u28.1 0 304).toInt = (u24.1 0 304).toInt := congrArg Int32.toInt ((fr27.2.1 304 (by decide)).trans (show u24.1 0 304 = (u24.1 0 304) by rfl))
      have q36 : (u32.1 0 304).toInt = (u28.1 0 304).toInt := congrArg Int32.toInt ((fr31.2.1 304 (by decide)).trans (show u28.1 0 304 = (u28.1 0 304) by rfl))
      have q37 : (u24.1 0 373).toInt = (u19.1 0 373).toInt := congrArg Int32.toInt ((fr23.2.1 373 (by decide)).trans (show u19.1 0 373 = (u19.1 0 373) by rfl))
      have q38 : (u28.1 0 373).toInt = (u24.1 0 373).toInt := congrArg Int32.toInt ((fr27.2.1 373 (by decide)).trans (show u24.1 0 373 = (u24.1 0 373) by rfl))
      have q39 : (u32.1 0 373).toInt = (u28.1 0 373).toInt := congrArg Int32.toInt ((fr31.2.1 373 (by decide)).trans (show u28.1 0 373 = (u28.1 0 373) by rfl))
      refine W.sz (fun hz9 => ?_)
      refine czx_v (rx_Vk (n := 1) (As := [.int 36]) (rest := []) hx hb hml hown ht hKK hFx hP hD hS hA (c_x_X9_expect l dC dI cI cB cZ cJ cR tb H.size ad pr N L1 L2 u32 (36 : Int32) ps (show 0 ≤ (u32.1 0 304).toInt ∧ (u32.1 0 304).toInt ≤ 1503 from (om_303b0e9f26 z304 q13 q21 q34 q35 q36)) (show 0 ≤ (u32.1 0 373).toInt ∧ (u32.1 0 373).toInt ≤ 4000 from (om_d59e6e0f1e z373 q14 q22 q37 q38 q39)) (show pr ps = ad 908 from hps) (show (u32.1 0 300) = ps from (Eq.trans (fr31.2.1 300 (by decide)) (Eq.trans (fr27.2.1 300 (by decide)) (Eq.trans (fr23.2.1 300 (by decide)) (Eq.trans (fr18.2.1 300 (by decide)) (Eq.trans (fr10.2.1 300 (by decide)) es300)))))) (show l.stackTraces = false from hst)) tw_526 tw_580 (by decide +kernel) rfl rfl ⟨Nat.le_of_ble_eq_true rfl, Nat.le_of_ble_eq_true rfl⟩ (List.range (cW ad pr N cI cR L1 L2 u32).length) (rg_map _) (nd_range _) 0 rfl rfl rfl rfl hl.1 rfl (Nat.le_of_ble_eq_true rfl) dX5_globalItem_147 ⟨Nat.le_of_ble_eq_true rfl, Nat.le_of_ble_eq_true rfl⟩) hP hD hS hA (fun u9 ce9 q9 H locs hx9 hP hD hS hc9 hv9 hf9 => ?_) (fun u41 H locs hw40 hP hD hS hz8 => ?_)
      · exact vx_out (fun x h9 => (hnt x h9).elim) hlocks hc9 hv9 hf9 (fun t9 ht9 hv8 => ⟨u9, ⟨FC.tr (FC.tr (FC.tr (FC.tr (FC.tr (FC.tr (FC.rf _) (FC.up fr10 (by decide) (by decide))) (FC.up fr18 (by decide) (by decide))) (FC.up fr23 (by decide) (by decide))) (FC.up fr27 (by decide) (by decide))) (FC.up fr31 (by decide) (by decide))) hx9.1, hx9.2⟩, ⟨rfl, by rw [ht9]; exact hP, hD⟩, hS.F ht9⟩) hS.2.2 (Nat.le_refl _) (Nat.le_refl _)
      refine W.shrink (hz8.trans hz9) ?_
      have fr40 := hw40
      refine lv_aload_n hx hb dX5_globalItem_150 rfl (lv_at hl 3 rfl) ?_
      refine va_get (D := (dC, dI)) (ci := 8) (fs := oF_X5 ad pr u41) (v := .ref (pr (u41.1 0 327))) (C := RX5) (T := TX5) (N := 7) hx hb ht itX5 hown hK hP 3 rfl rfl 0 (by decide) (ht _ tw_588) (fun _ h9 => h9) rfl dX5_globalItem_151 ?_
      refine lv_iload_n hx hb dX5_globalItem_154 rfl (lv_at hl 2 rfl) ?_
      refine lv_iconst (v := 1) hx hb dX5_globalItem_155 (by decide) ?_
      refine lv_iadd hx hb dX5_globalItem_156 ?_
      refine W.eq (g2 := F0 m 157 ls [.int ((v.1 0 377) + (1 : Int32)), .ref (ad 908)]) (by rw [show pr (u41.1 0 327) = (ad 908) from (by rw [show (u41.1 0 327) = ps from (Eq.trans (fr40.2.1 327 (by decide)) (Eq.trans (fr31.2.1 327 (by decide)) (Eq.trans (fr27.2.1 327 (by decide)) (Eq.trans (fr23.2.1 327 (by decide)) (Eq.trans (fr18.2.1 327 (by decide)) (Eq.trans (fr10.2.1 327 (by decide)) es327))))))]; exact hps)]) ?_
      refine va_put (D := (dC, dI)) (ci := 10) (fs := oF_X7 ad pr u41) (v := .int ((v.1 0 377) + (1 : Int32))) (ty := .int) (C := RX7) (T := TX7) (N := 13) hx hb ht itX7 tyX7 tyX7_ok nmX7 hown hK hP hD hS 8 rfl rfl 5 (by decide) (ht _ tw_598) (fun _ h9 => h9) rfl (by decide +kernel) rfl rfl (Nat.le_of_ble_eq_true rfl) dX5_globalItem_157 (fun H locs hP hD hS => ?_)
      have hP := cP_ (cw_377 ad pr N cI cR L1 L2 u41 ((v.1 0 377) + (1 : Int32))) hP
      have hD := cD_ (cw_377 ad pr N cI cR L1 L2 u41 ((v.1 0 377) + (1 : Int32))) hD
      have q43 : (u11.1 0 306).toInt = (v.1 0 306).toInt := congrArg Int32.toInt ((fr10.2.1 306 (by decide)).trans (show v.1 0 306 = (v.1 0 306) by rfl))
      have q44 : (u19.1 0 306).toInt = (u11.1 0 306).toInt := congrArg Int32.toInt ((fr18.2.1 306 (by decide)).trans (show u11.1 0 306 = (u11.1 0 306) by rfl))
      have q45 : (u24.1 0 306).toInt = (u19.1 0 306).toInt := congrArg Int32.toInt ((fr23.2.1 306 (by decide)).trans (show u19.1 0 306 = (u19.1 0 306) by rfl))
      have q46 : (u28.1 0 306).toInt = (u24.1 0 306).toInt := congrArg Int32.toInt ((fr27.2.1 306 (by decide)).trans (show u24.1 0 306 = (u24.1 0 306) by rfl))
      have q47 : (u32.1 0 306).toInt = (u28.1 0 306).toInt := congrArg Int32.toInt ((fr31.2.1 306 (by decide)).trans (show u28.1 0 306 = (u28.1 0 306) by rfl))
      have q48 : (u41.1 0 306).toInt = (u32.1 0 306).toInt := congrArg Int32.toInt ((fr40.2.1 306 (by decide)).trans (show u32.1 0 306 = (u32.1 0 306) by rfl))
      refine W.sz (fun hz => ?_)
      refine vx_ret ?_
      refine W.widen (k := 1) (n := 6) (Nat.le_of_ble_eq_true rfl) (Nat.le_of_ble_eq_true rfl) ?_
      exact W.vret hx hb hr (fun t ht9 hW => ⟨⟨(wA u41 0 377 ((v.1 0 377) + (1 : Int32))), rfl, ⟨(FC.f (FC.tr (FC.tr (FC.tr (FC.tr (FC.tr (FC.tr (FC.rf _) (FC.up fr10 (by decide) (by decide))) (FC.up fr18 (by decide) (by decide))) (FC.up fr23 (by decide) (by decide))) (FC.up fr27 (by decide) (by decide))) (FC.up fr31 (by decide) (by decide))) (FC.up fr40 (by decide) (by decide))) ((v.1 0 377) + (1 : Int32)) (by decide)), (show 0 ≤ (u41.1 0 306).toInt ∧ (u41.1 0 306).toInt ≤ 40 from (om_a4a88028d4 z306 q43 q44 q45 q46 q47 q48))⟩, ⟨by rw [ht9]; exact hP, hD⟩, by rw [ht9]; exact hz⟩, hS.F ht9⟩) hS.2.2 dX5_globalItem_160
    · have z49 : pa.toInt = (36 : Int) := eq_z rfl (show (36 : Int32).toInt = (36 : Int) by decide) h4
      refine lv_iconst (v := 1) hx hb dX5_globalItem_30 (by decide) ?_
      refine lv_goto (tgt := 35) hx hb dX5_globalItem_31 (by decide) ?_
      refine lv_istore (lv' := [(4, .int 1), (3, .int 0), (2, .int (v.1 0 377)), (0, .ref (ad 903)), (1, .int pa)]) hx hb dX5_globalItem_35 hl (by decide) rfl (fun ls hl => ?_)
      refine lv_iload hx hb dX5_globalItem_37 (lv_at hl 0 rfl) ?_
      refine lv_if_eq (tgt := 63) hx hb dX5_globalItem_39 (by decide) (fun k50 => absurd k50 (by decide)) (fun _ => ?_)
      refine lv_iload_n hx hb dX5_globalItem_42 rfl (lv_at hl 2 rfl) ?_
      refine lv_bipush (v := 60) hx hb dX5_globalItem_43 (by decide) ?_
      refine lv_icmp_lt (tgt := 63) hx hb dX5_globalItem_45 (by decide) (fun h51 => ?_) (fun h51 => ?_)
      · have z52 : (v.1 0 377).toInt < (60 : Int) := lt_z rfl (show (60 : Int32).toInt = (60 : Int) by decide) h51
        refine lv_aload_n hx hb dX5_globalItem_63 rfl (lv_at hl 3 rfl) ?_
        refine va_get (D := (dC, dI)) (ci := 8) (fs := oF_X5 ad pr v) (v := .ref (pr (v.1 0 327))) (C := RX5) (T := TX5) (N := 7) hx hb ht itX5 hown hK hP 3 rfl rfl 0 (by decide) (ht _ tw_588) (fun _ h9 => h9) rfl dX5_globalItem_64 ?_
        refine lv_iload_n hx hb dX5_globalItem_67 rfl (lv_at hl 2 rfl) ?_
        refine lv_iconst (v := 4) hx hb dX5_globalItem_68 (by decide) ?_
        refine lv_aload_n hx hb dX5_globalItem_69 rfl (lv_at hl 3 rfl) ?_
        refine va_get (D := (dC, dI)) (ci := 8) (fs := oF_X5 ad pr v) (v := .ref (ad 900)) (C := RX5) (T := TX5) (N := 7) hx hb ht itX5 hown hK hP 3 rfl rfl 1 (by decide) (ht _ tw_571) (fun _ h9 => h9) rfl dX5_globalItem_70 ?_
        refine cu_i (rn_Vk (n := 0) (As := []) (rest := [.int 4, .int (v.1 0 377), .ref (pr (v.1 0 327))]) hx hb hml hown ht hKK hFx hP hD hS hA (c_x_X9_value l dC dI cI cB cZ cJ cR tb s.heap.size ad pr N L1 L2 v  (show 0 ≤ (v.1 0 304).toInt ∧ (v.1 0 304).toInt ≤ 1503 from (om_c99648273b z304))) tw_535 tw_574 (by decide +kernel) rfl rfl ⟨Nat.le_of_ble_eq_true rfl, Nat.le_of_ble_eq_true rfl⟩ (List.range (cW ad pr N cI cR L1 L2 v).length) (rg_map _) (nd_range _) 0 rfl rfl rfl rfl hl.1 rfl (Nat.le_of_ble_eq_true rfl) dX5_globalItem_73 ⟨Nat.le_of_ble_eq_true rfl, Nat.le_of_ble_eq_true rfl⟩) hP hD hS hA (fun r55 u54 H locs hw53 hP hD hS => ?_)
        obtain rfl := hw53
        refine W.widen (k := 0) (n := 0) (Nat.le_refl _) (Nat.le_refl _) ?_
        refine W.eq (g2 := F0 m 76 ls [.int r55, .int 4, .int (v.1 0 377), .ref (ad 908)]) (by rw [show pr (v.1 0 327) = (ad 908) from (by rw [show (v.1 0 327) = ps from es327]; exact hps)]) ?_
        refine cu_v (rn_Vk (n := 3) (As := [.int (v.1 0 377), .int 4, .int r55]) (rest := []) hx hb hml hown ht hKK hFx hP hD hS hA (c_x_X7_changeGlobal l dC dI cI cB cZ cJ cR tb H.size ad pr N L1 L2 v (v.1 0 377) (4 : Int32) r55 (show L1.length = 40 from hL1) (show L2.length = 60 from hL2) (show RP v from rp) (show (4 : Int) ≠ 0 ∨ r55.toInt ≤ 1000 from om_24e1f2eced)) tw_599 tw_600 (by decide +kernel) rfl rfl ⟨Nat.le_of_ble_eq_true rfl, Nat.le_of_ble_eq_true rfl⟩ (List.range (cW ad pr N cI cR L1 L2 v).length) (rg_map _) (nd_range _) 8 rfl rfl rfl rfl hl.1 rfl (Nat.le_of_ble_eq_true rfl) dX5_globalItem_76 ⟨Nat.le_of_ble_eq_true rfl, Nat.le_of_ble_eq_true rfl⟩) hP hD hS hA (fun u57 H locs hw56 hP hD hS => ?_)
        have fr56 := hw56
        refine W.widen (k := 0) (n := 0) (Nat.le_refl _) (Nat.le_refl _) ?_
        refine lv_aload_n hx hb dX5_globalItem_79 rfl (lv_at hl 3 rfl) ?_
        refine va_get (D := (dC, dI)) (ci := 8) (fs := oF_X5 ad pr u57) (v := .ref (pr (u57.1 0 327))) (C := RX5) (T := TX5) (N := 7) hx hb ht itX5 hown hK hP 3 rfl rfl 0 (by decide) (ht _ tw_588) (fun _ h9 => h9) rfl dX5_globalItem_80 ?_
        refine lv_iload_n hx hb dX5_globalItem_83 rfl (lv_at hl 2 rfl) ?_
        refine lv_iconst (v := 3) hx hb dX5_globalItem_84 (by decide) ?_
        refine lv_aload_n hx hb dX5_globalItem_85 rfl (lv_at hl 3 rfl) ?_
        refine va_get (D := (dC, dI)) (ci := 8) (fs := oF_X5 ad pr u57) (v := .ref (ad 900)) (C := RX5) (T := TX5) (N := 7) hx hb ht itX5 hown hK hP 3 rfl rfl 1 (by decide) (ht _ tw_571) (fun _ h9 => h9) rfl dX5_globalItem_86 ?_
        have q59 : (u57.1 0 304).toInt = (v.1 0 304).toInt := congrArg Int32.toInt ((fr56.2.1 304 (by decide)).trans (show v.1 0 304 = (v.1 0 304) by rfl))
        have q60 : (u57.1 0 373).toInt = (v.1 0 373).toInt := congrArg Int32.toInt ((fr56.2.1 373 (by decide)).trans (show v.1 0 373 = (v.1 0 373) by rfl))
        refine cu_i (rn_Vk (n := 0) (As := []) (rest := [.int 3, .int (v.1 0 377), .ref (pr (u57.1 0 327))]) hx hb hml hown ht hKK hFx hP hD hS hA (c_x_X9_place l dC dI cI cB cZ cJ cR tb H.size ad pr N L1 L2 u57 ps (show 0 ≤ (u57.1 0 304).toInt ∧ (u57.1 0 304).toInt ≤ 1503 from (om_73002589c1 z304 q59)) (show 0 ≤ (u57.1 0 373).toInt ∧ (u57.1 0 373).toInt ≤ 4000 from (om_9084c127ed z373 q60)) (show pr ps = ad 908 from hps) (show (u57.1 0 300) = ps from (Eq.trans (fr56.2.1 300 (by decide)) es300))) tw_457 tw_577 (by decide +kernel) rfl rfl ⟨Nat.le_of_ble_eq_true rfl, Nat.le_of_ble_eq_true rfl⟩ (List.range (cW ad pr N cI cR L1 L2 u57).length) (rg_map _) (nd_range _) 0 rfl rfl rfl rfl hl.1 rfl (Nat.le_of_ble_eq_true rfl) dX5_globalItem_89 ⟨Nat.le_of_ble_eq_true rfl, Nat.le_of_ble_eq_true rfl⟩) hP hD hS hA (fun r63 u62 H locs hw61 hP hD hS => ?_)
        obtain rfl := hw61
        refine W.widen (k := 0) (n := 0) (Nat.le_refl _) (Nat.le_refl _) ?_
        refine W.eq (g2 := F0 m 92 ls [.int r63, .int 3, .int (v.1 0 377), .ref (ad 908)]) (by rw [show pr (u57.1 0 327) = (ad 908) from (by rw [show (u57.1 0 327) = ps from (Eq.trans (fr56.2.1 327 (by decide)) es327)]; exact hps)]) ?_
        refine cu_v (rn_Vk (n := 3) (As := [.int (v.1 0 377), .int 3, .int r63]) (rest := []) hx hb hml hown ht hKK hFx hP hD hS hA (c_x_X7_changeGlobal l dC dI cI cB cZ cJ cR tb H.size ad pr N L1 L2 u57 (v.1 0 377) (3 : Int32) r63 (show L1.length = 40 from hL1) (show L2.length = 60 from hL2) (show RP u57 from ((show FC [305, 306, 377] [0] v u57 from (FC.tr (FC.rf _) (FC.up fr56 (by decide) (by decide)))).1 rp)) (show (3 : Int) ≠ 0 ∨ r63.toInt ≤ 1000 from om_4550d86e9b)) tw_599 tw_600 (by decide +kernel) rfl rfl ⟨Nat.le_of_ble_eq_true rfl, Nat.le_of_ble_eq_true rfl⟩ (List.range (cW ad pr N cI cR L1 L2 u57).length) (rg_map _) (nd_range _) 8 rfl rfl rfl rfl hl.1 rfl (Nat.le_of_ble_eq_true rfl) dX5_globalItem_92 ⟨Nat.le_of_ble_eq_true rfl, Nat.le_of_ble_eq_true rfl⟩) hP hD hS hA (fun u65 H locs hw64 hP hD hS => ?_)
        have fr64 := hw64
        refine W.widen (k := 0) (n := 0) (Nat.le_refl _) (Nat.le_refl _) ?_
        refine lv_aload_n hx hb dX5_globalItem_95 rfl (lv_at hl 3 rfl) ?_
        refine va_get (D := (dC, dI)) (ci := 8) (fs := oF_X5 ad pr u65) (v := .ref (ad 900)) (C := RX5) (T := TX5) (N := 7) hx hb ht itX5 hown hK hP 3 rfl rfl 1 (by decide) (ht _ tw_571) (fun _ h9 => h9) rfl dX5_globalItem_96 ?_
        have q67 : (u65.1 0 304).toInt = (u57.1 0 304).toInt := congrArg Int32.toInt ((fr64.2.1 304 (by decide)).trans (show u57.1 0 304 = (u57.1 0 304) by rfl))
        have q68 : (u65.1 0 373).toInt = (u57.1 0 373).toInt := congrArg Int32.toInt ((fr64.2.1 373 (by decide)).trans (show u57.1 0 373 = (u57.1 0 373) by rfl))
        refine W.sz (fun hz9 => ?_)
        refine czx_v (rx_Vk (n := 0) (As := []) (rest := []) hx hb hml hown ht hKK hFx hP hD hS hA (c_x_X9_take l dC dI cI cB cZ cJ cR tb H.size ad pr N L1 L2 u65 ps (show 0 ≤ (u65.1 0 304).toInt ∧ (u65.1 0 304).toInt ≤ 1503 from (om_dd87ee851a z304 q59 q67)) (show 0 ≤ (u65.1 0 373).toInt ∧ (u65.1 0 373).toInt ≤ 4000 from (om_03cd8767ac z373 q60 q68)) (show pr ps = ad 908 from hps) (show (u65.1 0 300) = ps from (Eq.trans (fr64.2.1 300 (by decide)) (Eq.trans (fr56.2.1 300 (by decide)) es300))) (show l.stackTraces = false from hst)) tw_539 tw_585 (by decide +kernel) rfl rfl ⟨Nat.le_of_ble_eq_true rfl, Nat.le_of_ble_eq_true rfl⟩ (List.range (cW ad pr N cI cR L1 L2 u65).length) (rg_map _) (nd_range _) 0 rfl rfl rfl rfl hl.1 rfl (Nat.le_of_ble_eq_true rfl) dX5_globalItem_99 ⟨Nat.le_of_ble_eq_true rfl, Nat.le_of_ble_eq_true rfl⟩) hP hD hS hA (fun u9 ce9 q9 H locs hx9 hP hD hS hc9 hv9 hf9 => ?_) (fun u70 H locs hw69 hP hD hS hz8 => ?_)
        · exact vx_out (fun x h9 => (hnt x h9).elim) hlocks hc9 hv9 hf9 (fun t9 ht9 hv8 => ⟨u9, ⟨FC.tr (FC.tr (FC.tr (FC.rf _) (FC.up fr56 (by decide) (by decide))) (FC.up fr64 (by decide) (by decide))) hx9.1, hx9.2⟩, ⟨rfl, by rw [ht9]; exact hP, hD⟩, hS.F ht9⟩) hS.2.2 (Nat.le_refl _) (Nat.le_refl _)
        refine W.shrink (hz8.trans hz9) ?_
        have fr69 := hw69
        refine lv_aload_n hx hb dX5_globalItem_102 rfl (lv_at hl 3 rfl) ?_
        refine va_get (D := (dC, dI)) (ci := 8) (fs := oF_X5 ad pr u70) (v := .ref (pr (u70.1 0 327))) (C := RX5) (T := TX5) (N := 7) hx hb ht itX5 hown hK hP 3 rfl rfl 0 (by decide) (ht _ tw_588) (fun _ h9 => h9) rfl dX5_globalItem_103 ?_
        refine lv_iload_n hx hb dX5_globalItem_106 rfl (lv_at hl 2 rfl) ?_
        refine lv_iconst (v := 2) hx hb dX5_globalItem_107 (by decide) ?_
        refine lv_iload_n hx hb dX5_globalItem_108 rfl (lv_at hl 1 rfl) ?_
        refine lv_if_eq (tgt := 116) hx hb dX5_globalItem_109 (by decide) (fun _ => ?_) (fun k72 => absurd k72 (by decide))
        refine lv_iconst (v := 0) hx hb dX5_globalItem_116 (by decide) ?_
        refine W.eq (g2 := F0 m 117 ls [.int 0, .int 2, .int (v.1 0 377), .ref (ad 908)]) (by rw [show pr (u70.1 0 327) = (ad 908) from (by rw [show (u70.1 0 327) = ps from (Eq.trans (fr69.2.1 327 (by decide)) (Eq.trans (fr64.2.1 327 (by decide)) (Eq.trans (fr56.2.1 327 (by decide)) es327)))]; exact hps)]) ?_
        refine cu_v (rn_Vk (n := 3) (As := [.int (v.1 0 377), .int 2, .int 0]) (rest := []) hx hb hml hown ht hKK hFx hP hD hS hA (c_x_X7_changeGlobal l dC dI cI cB cZ cJ cR tb H.size ad pr N L1 L2 u70 (v.1 0 377) (2 : Int32) (0 : Int32) (show L1.length = 40 from hL1) (show L2.length = 60 from hL2) (show RP u70 from ((show FC [305, 306, 377] [0] v u70 from (FC.tr (FC.tr (FC.tr (FC.rf _) (FC.up fr56 (by decide) (by decide))) (FC.up fr64 (by decide) (by decide))) (FC.up fr69 (by decide) (by decide)))).1 rp)) (show (2 : Int) ≠ 0 ∨ (0 : Int) ≤ 1000 from om_52043010a0)) tw_599 tw_600 (by decide +kernel) rfl rfl ⟨Nat.le_of_ble_eq_true rfl, Nat.le_of_ble_eq_true rfl⟩ (List.range (cW ad pr N cI cR L1 L2 u70).length) (rg_map _) (nd_range _) 8 rfl rfl rfl rfl hl.1 rfl (Nat.le_of_ble_eq_true rfl) dX5_globalItem_117 ⟨Nat.le_of_ble_eq_true rfl, Nat.le_of_ble_eq_true rfl⟩) hP hD hS hA (fun u74 H locs hw73 hP hD hS => ?_)
        have fr73 := hw73
        refine W.widen (k := 0) (n := 0) (Nat.le_refl _) (Nat.le_refl _) ?_
        refine lv_aload_n hx hb dX5_globalItem_120 rfl (lv_at hl 3 rfl) ?_
        refine va_get (D := (dC, dI)) (ci := 8) (fs := oF_X5 ad pr u74) (v := .ref (pr (u74.1 0 327))) (C := RX5) (T := TX5) (N := 7) hx hb ht itX5 hown hK hP 3 rfl rfl 0 (by decide) (ht _ tw_588) (fun _ h9 => h9) rfl dX5_globalItem_121 ?_
        refine lv_iload_n hx hb dX5_globalItem_124 rfl (lv_at hl 2 rfl) ?_
        refine lv_iconst (v := 0) hx hb dX5_globalItem_125 (by decide) ?_
        refine lv_iload_n hx hb dX5_globalItem_126 rfl (lv_at hl 1 rfl) ?_
        refine lv_if_eq (tgt := 137) hx hb dX5_globalItem_127 (by decide) (fun _ => ?_) (fun k76 => absurd k76 (by decide))
        refine lv_iconst (v := 1) hx hb dX5_globalItem_137 (by decide) ?_
        refine W.eq (g2 := F0 m 138 ls [.int 1, .int 0, .int (v.1 0 377), .ref (ad 908)]) (by rw [show pr (u74.1 0 327) = (ad 908) from (by rw [show (u74.1 0 327) = ps from (Eq.trans (fr73.2.1 327 (by decide)) (Eq.trans (fr69.2.1 327 (by decide)) (Eq.trans (fr64.2.1 327 (by decide)) (Eq.trans (fr56.2.1 327 (by decide)) es327))))]; exact hps)]) ?_
        refine cu_v (rn_Vk (n := 3) (As := [.int (v.1 0 377), .int 0, .int 1]) (rest := []) hx hb hml hown ht hKK hFx hP hD hS hA (c_x_X7_changeGlobal l dC dI cI cB cZ cJ cR tb H.size ad pr N L1 L2 u74 (v.1 0 377) (0 : Int32) (1 : Int32) (show L1.length = 40 from hL1) (show L2.length = 60 from hL2) (show RP u74 from ((show FC [305, 306, 377] [0] v u74 from (FC.tr (FC.tr (FC.tr (FC.tr (FC.rf _) (FC.up fr56 (by decide) (by decide))) (FC.up fr64 (by decide) (by decide))) (FC.up fr69 (by decide) (by decide))) (FC.up fr73 (by decide) (by decide)))).1 rp)) (show (0 : Int) ≠ 0 ∨ (1 : Int) ≤ 1000 from om_5a4c72df4e)) tw_599 tw_600 (by decide +kernel) rfl rfl ⟨Nat.le_of_ble_eq_true rfl, Nat.le_of_ble_eq_true rfl⟩ (List.range (cW ad pr N cI cR L1 L2 u74).length) (rg_map _) (nd_range _) 8 rfl rfl rfl rfl hl.1 rfl (Nat.le_of_ble_eq_true rfl) dX5_globalItem_138 ⟨Nat.le_of_ble_eq_true rfl, Nat.le_of_ble_eq_true rfl⟩) hP hD hS hA (fun u78 H locs hw77 hP hD hS => ?_)
        have fr77 := hw77
        refine W.widen (k := 0) (n := 0) (Nat.le_refl _) (Nat.le_refl _) ?_
        refine lv_aload_n hx hb dX5_globalItem_141 rfl (lv_at hl 3 rfl) ?_
        refine va_get (D := (dC, dI)) (ci := 8) (fs := oF_X5 ad pr u78) (v := .ref (ad 900)) (C := RX5) (T := TX5) (N := 7) hx hb ht itX5 hown hK hP 3 rfl rfl 1 (by decide) (ht _ tw_571) (fun _ h9 => h9) rfl dX5_globalItem_142 ?_
        refine lv_bipush (v := 36) hx hb dX5_globalItem_145 (by decide) ?_
        have q80 : (u70.1 0 304).toInt = (u65.1 0 304).toInt := congrArg Int32.toInt ((fr69.2.1 304 (by decide)).trans (show u65.1 0 304 = (u65.1 0 304) by rfl))
        have q81 : (u74.1 0 304).toInt = (u70.1 0 304).toInt := congrArg Int32.toInt ((fr73.2.1 304 (by decide)).trans (show u70.1 0 304 = (u70.1 0 304) by rfl))
        have q82 : (u78.1 0 304).toInt = (u74.1 0 304).toInt := congrArg Int32.toInt ((fr77.2.1 304 (by decide)).trans (show u74.1 0 304 = (u74.1 0 304) by rfl))
        have q83 : (u70.1 0 373).toInt = (u65.1 0 373).toInt := congrArg Int32.toInt ((fr69.2.1 373 (by decide)).trans (show u65.1 0 373 = (u65.1 0 373) by rfl))
        have q84 : (u74.1 0 373).toInt = (u70.1 0 373).toInt := congrArg Int32.toInt ((fr73.2.1 373 (by decide)).trans (show u70.1 0 373 = (u70.1 0 373) by rfl))
        have q85 : (u78.1 0 373).toInt = (u74.1 0 373).toInt := congrArg Int32.toInt ((fr77.2.1 373 (by decide)).trans (show u74.1 0 373 = (u74.1 0 373) by rfl))
        refine W.sz (fun hz9 => ?_)
        refine czx_v (rx_Vk (n := 1) (As := [.int 36]) (rest := []) hx hb hml hown ht hKK hFx hP hD hS hA (c_x_X9_expect l dC dI cI cB cZ cJ cR tb H.size ad pr N L1 L2 u78 (36 : Int32) ps (show 0 ≤ (u78.1 0 304).toInt ∧ (u78.1 0 304).toInt ≤ 1503 from (om_303b0e9f26 z304 q59 q67 q80 q81 q82)) (show 0 ≤ (u78.1 0 373).toInt ∧ (u78.1 0 373).toInt ≤ 4000 from (om_d59e6e0f1e z373 q60 q68 q83 q84 q85)) (show pr ps = ad 908 from hps) (show (u78.1 0 300) = ps from (Eq.trans (fr77.2.1 300 (by decide)) (Eq.trans (fr73.2.1 300 (by decide)) (Eq.trans (fr69.2.1 300 (by decide)) (Eq.trans (fr64.2.1 300 (by decide)) (Eq.trans (fr56.2.1 300 (by decide)) es300)))))) (show l.stackTraces = false from hst)) tw_526 tw_580 (by decide +kernel) rfl rfl ⟨Nat.le_of_ble_eq_true rfl, Nat.le_of_ble_eq_true rfl⟩ (List.range (cW ad pr N cI cR L1 L2 u78).length) (rg_map _) (nd_range _) 0 rfl rfl rfl rfl hl.1 rfl (Nat.le_of_ble_eq_true rfl) dX5_globalItem_147 ⟨Nat.le_of_ble_eq_true rfl, Nat.le_of_ble_eq_true rfl⟩) hP hD hS hA (fun u9 ce9 q9 H locs hx9 hP hD hS hc9 hv9 hf9 => ?_) (fun u87 H locs hw86 hP hD hS hz8 => ?_)
        · exact vx_out (fun x h9 => (hnt x h9).elim) hlocks hc9 hv9 hf9 (fun t9 ht9 hv8 => ⟨u9, ⟨FC.tr (FC.tr (FC.tr (FC.tr (FC.tr (FC.tr (FC.rf _) (FC.up fr56 (by decide) (by decide))) (FC.up fr64 (by decide) (by decide))) (FC.up fr69 (by decide) (by decide))) (FC.up fr73 (by decide) (by decide))) (FC.up fr77 (by decide) (by decide))) hx9.1, hx9.2⟩, ⟨rfl, by rw [ht9]; exact hP, hD⟩, hS.F ht9⟩) hS.2.2 (Nat.le_refl _) (Nat.le_refl _)
        refine W.shrink (hz8.trans hz9) ?_
        have fr86 := hw86
        refine lv_aload_n hx hb dX5_globalItem_150 rfl (lv_at hl 3 rfl) ?_
        refine va_get (D := (dC, dI)) (ci := 8) (fs := oF_X5 ad pr u87) (v := .ref (pr (u87.1 0 327))) (C := RX5) (T := TX5) (N := 7) hx hb ht itX5 hown hK hP 3 rfl rfl 0 (by decide) (ht _ tw_588) (fun _ h9 => h9) rfl dX5_globalItem_151 ?_
        refine lv_iload_n hx hb dX5_globalItem_154 rfl (lv_at hl 2 rfl) ?_
        refine lv_iconst (v := 1) hx hb dX5_globalItem_155 (by decide) ?_
        refine lv_iadd hx hb dX5_globalItem_156 ?_
        refine W.eq (g2 := F0 m 157 ls [.int ((v.1 0 377) + (1 : Int32)), .ref (ad 908)]) (by rw [show pr (u87.1 0 327) = (ad 908) from (by rw [show (u87.1 0 327) = ps from (Eq.trans (fr86.2.1 327 (by decide)) (Eq.trans (fr77.2.1 327 (by decide)) (Eq.trans (fr73.2.1 327 (by decide)) (Eq.trans (fr69.2.1 327 (by decide)) (Eq.trans (fr64.2.1 327 (by decide)) (Eq.trans (fr56.2.1 327 (by decide)) es327))))))]; exact hps)]) ?_
        refine va_put (D := (dC, dI)) (ci := 10) (fs := oF_X7 ad pr u87) (v := .int ((v.1 0 377) + (1 : Int32))) (ty := .int) (C := RX7) (T := TX7) (N := 13) hx hb ht itX7 tyX7 tyX7_ok nmX7 hown hK hP hD hS 8 rfl rfl 5 (by decide) (ht _ tw_598) (fun _ h9 => h9) rfl (by decide +kernel) rfl rfl (Nat.le_of_ble_eq_true rfl) dX5_globalItem_157 (fun H locs hP hD hS => ?_)
        have hP := cP_ (cw_377 ad pr N cI cR L1 L2 u87 ((v.1 0 377) + (1 : Int32))) hP
        have hD := cD_ (cw_377 ad pr N cI cR L1 L2 u87 ((v.1 0 377) + (1 : Int32))) hD
        have q89 : (u57.1 0 306).toInt = (v.1 0 306).toInt := congrArg Int32.toInt ((fr56.2.1 306 (by decide)).trans (show v.1 0 306 = (v.1 0 306) by rfl))
        have q90 : (u65.1 0 306).toInt = (u57.1 0 306).toInt := congrArg Int32.toInt ((fr64.2.1 306 (by decide)).trans (show u57.1 0 306 = (u57.1 0 306) by rfl))
        have q91 : (u70.1 0 306).toInt = (u65.1 0 306).toInt := congrArg Int32.toInt ((fr69.2.1 306 (by decide)).trans (show u65.1 0 306 = (u65.1 0 306) by rfl))
        have q92 : (u74.1 0 306).toInt = (u70.1 0 306).toInt := congrArg Int32.toInt ((fr73.2.1 306 (by decide)).trans (show u70.1 0 306 = (u70.1 0 306) by rfl))
        have q93 : (u78.1 0 306).toInt = (u74.1 0 306).toInt := congrArg Int32.toInt ((fr77.2.1 306 (by decide)).trans (show u74.1 0 306 = (u74.1 0 306) by rfl))
        have q94 : (u87.1 0 306).toInt = (u78.1 0 306).toInt := congrArg Int32.toInt ((fr86.2.1 306 (by decide)).trans (show u78.1 0 306 = (u78.1 0 306) by rfl))
        refine W.sz (fun hz => ?_)
        refine vx_ret ?_
        refine W.widen (k := 1) (n := 6) (Nat.le_of_ble_eq_true rfl) (Nat.le_of_ble_eq_true rfl) ?_
        exact W.vret hx hb hr (fun t ht9 hW => ⟨⟨(wA u87 0 377 ((v.1 0 377) + (1 : Int32))), rfl, ⟨(FC.f (FC.tr (FC.tr (FC.tr (FC.tr (FC.tr (FC.tr (FC.rf _) (FC.up fr56 (by decide) (by decide))) (FC.up fr64 (by decide) (by decide))) (FC.up fr69 (by decide) (by decide))) (FC.up fr73 (by decide) (by decide))) (FC.up fr77 (by decide) (by decide))) (FC.up fr86 (by decide) (by decide))) ((v.1 0 377) + (1 : Int32)) (by decide)), (show 0 ≤ (u87.1 0 306).toInt ∧ (u87.1 0 306).toInt ≤ 40 from (om_a4a88028d4 z306 q89 q90 q91 q92 q93 q94))⟩, ⟨by rw [ht9]; exact hP, hD⟩, by rw [ht9]; exact hz⟩, hS.F ht9⟩) hS.2.2 dX5_globalItem_160
      · have z95 : (60 : Int) ≤ (v.1 0 377).toInt := nlt_z rfl (show (60 : Int32).toInt = (60 : Int) by decide) h51
        refine lv_aload_n hx hb dX5_globalItem_48 rfl (lv_at hl 3 rfl) ?_
        refine va_get (D := (dC, dI)) (ci := 8) (fs := oF_X5 ad pr v) (v := .ref (ad 900)) (C := RX5) (T := TX5) (N := 7) hx hb ht itX5 hown hK hP 3 rfl rfl 1 (by decide) (ht _ tw_571) (fun _ h9 => h9) rfl dX5_globalItem_49 ?_
        refine lv_iconst (v := 5) hx hb dX5_globalItem_52 (by decide) ?_
        refine lv_aload_n hx hb dX5_globalItem_53 rfl (lv_at hl 3 rfl) ?_
        refine va_get (D := (dC, dI)) (ci := 8) (fs := oF_X5 ad pr v) (v := .ref (ad 900)) (C := RX5) (T := TX5) (N := 7) hx hb ht itX5 hown hK hP 3 rfl rfl 1 (by decide) (ht _ tw_571) (fun _ h9 => h9) rfl dX5_globalItem_54 ?_
        refine cu_i (rn_Vk (n := 0) (As := []) (rest := [.int 5, .ref (ad 900)]) hx hb hml hown ht hKK hFx hP hD hS hA (c_x_X9_place l dC dI cI cB cZ cJ cR tb s.heap.size ad pr N L1 L2 v ps (show 0 ≤ (v.1 0 304).toInt ∧ (v.1 0 304).toInt ≤ 1503 from (om_c99648273b z304)) (show 0 ≤ (v.1 0 373).toInt ∧ (v.1 0 373).toInt ≤ 4000 from (om_c74a68af25 z373)) (show pr ps = ad 908 from hps) (show (v.1 0 300) = ps from es300)) tw_457 tw_577 (by decide +kernel) rfl rfl ⟨Nat.le_of_ble_eq_true rfl, Nat.le_of_ble_eq_true rfl⟩ (List.range (cW ad pr N cI cR L1 L2 v).length) (rg_map _) (nd_range _) 0 rfl rfl rfl rfl hl.1 rfl (Nat.le_of_ble_eq_true rfl) dX5_globalItem_57 ⟨Nat.le_of_ble_eq_true rfl, Nat.le_of_ble_eq_true rfl⟩) hP hD hS hA (fun r98 u97 H locs hw96 hP hD hS => ?_)
        obtain rfl := hw96
        refine W.widen (k := 0) (n := 0) (Nat.le_refl _) (Nat.le_refl _) ?_
        refine W.sz (fun hz9 => ?_)
        refine czx_v (rx_Vk (n := 2) (As := [.int 5, .int r98]) (rest := []) hx hb hml hown ht hKK hFx hP hD hS hA (c_x_X9_refuse l dC dI cI cB cZ cJ cR tb H.size ad pr N L1 L2 v (5 : Int32) r98 (show l.stackTraces = false from hst) (show (5 : Int) ≠ 0 from om_5e02973d50)) tw_459 tw_578 (by decide +kernel) rfl rfl ⟨Nat.le_of_ble_eq_true rfl, Nat.le_of_ble_eq_true rfl⟩ (List.range (cW ad pr N cI cR L1 L2 v).length) (rg_map _) (nd_range _) 0 rfl rfl rfl rfl hl.1 rfl (Nat.le_of_ble_eq_true rfl) dX5_globalItem_60 ⟨Nat.le_of_ble_eq_true rfl, Nat.le_of_ble_eq_true rfl⟩) hP hD hS hA (fun u9 ce9 q9 H locs hx9 hP hD hS hc9 hv9 hf9 => ?_) (fun u100 H locs hw99 hP hD hS hz8 => ?_)
        · exact vx_out (fun x h9 => (hnt x h9).elim) hlocks hc9 hv9 hf9 (fun t9 ht9 hv8 => ⟨u9, ⟨FC.tr (FC.rf _) hx9.1, hx9.2⟩, ⟨rfl, by rw [ht9]; exact hP, hD⟩, hS.F ht9⟩) hS.2.2 (Nat.le_refl _) (Nat.le_refl _)
        refine W.shrink (hz8.trans hz9) ?_
        obtain ⟨fr99, no99⟩ := hw99
        exact no99.elim
  · have z102 : pa.toInt = (34 : Int) := eq_z rfl (show (34 : Int32).toInt = (34 : Int) by decide) h1
    refine lv_iconst (v := 1) hx hb dX5_globalItem_14 (by decide) ?_
    refine lv_goto (tgt := 19) hx hb dX5_globalItem_15 (by decide) ?_
    refine lv_istore_n (lv' := [(3, .int 1), (2, .int (v.1 0 377)), (0, .ref (ad 903)), (1, .int pa)]) hx hb dX5_globalItem_19 rfl hl (by decide) rfl (fun ls hl => ?_)
    refine lv_iload_n hx hb dX5_globalItem_20 rfl (lv_at hl 0 rfl) ?_
    refine lv_if_ne (tgt := 30) hx hb dX5_globalItem_21 (by decide) (fun _ => ?_) (fun k103 => absurd k103 (by decide))
    refine lv_iconst (v := 1) hx hb dX5_globalItem_30 (by decide) ?_
    refine lv_goto (tgt := 35) hx hb dX5_globalItem_31 (by decide) ?_
    refine lv_istore (lv' := [(4, .int 1), (3, .int 1), (2, .int (v.1 0 377)), (0, .ref (ad 903)), (1, .int pa)]) hx hb dX5_globalItem_35 hl (by decide) rfl (fun ls hl => ?_)
    refine lv_iload hx hb dX5_globalItem_37 (lv_at hl 0 rfl) ?_
    refine lv_if_eq (tgt := 63) hx hb dX5_globalItem_39 (by decide) (fun k104 => absurd k104 (by decide)) (fun _ => ?_)
    refine lv_iload_n hx hb dX5_globalItem_42 rfl (lv_at hl 2 rfl) ?_
    refine lv_bipush (v := 60) hx hb dX5_globalItem_43 (by decide) ?_
    refine lv_icmp_lt (tgt := 63) hx hb dX5_globalItem_45 (by decide) (fun h105 => ?_) (fun h105 => ?_)
    · have z106 : (v.1 0 377).toInt < (60 : Int) := lt_z rfl (show (60 : Int32).toInt = (60 : Int) by decide) h105
      refine lv_aload_n hx hb dX5_globalItem_63 rfl (lv_at hl 3 rfl) ?_
      refine va_get (D := (dC, dI)) (ci := 8) (fs := oF_X5 ad pr v) (v := .ref (pr (v.1 0 327))) (C := RX5) (T := TX5) (N := 7) hx hb ht itX5 hown hK hP 3 rfl rfl 0 (by decide) (ht _ tw_588) (fun _ h9 => h9) rfl dX5_globalItem_64 ?_
      refine lv_iload_n hx hb dX5_globalItem_67 rfl (lv_at hl 2 rfl) ?_
      refine lv_iconst (v := 4) hx hb dX5_globalItem_68 (by decide) ?_
      refine lv_aload_n hx hb dX5_globalItem_69 rfl (lv_at hl 3 rfl) ?_
      refine va_get (D := (dC, dI)) (ci := 8) (fs := oF_X5 ad pr v) (v := .ref (ad 900)) (C := RX5) (T := TX5) (N := 7) hx hb ht itX5 hown hK hP 3 rfl rfl 1 (by decide) (ht _ tw_571) (fun _ h9 => h9) rfl dX5_globalItem_70 ?_
      refine cu_i (rn_Vk (n := 0) (As := []) (rest := [.int 4, .int (v.1 0 377), .ref (pr (v.1 0 327))]) hx hb hml hown ht hKK hFx hP hD hS hA (c_x_X9_value l dC dI cI cB cZ cJ cR tb s.heap.size ad pr N L1 L2 v  (show 0 ≤ (v.1 0 304).toInt ∧ (v.1 0 304).toInt ≤ 1503 from (om_c99648273b z304))) tw_535 tw_574 (by decide +kernel) rfl rfl ⟨Nat.le_of_ble_eq_true rfl, Nat.le_of_ble_eq_true rfl⟩ (List.range (cW ad pr N cI cR L1 L2 v).length) (rg_map _) (nd_range _) 0 rfl rfl rfl rfl hl.1 rfl (Nat.le_of_ble_eq_true rfl) dX5_globalItem_73 ⟨Nat.le_of_ble_eq_true rfl, Nat.le_of_ble_eq_true rfl⟩) hP hD hS hA (fun r109 u108 H locs hw107 hP hD hS => ?_)
      obtain rfl := hw107
      refine W.widen (k := 0) (n := 0) (Nat.le_refl _) (Nat.le_refl _) ?_
      refine W.eq (g2 := F0 m 76 ls [.int r109, .int 4, .int (v.1 0 377), .ref (ad 908)]) (by rw [show pr (v.1 0 327) = (ad 908) from (by rw [show (v.1 0 327) = ps from es327]; exact hps)]) ?_
      refine cu_v (rn_Vk (n := 3) (As := [.int (v.1 0 377), .int 4, .int r109]) (rest := []) hx hb hml hown ht hKK hFx hP hD hS hA (c_x_X7_changeGlobal l dC dI cI cB cZ cJ cR tb H.size ad pr N L1 L2 v (v.1 0 377) (4 : Int32) r109 (show L1.length = 40 from hL1) (show L2.length = 60 from hL2) (show RP v from rp) (show (4 : Int) ≠ 0 ∨ r109.toInt ≤ 1000 from om_24e1f2eced)) tw_599 tw_600 (by decide +kernel) rfl rfl ⟨Nat.le_of_ble_eq_true rfl, Nat.le_of_ble_eq_true rfl⟩ (List.range (cW ad pr N cI cR L1 L2 v).length) (rg_map _) (nd_range _) 8 rfl rfl rfl rfl hl.1 rfl (Nat.le_of_ble_eq_true rfl) dX5_globalItem_76 ⟨Nat.le_of_ble_eq_true rfl, Nat.le_of_ble_eq_true rfl⟩) hP hD hS hA (fun u111 H locs hw110 hP hD hS => ?_)
      have fr110 := hw110
      refine W.widen (k := 0) (n := 0) (Nat.le_refl _) (Nat.le_refl _) ?_
      refine lv_aload_n hx hb dX5_globalItem_79 rfl (lv_at hl 3 rfl) ?_
      refine va_get (D := (dC, dI)) (ci := 8) (fs := oF_X5 ad pr u111) (v := .ref (pr (u111.1 0 327))) (C := RX5) (T := TX5) (N := 7) hx hb ht itX5 hown hK hP 3 rfl rfl 0 (by decide) (ht _ tw_588) (fun _ h9 => h9) rfl dX5_globalItem_80 ?_
      refine lv_iload_n hx hb dX5_globalItem_83 rfl (lv_at hl 2 rfl) ?_
      refine lv_iconst (v := 3) hx hb dX5_globalItem_84 (by decide) ?_
      refine lv_aload_n hx hb dX5_globalItem_85 rfl (lv_at hl 3 rfl) ?_
      refine va_get (D := (dC, dI)) (ci := 8) (fs := oF_X5 ad pr u111) (v := .ref (ad 900)) (C := RX5) (T := TX5) (N := 7) hx hb ht itX5 hown hK hP 3 rfl rfl 1 (by decide) (ht _ tw_571) (fun _ h9 => h9) rfl dX5_globalItem_86 ?_
      have q113 : (u111.1 0 304).toInt = (v.1 0 304).toInt := congrArg Int32.toInt ((fr110.2.1 304 (by decide)).trans (show v.1 0 304 = (v.1 0 304) by rfl))
      have q114 : (u111.1 0 373).toInt = (v.1 0 373).toInt := congrArg Int32.toInt ((fr110.2.1 373 (by decide)).trans (show v.1 0 373 = (v.1 0 373) by rfl))
      refine cu_i (rn_Vk (n := 0) (As := []) (rest := [.int 3, .int (v.1 0 377), .ref (pr (u111.1 0 327))]) hx hb hml hown ht hKK hFx hP hD hS hA (c_x_X9_place l dC dI cI cB cZ cJ cR tb H.size ad pr N L1 L2 u111 ps (show 0 ≤ (u111.1 0 304).toInt ∧ (u111.1 0 304).toInt ≤ 1503 from (om_73002589c1 z304 q113)) (show 0 ≤ (u111.1 0 373).toInt ∧ (u111.1 0 373).toInt ≤ 4000 from (om_9084c127ed z373 q114)) (show pr ps = ad 908 from hps) (show (u111.1 0 300) = ps from (Eq.trans (fr110.2.1 300 (by decide)) es300))) tw_457 tw_577 (by decide +kernel) rfl rfl ⟨Nat.le_of_ble_eq_true rfl, Nat.le_of_ble_eq_true rfl⟩ (List.range (cW ad pr N cI cR L1 L2 u111).length) (rg_map _) (nd_range _) 0 rfl rfl rfl rfl hl.1 rfl (Nat.le_of_ble_eq_true rfl) dX5_globalItem_89 ⟨Nat.le_of_ble_eq_true rfl, Nat.le_of_ble_eq_true rfl⟩) hP hD hS hA (fun r117 u116 H locs hw115 hP hD hS => ?_)
      obtain rfl := hw115
      refine W.widen (k := 0) (n := 0) (Nat.le_refl _) (Nat.le_refl _) ?_
      refine W.eq (g2 := F0 m 92 ls [.int r117, .int 3, .int (v.1 0 377), .ref (ad 908)]) (by rw [show pr (u111.1 0 327) = (ad 908) from (by rw [show (u111.1 0 327) = ps from (Eq.trans (fr110.2.1 327 (by decide)) es327)]; exact hps)]) ?_
      refine cu_v (rn_Vk (n := 3) (As := [.int (v.1 0 377), .int 3, .int r117]) (rest := []) hx hb hml hown ht hKK hFx hP hD hS hA (c_x_X7_changeGlobal l dC dI cI cB cZ cJ cR tb H.size ad pr N L1 L2 u111 (v.1 0 377) (3 : Int32) r117 (show L1.length = 40 from hL1) (show L2.length = 60 from hL2) (show RP u111 from ((show FC [305, 306, 377] [0] v u111 from (FC.tr (FC.rf _) (FC.up fr110 (by decide) (by decide)))).1 rp)) (show (3 : Int) ≠ 0 ∨ r117.toInt ≤ 1000 from om_4550d86e9b)) tw_599 tw_600 (by decide +kernel) rfl rfl ⟨Nat.le_of_ble_eq_true rfl, Nat.le_of_ble_eq_true rfl⟩ (List.range (cW ad pr N cI cR L1 L2 u111).length) (rg_map _) (nd_range _) 8 rfl rfl rfl rfl hl.1 rfl (Nat.le_of_ble_eq_true rfl) dX5_globalItem_92 ⟨Nat.le_of_ble_eq_true rfl, Nat.le_of_ble_eq_true rfl⟩) hP hD hS hA (fun u119 H locs hw118 hP hD hS => ?_)
      have fr118 := hw118
      refine W.widen (k := 0) (n := 0) (Nat.le_refl _) (Nat.le_refl _) ?_
      refine lv_aload_n hx hb dX5_globalItem_95 rfl (lv_at hl 3 rfl) ?_
      refine va_get (D := (dC, dI)) (ci := 8) (fs := oF_X5 ad pr u119) (v := .ref (ad 900)) (C := RX5) (T := TX5) (N := 7) hx hb ht itX5 hown hK hP 3 rfl rfl 1 (by decide) (ht _ tw_571) (fun _ h9 => h9) rfl dX5_globalItem_96 ?_
      have q121 : (u119.1 0 304).toInt = (u111.1 0 304).toInt := congrArg Int32.toInt ((fr118.2.1 304 (by decide)).trans (show u111.1 0 304 = (u111.1 0 304) by rfl))
      have q122 : (u119.1 0 373).toInt = (u111.1 0 373).toInt := congrArg Int32.toInt ((fr118.2.1 373 (by decide)).trans (show u111.1 0 373 = (u111.1 0 373) by rfl))
      refine W.sz (fun hz9 => ?_)
      refine czx_v (rx_Vk (n := 0) (As := []) (rest := []) hx hb hml hown ht hKK hFx hP hD hS hA (c_x_X9_take l dC dI cI cB cZ cJ cR tb H.size ad pr N L1 L2 u119 ps (show 0 ≤ (u119.1 0 304).toInt ∧ (u119.1 0 304).toInt ≤ 1503 from (om_dd87ee851a z304 q113 q121)) (show 0 ≤ (u119.1 0 373).toInt ∧ (u119.1 0 373).toInt ≤ 4000 from (om_03cd8767ac z373 q114 q122)) (show pr ps = ad 908 from hps) (show (u119.1 0 300) = ps from (Eq.trans (fr118.2.1 300 (by decide)) (Eq.trans (fr110.2.1 300 (by decide)) es300))) (show l.stackTraces = false from hst)) tw_539 tw_585 (by decide +kernel) rfl rfl ⟨Nat.le_of_ble_eq_true rfl, Nat.le_of_ble_eq_true rfl⟩ (List.range (cW ad pr N cI cR L1 L2 u119).length) (rg_map _) (nd_range _) 0 rfl rfl rfl rfl hl.1 rfl (Nat.le_of_ble_eq_true rfl) dX5_globalItem_99 ⟨Nat.le_of_ble_eq_true rfl, Nat.le_of_ble_eq_true rfl⟩) hP hD hS hA (fun u9 ce9 q9 H locs hx9 hP hD hS hc9 hv9 hf9 => ?_) (fun u124 H locs hw123 hP hD hS hz8 => ?_)
      · exact vx_out (fun x h9 => (hnt x h9).elim) hlocks hc9 hv9 hf9 (fun t9 ht9 hv8 => ⟨u9, ⟨FC.tr (FC.tr (FC.tr (FC.rf _) (FC.up fr110 (by decide) (by decide))) (FC.up fr118 (by decide) (by decide))) hx9.1, hx9.2⟩, ⟨rfl, by rw [ht9]; exact hP, hD⟩, hS.F ht9⟩) hS.2.2 (Nat.le_refl _) (Nat.le_refl _)
      refine W.shrink (hz8.trans hz9) ?_
      have fr123 := hw123
      refine lv_aload_n hx hb dX5_globalItem_102 rfl (lv_at hl 3 rfl) ?_
      refine va_get (D := (dC, dI)) (ci := 8) (fs := oF_X5 ad pr u124) (v := .ref (pr (u124.1 0 327))) (C := RX5) (T := TX5) (N := 7) hx hb ht itX5 hown hK hP 3 rfl rfl 0 (by decide) (ht _ tw_588) (fun _ h9 => h9) rfl dX5_globalItem_103 ?_
      refine lv_iload_n hx hb dX5_globalItem_106 rfl (lv_at hl 2 rfl) ?_
      refine lv_iconst (v := 2) hx hb dX5_globalItem_107 (by decide) ?_
      refine lv_iload_n hx hb dX5_globalItem_108 rfl (lv_at hl 1 rfl) ?_
      refine lv_if_eq (tgt := 116) hx hb dX5_globalItem_109 (by decide) (fun k126 => absurd k126 (by decide)) (fun _ => ?_)
      refine lv_iconst (v := 1) hx hb dX5_globalItem_112 (by decide) ?_
      refine lv_goto (tgt := 117) hx hb dX5_globalItem_113 (by decide) ?_
      refine W.eq (g2 := F0 m 117 ls [.int 1, .int 2, .int (v.1 0 377), .ref (ad 908)]) (by rw [show pr (u124.1 0 327) = (ad 908) from (by rw [show (u124.1 0 327) = ps from (Eq.trans (fr123.2.1 327 (by decide)) (Eq.trans (fr118.2.1 327 (by decide)) (Eq.trans (fr110.2.1 327 (by decide)) es327)))]; exact hps)]) ?_
      refine cu_v (rn_Vk (n := 3) (As := [.int (v.1 0 377), .int 2, .int 1]) (rest := []) hx hb hml hown ht hKK hFx hP hD hS hA (c_x_X7_changeGlobal l dC dI cI cB cZ cJ cR tb H.size ad pr N L1 L2 u124 (v.1 0 377) (2 : Int32) (1 : Int32) (show L1.length = 40 from hL1) (show L2.length = 60 from hL2) (show RP u124 from ((show FC [305, 306, 377] [0] v u124 from (FC.tr (FC.tr (FC.tr (FC.rf _) (FC.up fr110 (by decide) (by decide))) (FC.up fr118 (by decide) (by decide))) (FC.up fr123 (by decide) (by decide)))).1 rp)) (show (2 : Int) ≠ 0 ∨ (1 : Int) ≤ 1000 from om_df9b2185da)) tw_599 tw_600 (by decide +kernel) rfl rfl ⟨Nat.le_of_ble_eq_true rfl, Nat.le_of_ble_eq_true rfl⟩ (List.range (cW ad pr N cI cR L1 L2 u124).length) (rg_map _) (nd_range _) 8 rfl rfl rfl rfl hl.1 rfl (Nat.le_of_ble_eq_true rfl) dX5_globalItem_117 ⟨Nat.le_of_ble_eq_true rfl, Nat.le_of_ble_eq_true rfl⟩) hP hD hS hA (fun u128 H locs hw127 hP hD hS => ?_)
      have fr127 := hw127
      refine W.widen (k := 0) (n := 0) (Nat.le_refl _) (Nat.le_refl _) ?_
      refine lv_aload_n hx hb dX5_globalItem_120 rfl (lv_at hl 3 rfl) ?_
      refine va_get (D := (dC, dI)) (ci := 8) (fs := oF_X5 ad pr u128) (v := .ref (pr (u128.1 0 327))) (C := RX5) (T := TX5) (N := 7) hx hb ht itX5 hown hK hP 3 rfl rfl 0 (by decide) (ht _ tw_588) (fun _ h9 => h9) rfl dX5_globalItem_121 ?_
      refine lv_iload_n hx hb dX5_globalItem_124 rfl (lv_at hl 2 rfl) ?_
      refine lv_iconst (v := 0) hx hb dX5_globalItem_125 (by decide) ?_
      refine lv_iload_n hx hb dX5_globalItem_126 rfl (lv_at hl 1 rfl) ?_
      refine lv_if_eq (tgt := 137) hx hb dX5_globalItem_127 (by decide) (fun k130 => absurd k130 (by decide)) (fun _ => ?_)
      refine lv_aload_n hx hb dX5_globalItem_130 rfl (lv_at hl 3 rfl) ?_
      have q131 : (u124.1 0 304).toInt = (u119.1 0 304).toInt := congrArg Int32.toInt ((fr123.2.1 304 (by decide)).trans (show u119.1 0 304 = (u119.1 0 304) by rfl))
      have q132 : (u128.1 0 304).toInt = (u124.1 0 304).toInt := congrArg Int32.toInt ((fr127.2.1 304 (by decide)).trans (show u124.1 0 304 = (u124.1 0 304) by rfl))
      have q133 : (u111.1 0 306).toInt = (v.1 0 306).toInt := congrArg Int32.toInt ((fr110.2.1 306 (by decide)).trans (show v.1 0 306 = (v.1 0 306) by rfl))
      have q134 : (u119.1 0 306).toInt = (u111.1 0 306).toInt := congrArg Int32.toInt ((fr118.2.1 306 (by decide)).trans (show u111.1 0 306 = (u111.1 0 306) by rfl))
      have q135 : (u124.1 0 306).toInt = (u119.1 0 306).toInt := congrArg Int32.toInt ((fr123.2.1 306 (by decide)).trans (show u119.1 0 306 = (u119.1 0 306) by rfl))
      have q136 : (u128.1 0 306).toInt = (u124.1 0 306).toInt := congrArg Int32.toInt ((fr127.2.1 306 (by decide)).trans (show u124.1 0 306 = (u124.1 0 306) by rfl))
      have q137 : (u124.1 0 373).toInt = (u119.1 0 373).toInt := congrArg Int32.toInt ((fr123.2.1 373 (by decide)).trans (show u119.1 0 373 = (u119.1 0 373) by rfl))
      have q138 : (u128.1 0 373).toInt = (u124.1 0 373).toInt := congrArg Int32.toInt ((fr127.2.1 373 (by decide)).trans (show u124.1 0 373 = (u124.1 0 373) by rfl))
      refine W.sz (fun hz9 => ?_)
      refine czx_i (rx_Vk (n := 0) (As := []) (rest := [.int 0, .int (v.1 0 377), .ref (pr (u128.1 0 327))]) hx hb hml hown ht hKK hFx hP hD hS hA (c_x_X5_rowSize l dC dI cI cB cZ cJ cR tb H.size ad pr N L1 L2 u128 ps (show 0 ≤ (u128.1 0 304).toInt ∧ (u128.1 0 304).toInt ≤ 1503 from (om_8044691ca6 z304 q113 q121 q131 q132)) (show 0 ≤ (u128.1 0 306).toInt ∧ (u128.1 0 306).toInt ≤ 40 from (om_ca678151ea z306 q133 q134 q135 q136)) (show 0 ≤ (u128.1 0 373).toInt ∧ (u128.1 0 373).toInt ≤ 4000 from (om_fdcbb58227 z373 q114 q122 q137 q138)) (show pr ps = ad 908 from hps) (show (u128.1 0 300) = ps from (Eq.trans (fr127.2.1 300 (by decide)) (Eq.trans (fr123.2.1 300 (by decide)) (Eq.trans (fr118.2.1 300 (by decide)) (Eq.trans (fr110.2.1 300 (by decide)) es300))))) (show l.stackTraces = false from hst)) tw_601 tw_602 (by decide +kernel) rfl rfl ⟨Nat.le_of_ble_eq_true rfl, Nat.le_of_ble_eq_true rfl⟩ (List.range (cW ad pr N cI cR L1 L2 u128).length) (rg_map _) (nd_range _) 3 rfl rfl rfl rfl hl.1 rfl (Nat.le_of_ble_eq_true rfl) dX5_globalItem_131 ⟨Nat.le_of_ble_eq_true rfl, Nat.le_of_ble_eq_true rfl⟩) hP hD hS hA (fun u9 ce9 q9 H locs hx9 hP hD hS hc9 hv9 hf9 => ?_) (fun r141 u140 H locs hw139 hP hD hS hz8 => ?_)
      · exact vx_out (fun x h9 => (hnt x h9).elim) hlocks hc9 hv9 hf9 (fun t9 ht9 hv8 => ⟨u9, ⟨FC.tr (FC.tr (FC.tr (FC.tr (FC.tr (FC.rf _) (FC.up fr110 (by decide) (by decide))) (FC.up fr118 (by decide) (by decide))) (FC.up fr123 (by decide) (by decide))) (FC.up fr127 (by decide) (by decide))) hx9.1, hx9.2⟩, ⟨rfl, by rw [ht9]; exact hP, hD⟩, hS.F ht9⟩) hS.2.2 (Nat.le_refl _) (Nat.le_refl _)
      refine W.shrink (hz8.trans hz9) ?_
      obtain ⟨fr139, i306139, pr9139, po139⟩ := hw139
      have i306139 : 0 ≤ (u140.1 0 306).toInt ∧ (u140.1 0 306).toInt ≤ 40 := i306139
      have pr9139 : 1 ≤ r141.toInt ∧ r141.toInt ≤ 1000 := pr9139
      have po139 : (u140.1 0 306).toInt = (u128.1 0 306).toInt := po139
      refine lv_goto (tgt := 138) hx hb dX5_globalItem_134 (by decide) ?_
      refine W.eq (g2 := F0 m 138 ls [.int r141, .int 0, .int (v.1 0 377), .ref (ad 908)]) (by rw [show pr (u128.1 0 327) = (ad 908) from (by rw [show (u128.1 0 327) = ps from (Eq.trans (fr127.2.1 327 (by decide)) (Eq.trans (fr123.2.1 327 (by decide)) (Eq.trans (fr118.2.1 327 (by decide)) (Eq.trans (fr110.2.1 327 (by decide)) es327))))]; exact hps)]) ?_
      refine cu_v (rn_Vk (n := 3) (As := [.int (v.1 0 377), .int 0, .int r141]) (rest := []) hx hb hml hown ht hKK hFx hP hD hS hA (c_x_X7_changeGlobal l dC dI cI cB cZ cJ cR tb H.size ad pr N L1 L2 u140 (v.1 0 377) (0 : Int32) r141 (show L1.length = 40 from hL1) (show L2.length = 60 from hL2) (show RP u140 from ((show FC [305, 306, 377] [0] v u140 from (FC.tr (FC.tr (FC.tr (FC.tr (FC.tr (FC.rf _) (FC.up fr110 (by decide) (by decide))) (FC.up fr118 (by decide) (by decide))) (FC.up fr123 (by decide) (by decide))) (FC.up fr127 (by decide) (by decide))) (FC.up fr139 (by decide) (by decide)))).1 rp)) (show (0 : Int) ≠ 0 ∨ r141.toInt ≤ 1000 from (om_ffc4732c03 pr9139))) tw_599 tw_600 (by decide +kernel) rfl rfl ⟨Nat.le_of_ble_eq_true rfl, Nat.le_of_ble_eq_true rfl⟩ (List.range (cW ad pr N cI cR L1 L2 u140).length) (rg_map _) (nd_range _) 8 rfl rfl rfl rfl hl.1 rfl (Nat.le_of_ble_eq_true rfl) dX5_globalItem_138 ⟨Nat.le_of_ble_eq_true rfl, Nat.le_of_ble_eq_true rfl⟩) hP hD hS hA (fun u143 H locs hw142 hP hD hS => ?_)
      have fr142 := hw142
      refine W.widen (k := 0) (n := 0) (Nat.le_refl _) (Nat.le_refl _) ?_
      refine lv_aload_n hx hb dX5_globalItem_141 rfl (lv_at hl 3 rfl) ?_
      refine va_get (D := (dC, dI)) (ci := 8) (fs := oF_X5 ad pr u143) (v := .ref (ad 900)) (C := RX5) (T := TX5) (N := 7) hx hb ht itX5 hown hK hP 3 rfl rfl 1 (by decide) (ht _ tw_571) (fun _ h9 => h9) rfl dX5_globalItem_142 ?_
      refine lv_bipush (v := 36) hx hb dX5_globalItem_145 (by decide) ?_
      have q145 : (u140.1 0 304).toInt = (u128.1 0 304).toInt := congrArg Int32.toInt ((fr139.2.1 304 (by decide)).trans (show u128.1 0 304 = (u128.1 0 304) by rfl))
      have q146 : (u143.1 0 304).toInt = (u140.1 0 304).toInt := congrArg Int32.toInt ((fr142.2.1 304 (by decide)).trans (show u140.1 0 304 = (u140.1 0 304) by rfl))
      have q147 : (u140.1 0 373).toInt = (u128.1 0 373).toInt := congrArg Int32.toInt ((fr139.2.1 373 (by decide)).trans (show u128.1 0 373 = (u128.1 0 373) by rfl))
      have q148 : (u143.1 0 373).toInt = (u140.1 0 373).toInt := congrArg Int32.toInt ((fr142.2.1 373 (by decide)).trans (show u140.1 0 373 = (u140.1 0 373) by rfl))
      refine W.sz (fun hz9 => ?_)
      refine czx_v (rx_Vk (n := 1) (As := [.int 36]) (rest := []) hx hb hml hown ht hKK hFx hP hD hS hA (c_x_X9_expect l dC dI cI cB cZ cJ cR tb H.size ad pr N L1 L2 u143 (36 : Int32) ps (show 0 ≤ (u143.1 0 304).toInt ∧ (u143.1 0 304).toInt ≤ 1503 from (om_1a945f4049 z304 q113 q121 q131 q132 q145 q146)) (show 0 ≤ (u143.1 0 373).toInt ∧ (u143.1 0 373).toInt ≤ 4000 from (om_1de556205c z373 q114 q122 q137 q138 q147 q148)) (show pr ps = ad 908 from hps) (show (u143.1 0 300) = ps from (Eq.trans (fr142.2.1 300 (by decide)) (Eq.trans (fr139.2.1 300 (by decide)) (Eq.trans (fr127.2.1 300 (by decide)) (Eq.trans (fr123.2.1 300 (by decide)) (Eq.trans (fr118.2.1 300 (by decide)) (Eq.trans (fr110.2.1 300 (by decide)) es300))))))) (show l.stackTraces = false from hst)) tw_526 tw_580 (by decide +kernel) rfl rfl ⟨Nat.le_of_ble_eq_true rfl, Nat.le_of_ble_eq_true rfl⟩ (List.range (cW ad pr N cI cR L1 L2 u143).length) (rg_map _) (nd_range _) 0 rfl rfl rfl rfl hl.1 rfl (Nat.le_of_ble_eq_true rfl) dX5_globalItem_147 ⟨Nat.le_of_ble_eq_true rfl, Nat.le_of_ble_eq_true rfl⟩) hP hD hS hA (fun u9 ce9 q9 H locs hx9 hP hD hS hc9 hv9 hf9 => ?_) (fun u150 H locs hw149 hP hD hS hz8 => ?_)
      · exact vx_out (fun x h9 => (hnt x h9).elim) hlocks hc9 hv9 hf9 (fun t9 ht9 hv8 => ⟨u9, ⟨FC.tr (FC.tr (FC.tr (FC.tr (FC.tr (FC.tr (FC.tr (FC.rf _) (FC.up fr110 (by decide) (by decide))) (FC.up fr118 (by decide) (by decide))) (FC.up fr123 (by decide) (by decide))) (FC.up fr127 (by decide) (by decide))) (FC.up fr139 (by decide) (by decide))) (FC.up fr142 (by decide) (by decide))) hx9.1, hx9.2⟩, ⟨rfl, by rw [ht9]; exact hP, hD⟩, hS.F ht9⟩) hS.2.2 (Nat.le_refl _) (Nat.le_refl _)
      refine W.shrink (hz8.trans hz9) ?_
      have fr149 := hw149
      refine lv_aload_n hx hb dX5_globalItem_150 rfl (lv_at hl 3 rfl) ?_
      refine va_get (D := (dC, dI)) (ci := 8) (fs := oF_X5 ad pr u150) (v := .ref (pr (u150.1 0 327))) (C := RX5) (T := TX5) (N := 7) hx hb ht itX5 hown hK hP 3 rfl rfl 0 (by decide) (ht _ tw_588) (fun _ h9 => h9) rfl dX5_globalItem_151 ?_
      refine lv_iload_n hx hb dX5_globalItem_154 rfl (lv_at hl 2 rfl) ?_
      refine lv_iconst (v := 1) hx hb dX5_globalItem_155 (by decide) ?_
      refine lv_iadd hx hb dX5_globalItem_156 ?_
      refine W.eq (g2 := F0 m 157 ls [.int ((v.1 0 377) + (1 : Int32)), .ref (ad 908)]) (by rw [show pr (u150.1 0 327) = (ad 908) from (by rw [show (u150.1 0 327) = ps from (Eq.trans (fr149.2.1 327 (by decide)) (Eq.trans (fr142.2.1 327 (by decide)) (Eq.trans (fr139.2.1 327 (by decide)) (Eq.trans (fr127.2.1 327 (by decide)) (Eq.trans (fr123.2.1 327 (by decide)) (Eq.trans (fr118.2.1 327 (by decide)) (Eq.trans (fr110.2.1 327 (by decide)) es327)))))))]; exact hps)]) ?_
      refine va_put (D := (dC, dI)) (ci := 10) (fs := oF_X7 ad pr u150) (v := .int ((v.1 0 377) + (1 : Int32))) (ty := .int) (C := RX7) (T := TX7) (N := 13) hx hb ht itX7 tyX7 tyX7_ok nmX7 hown hK hP hD hS 8 rfl rfl 5 (by decide) (ht _ tw_598) (fun _ h9 => h9) rfl (by decide +kernel) rfl rfl (Nat.le_of_ble_eq_true rfl) dX5_globalItem_157 (fun H locs hP hD hS => ?_)
      have hP := cP_ (cw_377 ad pr N cI cR L1 L2 u150 ((v.1 0 377) + (1 : Int32))) hP
      have hD := cD_ (cw_377 ad pr N cI cR L1 L2 u150 ((v.1 0 377) + (1 : Int32))) hD
      have q152 : (u143.1 0 306).toInt = (u140.1 0 306).toInt := congrArg Int32.toInt ((fr142.2.1 306 (by decide)).trans (show u140.1 0 306 = (u140.1 0 306) by rfl))
      have q153 : (u150.1 0 306).toInt = (u143.1 0 306).toInt := congrArg Int32.toInt ((fr149.2.1 306 (by decide)).trans (show u143.1 0 306 = (u143.1 0 306) by rfl))
      refine W.sz (fun hz => ?_)
      refine vx_ret ?_
      refine W.widen (k := 1) (n := 6) (Nat.le_of_ble_eq_true rfl) (Nat.le_of_ble_eq_true rfl) ?_
      exact W.vret hx hb hr (fun t ht9 hW => ⟨⟨(wA u150 0 377 ((v.1 0 377) + (1 : Int32))), rfl, ⟨(FC.f (FC.tr (FC.tr (FC.tr (FC.tr (FC.tr (FC.tr (FC.tr (FC.rf _) (FC.up fr110 (by decide) (by decide))) (FC.up fr118 (by decide) (by decide))) (FC.up fr123 (by decide) (by decide))) (FC.up fr127 (by decide) (by decide))) (FC.up fr139 (by decide) (by decide))) (FC.up fr142 (by decide) (by decide))) (FC.up fr149 (by decide) (by decide))) ((v.1 0 377) + (1 : Int32)) (by decide)), (show 0 ≤ (u150.1 0 306).toInt ∧ (u150.1 0 306).toInt ≤ 40 from (om_68f540929a i306139 q152 q153))⟩, ⟨by rw [ht9]; exact hP, hD⟩, by rw [ht9]; exact hz⟩, hS.F ht9⟩) hS.2.2 dX5_globalItem_160
    · have z154 : (60 : Int) ≤ (v.1 0 377).toInt := nlt_z rfl (show (60 : Int32).toInt = (60 : Int) by decide) h105
      refine lv_aload_n hx hb dX5_globalItem_48 rfl (lv_at hl 3 rfl) ?_
      refine va_get (D := (dC, dI)) (ci := 8) (fs := oF_X5 ad pr v) (v := .ref (ad 900)) (C := RX5) (T := TX5) (N := 7) hx hb ht itX5 hown hK hP 3 rfl rfl 1 (by decide) (ht _ tw_571) (fun _ h9 => h9) rfl dX5_globalItem_49 ?_
      refine lv_iconst (v := 5) hx hb dX5_globalItem_52 (by decide) ?_
      refine lv_aload_n hx hb dX5_globalItem_53 rfl (lv_at hl 3 rfl) ?_
      refine va_get (D := (dC, dI)) (ci := 8) (fs := oF_X5 ad pr v) (v := .ref (ad 900)) (C := RX5) (T := TX5) (N := 7) hx hb ht itX5 hown hK hP 3 rfl rfl 1 (by decide) (ht _ tw_571) (fun _ h9 => h9) rfl dX5_globalItem_54 ?_
      refine cu_i (rn_Vk (n := 0) (As := []) (rest := [.int 5, .ref (ad 900)]) hx hb hml hown ht hKK hFx hP hD hS hA (c_x_X9_place l dC dI cI cB cZ cJ cR tb s.heap.size ad pr N L1 L2 v ps (show 0 ≤ (v.1 0 304).toInt ∧ (v.1 0 304).toInt ≤ 1503 from (om_c99648273b z304)) (show 0 ≤ (v.1 0 373).toInt ∧ (v.1 0 373).toInt ≤ 4000 from (om_c74a68af25 z373)) (show pr ps = ad 908 from hps) (show (v.1 0 300) = ps from es300)) tw_457 tw_577 (by decide +kernel) rfl rfl ⟨Nat.le_of_ble_eq_true rfl, Nat.le_of_ble_eq_true rfl⟩ (List.range (cW ad pr N cI cR L1 L2 v).length) (rg_map _) (nd_range _) 0 rfl rfl rfl rfl hl.1 rfl (Nat.le_of_ble_eq_true rfl) dX5_globalItem_57 ⟨Nat.le_of_ble_eq_true rfl, Nat.le_of_ble_eq_true rfl⟩) hP hD hS hA (fun r157 u156 H locs hw155 hP hD hS => ?_)
      obtain rfl := hw155
      refine W.widen (k := 0) (n := 0) (Nat.le_refl _) (Nat.le_refl _) ?_
      refine W.sz (fun hz9 => ?_)
      refine czx_v (rx_Vk (n := 2) (As := [.int 5, .int r157]) (rest := []) hx hb hml hown ht hKK hFx hP hD hS hA (c_x_X9_refuse l dC dI cI cB cZ cJ cR tb H.size ad pr N L1 L2 v (5 : Int32) r157 (show l.stackTraces = false from hst) (show (5 : Int) ≠ 0 from om_5e02973d50)) tw_459 tw_578 (by decide +kernel) rfl rfl ⟨Nat.le_of_ble_eq_true rfl, Nat.le_of_ble_eq_true rfl⟩ (List.range (cW ad pr N cI cR L1 L2 v).length) (rg_map _) (nd_range _) 0 rfl rfl rfl rfl hl.1 rfl (Nat.le_of_ble_eq_true rfl) dX5_globalItem_60 ⟨Nat.le_of_ble_eq_true rfl, Nat.le_of_ble_eq_true rfl⟩) hP hD hS hA (fun u9 ce9 q9 H locs hx9 hP hD hS hc9 hv9 hf9 => ?_) (fun u159 H locs hw158 hP hD hS hz8 => ?_)
      · exact vx_out (fun x h9 => (hnt x h9).elim) hlocks hc9 hv9 hf9 (fun t9 ht9 hv8 => ⟨u9, ⟨FC.tr (FC.rf _) hx9.1, hx9.2⟩, ⟨rfl, by rw [ht9]; exact hP, hD⟩, hS.F ht9⟩) hS.2.2 (Nat.le_refl _) (Nat.le_refl _)
      refine W.shrink (hz8.trans hz9) ?_
      obtain ⟨fr158, no158⟩ := hw158
      exact no158.elim
theorem om_ffdd4ce25b {x0 x1 x2 : Int} (h0 : 0 ≤ x0 ∧ x0 ≤ 501) (h1 : 0 ≤ x1 ∧ x1 ≤ 501) (h2 : x2 = x0) (h3 : x1 < x2) : 0 ≤ x2 ∧ x2 ≤ 501 := by omega
theorem om_b17aeb9525 {x0 x1 x2 x3 : Int} (h0 : 0 ≤ x0 ∧ x0 ≤ 501) (h1 : 0 ≤ x1 ∧ x1 ≤ 501) (h2 : x2 = x0) (h3 : x1 < x2) (h4 : x3 = x1 + 1) : 0 ≤ x3 ∧ x3 ≤ 501 := by omega
theorem om_fa554d75e6 {x0 x1 : Int} (h0 : x0 = x1 + 1) : 501 - x0 < 501 - x1 := by omega
theorem om_c25a281886 {x0 x1 x2 : Int} (h0 : 0 ≤ x0 ∧ x0 ≤ 501) (h1 : x1 = x0) (h2 : x2 < x1) : 0 < 501 - x2 := by omega
theorem om_c65b99aeeb : (4 : Int) ≠ 0 := by omega
set_option maxHeartbeats 4000000 in
set_option maxRecDepth 100000 in
theorem c_x_X5_checkCalls (l : Launch) (dC : Nat → ClassId) (dI : Nat → Nat → Nat) (cI cB cZ cJ cR : ClassId) (tb : Nat → Nat) (sz : Nat) (ad : Nat → Nat) (pr : Int32 → Nat) (N : Nat) (L1 L2 : List Nat) (v : MS) (ps : Int32) (z321 : 0 ≤ (v.1 0 321).toInt ∧ (v.1 0 321).toInt ≤ 501) (hL1 : L1.length = 40) (hL2 : L2.length = 60) (rp : RP v) (hps : pr ps = ad 908) (es310 : (v.1 0 310) = ps) (hst : l.stackTraces = false) : vx_Met l yX5_checkCalls (Cond.code yX5_checkCalls cX5_checkCalls 2 none :: tw_W) ({ frames := 7, cells := 1, slots := 6, locals := 104 }) (pc_ (dC, dI) (tyS cI cB cZ cJ cR) tb (cW ad pr N cI cR L1 L2 v) sz [.ref (ad 903)]) (qvz_ (dC, dI) (cW ad pr N cI cR L1 L2 v) sz (fun (u : MS) => FC [] [] v u) (fun (u : MS) => (cW ad pr N cI cR L1 L2 u))) (qxc (dC, dI) (cW ad pr N cI cR L1 L2 v) sz (fun (u : MS) => (cW ad pr N cI cR L1 L2 u)) (fun (u : MS) => FC xfl xal v u ∧ (u.1 0 308).toInt ≠ 0)) 1 6 (va_A (cW ad pr N cI cR L1 L2 v) sz) := by
  refine vx_ofW (cc := cX5_checkCalls) (maxL := 2) (ret := none) (by decide) rfl ?_
  intro p e s m args below meth c s₁ B hml hnt hv
  obtain ⟨rfl, hsz, hP, hKK, hD0, hFx⟩ := hv
  have hK := hKK.1
  have hx := B.exec
  have hb := B.bytes
  have hr := B.returns
  have ht : ∀ w ∈ tw_W, w.before _ s = true := fun w h => atoms_spec (ws := Cond.code yX5_checkCalls cX5_checkCalls 2 none :: tw_W) B.pre w (List.mem_cons_of_mem _ h)
  have hown : s.vm.findClass RX5 = some m.cls := findClass_of_methodNamed B.named
  have hlocks := B.notSynchronized
  subst hsz
  unfold qvz_ qxc
  have hD := hD0.self (sz := s.heap.size)
  generalize hAe : va_A (cW ad pr N cI cR L1 L2 v) s.heap.size = A at hD hFx ⊢
  have hA : ∀ q : Nat, s.heap.size ≤ q → A q := fun q h => by rw [← hAe]; exact Or.inr h
  have hS : va_S A s.heap s.heap [] := va_S.rf
  have hl := lv_entry ([.ref (ad 903)]) (n := 2) (Nat.le_of_ble_eq_true rfl)
  rw [lg_entry_eq]
  generalize (lg_sl ([.ref (ad 903)]) ++ List.replicate (2 - (lg_sl ([.ref (ad 903)])).length) Slot.unset).toArray = ls at hl ⊢
  have hl : lv_has ls 2 [(0, .ref (ad 903))] := hl
  refine lv_iconst (v := 0) hx hb dX5_checkCalls_0 (by decide) ?_
  refine lv_istore_n (lv' := [(1, .int 0), (0, .ref (ad 903))]) hx hb dX5_checkCalls_1 rfl hl (by decide) rfl (fun ls hl => ?_)
  refine lpm_ (X := Int32 × MS) (P := (fun (x9 : Int32 × MS) (H : Heap) (locs : List Loc) (ls : Array Slot) => (FC [] [] v x9.2) ∧ (0 ≤ x9.1.toInt ∧ x9.1.toInt ≤ 501) ∧ va_P (dC, dI) vwCl (cW ad pr N cI cR L1 L2 x9.2) H ∧ va_D A (cW ad pr N cI cR L1 L2 x9.2) ∧ va_S A s.heap H locs ∧ lv_has ls 2 [(1, .int x9.1), (0, .ref (ad 903))])) (fun x9 => (501 - x9.1.toInt).toNat) 2 (fun x9 H locs ls hh ih2 => ?_) (0, v) _ _ _ ⟨(show FC [] [] v v from (FC.rf _)), (show 0 ≤ (0 : Int) ∧ (0 : Int) ≤ 501 from om_6f14a58586), hP, hD, hS, lv_sub hl [0, 1] rfl⟩
  obtain ⟨ka, w2⟩ := x9
  obtain ⟨fwL2, f1L2, hP, hD, hS, hl⟩ := hh
  have fwL2 : FC [] [] v w2 := fwL2
  have f1L2 : 0 ≤ ka.toInt ∧ ka.toInt ≤ 501 := f1L2
  have hP : va_P (dC, dI) vwCl (cW ad pr N cI cR L1 L2 w2) H := hP
  have hD : va_D A (cW ad pr N cI cR L1 L2 w2) := hD
  have hl : lv_has ls 2 [(1, .int ka), (0, .ref (ad 903))] := hl
  refine lv_iload_n hx hb dX5_checkCalls_2 rfl (lv_at hl 0 rfl) ?_
  refine lv_aload_n hx hb dX5_checkCalls_3 rfl (lv_at hl 1 rfl) ?_
  refine va_get (D := (dC, dI)) (ci := 8) (fs := oF_X5 ad pr w2) (v := .ref (ad 901)) (C := RX5) (T := TX5) (N := 7) hx hb ht itX5 hown hK hP 3 rfl rfl 2 (by decide) (ht _ tw_573) (fun _ h9 => h9) rfl dX5_checkCalls_4 ?_
  refine va_getN (D := (dC, dI)) (ci := 5) (fs := oF_X1 ad pr w2) (v := .int (w2.1 0 321)) (C := RX1) (T := TX1) (N := 12) hx hb ht itX1 hown hK hP 1 rfl rfl 11 (by decide) (hKK.fl2 7 rfl) (fun _ h9 => h9) rfl dX5_checkCalls_7 ?_
  refine lv_icmp_ge (tgt := 74) hx hb dX5_checkCalls_10 (by decide) (fun h1 => ?_) (fun h1 => ?_)
  · have z2 : (w2.1 0 321).toInt ≤ ka.toInt := le_z rfl rfl h1
    refine W.sz (fun hz => ?_)
    refine vx_ret ?_
    refine W.widen (k := 1) (n := 6) (Nat.le_of_ble_eq_true rfl) (Nat.le_of_ble_eq_true rfl) ?_
    exact W.vret hx hb hr (fun t ht9 hW => ⟨⟨w2, rfl, (FC.tr (FC.rf _) (FC.up fwL2 (by decide) (by decide))), ⟨by rw [ht9]; exact hP, hD⟩, by rw [ht9]; exact hz⟩, hS.F ht9⟩) hS.2.2 dX5_checkCalls_74
  · have z3 : ka.toInt < (w2.1 0 321).toInt := nle_z rfl rfl h1
    refine lv_aload_n hx hb dX5_checkCalls_13 rfl (lv_at hl 1 rfl) ?_
    refine va_get (D := (dC, dI)) (ci := 8) (fs := oF_X5 ad pr w2) (v := .ref (ad 901)) (C := RX5) (T := TX5) (N := 7) hx hb ht itX5 hown hK hP 3 rfl rfl 2 (by decide) (ht _ tw_573) (fun _ h9 => h9) rfl dX5_checkCalls_14 ?_
    refine lv_iload_n hx hb dX5_checkCalls_17 rfl (lv_at hl 0 rfl) ?_
    have q4 : (w2.1 0 321).toInt = (v.1 0 321).toInt := congrArg Int32.toInt ((fwL2.2.1 321 (by decide)).trans (show v.1 0 321 = (v.1 0 321) by rfl))
    refine cu_i (rn_Vk (n := 1) (As := [.int ka]) (rest := []) hx hb hml hown ht hKK hFx hP hD hS hA (c_x_X1_functionOfCall l dC dI cI cB cZ cJ cR tb H.size ad pr N L1 L2 w2 ka ps (show 0 ≤ (w2.1 0 321).toInt ∧ (w2.1 0 321).toInt ≤ 501 from (om_ffdd4ce25b z321 f1L2 q4 z3)) (show L1.length = 40 from hL1) (show L2.length = 60 from hL2) (show RP w2 from ((show FC [] [] v w2 from (FC.tr (FC.rf _) (FC.up fwL2 (by decide) (by decide)))).1 rp)) (show pr ps = ad 908 from hps) (show (w2.1 0 310) = ps from (Eq.trans (fwL2.2.1 310 (by decide)) es310))) tw_492 tw_603 (by decide +kernel) rfl rfl ⟨Nat.le_of_ble_eq_true rfl, Nat.le_of_ble_eq_true rfl⟩ (List.range (cW ad pr N cI cR L1 L2 w2).length) (rg_map _) (nd_range _) 1 rfl rfl rfl rfl hl.1 rfl (Nat.le_of_ble_eq_true rfl) dX5_checkCalls_18 ⟨Nat.le_of_ble_eq_true rfl, Nat.le_of_ble_eq_true rfl⟩) hP hD hS hA (fun r7 u6 H locs hw5 hP hD hS => ?_)
    obtain rfl := hw5
    refine W.widen (k := 0) (n := 0) (Nat.le_refl _) (Nat.le_refl _) ?_
    refine lv_iconst (v := -1) hx hb dX5_checkCalls_21 (by decide) ?_
    refine lv_icmp_ne (tgt := 41) hx hb dX5_checkCalls_22 (by decide) (fun h8 => ?_) (fun h8 => ?_)
    · have z9 : r7.toInt ≠ (-1 : Int) := ne_z rfl (show ((-1) : Int32).toInt = (-1 : Int) by decide) h8
      refine lv_aload_n hx hb dX5_checkCalls_41 rfl (lv_at hl 1 rfl) ?_
      refine va_get (D := (dC, dI)) (ci := 8) (fs := oF_X5 ad pr w2) (v := .ref (ad 901)) (C := RX5) (T := TX5) (N := 7) hx hb ht itX5 hown hK hP 3 rfl rfl 2 (by decide) (ht _ tw_573) (fun _ h9 => h9) rfl dX5_checkCalls_42 ?_
      refine lv_iload_n hx hb dX5_checkCalls_45 rfl (lv_at hl 0 rfl) ?_
      refine cu_i (rn_Vk (n := 1) (As := [.int ka]) (rest := []) hx hb hml hown ht hKK hFx hP hD hS hA (c_x_X1_hasItsArguments l dC dI cI cB cZ cJ cR tb H.size ad pr N L1 L2 w2 ka ps (show 0 ≤ (w2.1 0 321).toInt ∧ (w2.1 0 321).toInt ≤ 501 from (om_ffdd4ce25b z321 f1L2 q4 z3)) (show L1.length = 40 from hL1) (show L2.length = 60 from hL2) (show RP w2 from ((show FC [] [] v w2 from (FC.tr (FC.rf _) (FC.up fwL2 (by decide) (by decide)))).1 rp)) (show pr ps = ad 908 from hps) (show (w2.1 0 310) = ps from (Eq.trans (fwL2.2.1 310 (by decide)) es310))) tw_604 tw_605 (by decide +kernel) rfl rfl ⟨Nat.le_of_ble_eq_true rfl, Nat.le_of_ble_eq_true rfl⟩ (List.range (cW ad pr N cI cR L1 L2 w2).length) (rg_map _) (nd_range _) 1 rfl rfl rfl rfl hl.1 rfl (Nat.le_of_ble_eq_true rfl) dX5_checkCalls_46 ⟨Nat.le_of_ble_eq_true rfl, Nat.le_of_ble_eq_true rfl⟩) hP hD hS hA (fun r12 u11 H locs hw10 hP hD hS => ?_)
      obtain ⟨rfl, b10, e10⟩ := hw10
      have b10 : (r12 = 0 ∨ r12 = 1) := b10
      have e10 : (0 ≤ r12.toInt ∧ r12.toInt ≤ 1) := e10
      refine W.widen (k := 0) (n := 0) (Nat.le_refl _) (Nat.le_refl _) ?_
      refine lv_if_ne (tgt := 68) hx hb dX5_checkCalls_49 (by decide) (fun h13 => ?_) (fun h13 => ?_)
      · have z14 : r12.toInt ≠ (0 : Int) := ne_z rfl (show (0 : Int32).toInt = (0 : Int) by decide) h13
        refine lv_iinc (v := (ka + (1 : Int32))) (lv' := [(1, .int (ka + (1 : Int32))), (0, .ref (ad 903))]) hx hb dX5_checkCalls_68 hl (k := 0) rfl (rfl) (by decide) rfl (fun ls hl => ?_)
        have z15 : (ka + (1 : Int32)).toInt = ka.toInt + 1 := inc_lt z3
        refine lv_goto (tgt := 2) hx hb dX5_checkCalls_71 (by decide) ?_
        exact ih2 ((ka + (1 : Int32)), w2) _ _ _ (show (501 - (ka + (1 : Int32)).toInt).toNat < (501 - ka.toInt).toNat from tn_z (om_fa554d75e6 z15) (om_c25a281886 z321 q4 z3)) ⟨(show FC [] [] v w2 from (FC.tr (FC.rf _) (FC.up fwL2 (by decide) (by decide)))), (show 0 ≤ (ka + (1 : Int32)).toInt ∧ (ka + (1 : Int32)).toInt ≤ 501 from (om_b17aeb9525 z321 f1L2 q4 z3 z15)), hP, hD, hS, lv_sub hl [0, 1] rfl⟩
      · have z16 : r12.toInt = (0 : Int) := eq_z rfl (show (0 : Int32).toInt = (0 : Int) by decide) h13
        refine lv_aload_n hx hb dX5_checkCalls_52 rfl (lv_at hl 1 rfl) ?_
        refine va_get (D := (dC, dI)) (ci := 8) (fs := oF_X5 ad pr w2) (v := .ref (ad 900)) (C := RX5) (T := TX5) (N := 7) hx hb ht itX5 hown hK hP 3 rfl rfl 1 (by decide) (ht _ tw_571) (fun _ h9 => h9) rfl dX5_checkCalls_53 ?_
        refine lv_iconst (v := 4) hx hb dX5_checkCalls_56 (by decide) ?_
        refine lv_aload_n hx hb dX5_checkCalls_57 rfl (lv_at hl 1 rfl) ?_
        refine va_get (D := (dC, dI)) (ci := 8) (fs := oF_X5 ad pr w2) (v := .ref (ad 901)) (C := RX5) (T := TX5) (N := 7) hx hb ht itX5 hown hK hP 3 rfl rfl 2 (by decide) (ht _ tw_573) (fun _ h9 => h9) rfl dX5_checkCalls_58 ?_
        refine lv_iload_n hx hb dX5_checkCalls_61 rfl (lv_at hl 0 rfl) ?_
        refine cu_i (rn_Vk (n := 1) (As := [.int ka]) (rest := [.int 4, .ref (ad 900)]) hx hb hml hown ht hKK hFx hP hD hS hA (c_x_X1_placeOfCall l dC dI cI cB cZ cJ cR tb H.size ad pr N L1 L2 w2 ka (show 0 ≤ (w2.1 0 321).toInt ∧ (w2.1 0 321).toInt ≤ 501 from (om_ffdd4ce25b z321 f1L2 q4 z3))) tw_606 tw_607 (by decide +kernel) rfl rfl ⟨Nat.le_of_ble_eq_true rfl, Nat.le_of_ble_eq_true rfl⟩ (List.range (cW ad pr N cI cR L1 L2 w2).length) (rg_map _) (nd_range _) 1 rfl rfl rfl rfl hl.1 rfl (Nat.le_of_ble_eq_true rfl) dX5_checkCalls_62 ⟨Nat.le_of_ble_eq_true rfl, Nat.le_of_ble_eq_true rfl⟩) hP hD hS hA (fun r19 u18 H locs hw17 hP hD hS => ?_)
        obtain rfl := hw17
        refine W.widen (k := 0) (n := 0) (Nat.le_refl _) (Nat.le_refl _) ?_
        refine W.sz (fun hz9 => ?_)
        refine czx_v (rx_Vk (n := 2) (As := [.int 4, .int r19]) (rest := []) hx hb hml hown ht hKK hFx hP hD hS hA (c_x_X9_refuse l dC dI cI cB cZ cJ cR tb H.size ad pr N L1 L2 w2 (4 : Int32) r19 (show l.stackTraces = false from hst) (show (4 : Int) ≠ 0 from om_c65b99aeeb)) tw_459 tw_578 (by decide +kernel) rfl rfl ⟨Nat.le_of_ble_eq_true rfl, Nat.le_of_ble_eq_true rfl⟩ (List.range (cW ad pr N cI cR L1 L2 w2).length) (rg_map _) (nd_range _) 0 rfl rfl rfl rfl hl.1 rfl (Nat.le_of_ble_eq_true rfl) dX5_checkCalls_65 ⟨Nat.le_of_ble_eq_true rfl, Nat.le_of_ble_eq_true rfl⟩) hP hD hS hA (fun u9 ce9 q9 H locs hx9 hP hD hS hc9 hv9 hf9 => ?_) (fun u21 H locs hw20 hP hD hS hz8 => ?_)
        · exact vx_out (fun x h9 => (hnt x h9).elim) hlocks hc9 hv9 hf9 (fun t9 ht9 hv8 => ⟨u9, ⟨FC.tr (FC.tr (FC.rf _) (FC.up fwL2 (by decide) (by decide))) hx9.1, hx9.2⟩, ⟨rfl, by rw [ht9]; exact hP, hD⟩, hS.F ht9⟩) hS.2.2 (Nat.le_refl _) (Nat.le_refl _)
        refine W.shrink (hz8.trans hz9) ?_
        obtain ⟨fr20, no20⟩ := hw20
        have no20 : False := no20
        exact no20.elim
    · have z23 : r7.toInt = (-1 : Int) := eq_z rfl (show ((-1) : Int32).toInt = (-1 : Int) by decide) h8
      refine lv_aload_n hx hb dX5_checkCalls_25 rfl (lv_at hl 1 rfl) ?_
      refine va_get (D := (dC, dI)) (ci := 8) (fs := oF_X5 ad pr w2) (v := .ref (ad 900)) (C := RX5) (T := TX5) (N := 7) hx hb ht itX5 hown hK hP 3 rfl rfl 1 (by decide) (ht _ tw_571) (fun _ h9 => h9) rfl dX5_checkCalls_26 ?_
      refine lv_iconst (v := 3) hx hb dX5_checkCalls_29 (by decide) ?_
      refine lv_aload_n hx hb dX5_checkCalls_30 rfl (lv_at hl 1 rfl) ?_
      refine va_get (D := (dC, dI)) (ci := 8) (fs := oF_X5 ad pr w2) (v := .ref (ad 901)) (C := RX5) (T := TX5) (N := 7) hx hb ht itX5 hown hK hP 3 rfl rfl 2 (by decide) (ht _ tw_573) (fun _ h9 => h9) rfl dX5_checkCalls_31 ?_
      refine lv_iload_n hx hb dX5_checkCalls_34 rfl (lv_at hl 0 rfl) ?_
      refine cu_i (rn_Vk (n := 1) (As := [.int ka]) (rest := [.int 3, .ref (ad 900)]) hx hb hml hown ht hKK hFx hP hD hS hA (c_x_X1_placeOfCall l dC dI cI cB cZ cJ cR tb H.size ad pr N L1 L2 w2 ka (show 0 ≤ (w2.1 0 321).toInt ∧ (w2.1 0 321).toInt ≤ 501 from (om_ffdd4ce25b z321 f1L2 q4 z3))) tw_606 tw_607 (by decide +kernel) rfl rfl ⟨Nat.le_of_ble_eq_true rfl, Nat.le_of_ble_eq_true rfl⟩ (List.range (cW ad pr N cI cR L1 L2 w2).length) (rg_map _) (nd_range _) 1 rfl rfl rfl rfl hl.1 rfl (Nat.le_of_ble_eq_true rfl) dX5_checkCalls_35 ⟨Nat.le_of_ble_eq_true rfl, Nat.le_of_ble_eq_true rfl⟩) hP hD hS hA (fun r26 u25 H locs hw24 hP hD hS => ?_)
      obtain rfl := hw24
      refine W.widen (k := 0) (n := 0) (Nat.le_refl _) (Nat.le_refl _) ?_
      refine W.sz (fun hz9 => ?_)
      refine czx_v (rx_Vk (n := 2) (As := [.int 3, .int r26]) (rest := []) hx hb hml hown ht hKK hFx hP hD hS hA (c_x_X9_refuse l dC dI cI cB cZ cJ cR tb H.size ad pr N L1 L2 w2 (3 : Int32) r26 (show l.stackTraces = false from hst) (show (3 : Int) ≠ 0 from om_59881768ad)) tw_459 tw_578 (by decide +kernel) rfl rfl ⟨Nat.le_of_ble_eq_true rfl, Nat.le_of_ble_eq_true rfl⟩ (List.range (cW ad pr N cI cR L1 L2 w2).length) (rg_map _) (nd_range _) 0 rfl rfl rfl rfl hl.1 rfl (Nat.le_of_ble_eq_true rfl) dX5_checkCalls_38 ⟨Nat.le_of_ble_eq_true rfl, Nat.le_of_ble_eq_true rfl⟩) hP hD hS hA (fun u9 ce9 q9 H locs hx9 hP hD hS hc9 hv9 hf9 => ?_) (fun u28 H locs hw27 hP hD hS hz8 => ?_)
      · exact vx_out (fun x h9 => (hnt x h9).elim) hlocks hc9 hv9 hf9 (fun t9 ht9 hv8 => ⟨u9, ⟨FC.tr (FC.tr (FC.rf _) (FC.up fwL2 (by decide) (by decide))) hx9.1, hx9.2⟩, ⟨rfl, by rw [ht9]; exact hP, hD⟩, hS.F ht9⟩) hS.2.2 (Nat.le_refl _) (Nat.le_refl _)
      refine W.shrink (hz8.trans hz9) ?_
      obtain ⟨fr27, no27⟩ := hw27
      have no27 : False := no27
      exact no27.elim
