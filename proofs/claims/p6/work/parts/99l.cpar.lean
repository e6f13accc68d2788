theorem dX5_newName_0 : decode cX5_newName 0 = .ok (.aload_n 0, 1) := by decide +kernel
theorem dX5_newName_1 : decode cX5_newName 1 = .ok (.getfield 20, 3) := by decide +kernel
theorem tw_571 : (.fieldLink RX5 20 "PocketCompiler$Parser" "tokens" "LPocketCompiler$Tokens;" : Cond) ∈ tw_W := tw_in (t8_2 (List.mem_of_getElem? (i := 55) rfl)) rfl
theorem itX5 : ∀ w ∈ wsX50, w ∈ tw_W := tw_all (by decide +kernel)
theorem dX5_newName_4 : decode cX5_newName 4 = .ok (.iconst 2, 1) := by decide +kernel
theorem dX5_newName_5 : decode cX5_newName 5 = .ok (.invokevirtual 90, 3) := by decide +kernel
theorem tw_572 : ∀ w ∈ ([.methodLink RX5 90 yX9_need, .instanceMethod yX9_need, .selects RX9 yX9_need yX9_need, .initialized RX9] : List Cond), w ∈ tw_W := al_c (tw_in (t8_3 (List.mem_of_getElem? (i := 199) rfl)) rfl) (al_c (tw_in (t8_3 (List.mem_of_getElem? (i := 200) rfl)) rfl) (al_c (tw_in (t8_3 (List.mem_of_getElem? (i := 201) rfl)) rfl) (al_c (tw_in (t8_1 (List.mem_of_getElem? (i := 10) rfl)) rfl) al_n)))
theorem dX5_newName_8 : decode cX5_newName 8 = .ok (.aload_n 0, 1) := by decide +kernel
theorem dX5_newName_9 : decode cX5_newName 9 = .ok (.getfield 27, 3) := by decide +kernel
theorem tw_573 : (.fieldLink RX5 27 "PocketCompiler$Parser" "builder" "LPocketCompiler$Builder;" : Cond) ∈ tw_W := tw_in (t8_2 (List.mem_of_getElem? (i := 57) rfl)) rfl
theorem dX5_newName_12 : decode cX5_newName 12 = .ok (.aload_n 0, 1) := by decide +kernel
theorem dX5_newName_13 : decode cX5_newName 13 = .ok (.getfield 20, 3) := by decide +kernel
theorem dX5_newName_16 : decode cX5_newName 16 = .ok (.invokevirtual 93, 3) := by decide +kernel
theorem tw_574 : ∀ w ∈ ([.methodLink RX5 93 yX9_value, .instanceMethod yX9_value, .selects RX9 yX9_value yX9_value, .initialized RX9] : List Cond), w ∈ tw_W := al_c (tw_in (t8_3 (List.mem_of_getElem? (i := 203) rfl)) rfl) (al_c (tw_in (t8_3 (List.mem_of_getElem? (i := 204) rfl)) rfl) (al_c (tw_in (t8_3 (List.mem_of_getElem? (i := 205) rfl)) rfl) (al_c (tw_in (t8_1 (List.mem_of_getElem? (i := 10) rfl)) rfl) al_n)))
theorem dX5_newName_19 : decode cX5_newName 19 = .ok (.invokevirtual 183, 3) := by decide +kernel
theorem tw_575 : (.code yX1_isToldInBlock cX1_isToldInBlock 2 (some .boolean) : Cond) ∈ tw_W := tw_in (t8_4 (List.mem_of_getElem? (i := 24) rfl)) rfl
theorem tw_576 : ∀ w ∈ ([.methodLink RX5 183 yX1_isToldInBlock, .instanceMethod yX1_isToldInBlock, .selects RX1 yX1_isToldInBlock yX1_isToldInBlock, .initialized RX1] : List Cond), w ∈ tw_W := al_c (tw_in (t8_4 (List.mem_of_getElem? (i := 21) rfl)) rfl) (al_c (tw_in (t8_4 (List.mem_of_getElem? (i := 22) rfl)) rfl) (al_c (tw_in (t8_4 (List.mem_of_getElem? (i := 23) rfl)) rfl) (al_c (tw_in (t8_1 (List.mem_of_getElem? (i := 11) rfl)) rfl) al_n)))
theorem dX5_newName_22 : decode cX5_newName 22 = .ok (.ifCond .eq 18, 3) := by decide +kernel
theorem dX5_newName_40 : decode cX5_newName 40 = .ok (.aload_n 0, 1) := by decide +kernel
theorem dX5_newName_41 : decode cX5_newName 41 = .ok (.getfield 20, 3) := by decide +kernel
theorem dX5_newName_44 : decode cX5_newName 44 = .ok (.invokevirtual 93, 3) := by decide +kernel
theorem dX5_newName_47 : decode cX5_newName 47 = .ok (.ireturn, 1) := by decide +kernel
theorem dX5_newName_25 : decode cX5_newName 25 = .ok (.aload_n 0, 1) := by decide +kernel
theorem dX5_newName_26 : decode cX5_newName 26 = .ok (.getfield 20, 3) := by decide +kernel
theorem dX5_newName_29 : decode cX5_newName 29 = .ok (.iconst 3, 1) := by decide +kernel
theorem dX5_newName_30 : decode cX5_newName 30 = .ok (.aload_n 0, 1) := by decide +kernel
theorem dX5_newName_31 : decode cX5_newName 31 = .ok (.getfield 20, 3) := by decide +kernel
theorem dX5_newName_34 : decode cX5_newName 34 = .ok (.invokevirtual 104, 3) := by decide +kernel
theorem tw_577 : ∀ w ∈ ([.methodLink RX5 104 yX9_place, .instanceMethod yX9_place, .selects RX9 yX9_place yX9_place, .initialized RX9] : List Cond), w ∈ tw_W := al_c (tw_in (t8_3 (List.mem_of_getElem? (i := 223) rfl)) rfl) (al_c (tw_in (t8_3 (List.mem_of_getElem? (i := 117) rfl)) rfl) (al_c (tw_in (t8_3 (List.mem_of_getElem? (i := 118) rfl)) rfl) (al_c (tw_in (t8_1 (List.mem_of_getElem? (i := 10) rfl)) rfl) al_n)))
theorem dX5_newName_37 : decode cX5_newName 37 = .ok (.invokevirtual 79, 3) := by decide +kernel
theorem tw_578 : ∀ w ∈ ([.methodLink RX5 79 yX9_refuse, .instanceMethod yX9_refuse, .selects RX9 yX9_refuse yX9_refuse, .initialized RX9] : List Cond), w ∈ tw_W := al_c (tw_in (t8_3 (List.mem_of_getElem? (i := 224) rfl)) rfl) (al_c (tw_in (t8_3 (List.mem_of_getElem? (i := 121) rfl)) rfl) (al_c (tw_in (t8_3 (List.mem_of_getElem? (i := 122) rfl)) rfl) (al_c (tw_in (t8_1 (List.mem_of_getElem? (i := 10) rfl)) rfl) al_n)))
theorem dX5_wantSlot_0 : decode cX5_wantSlot 0 = .ok (.aload_n 0, 1) := by decide +kernel
theorem dX5_wantSlot_1 : decode cX5_wantSlot 1 = .ok (.getfield 27, 3) := by decide +kernel
theorem dX5_wantSlot_4 : decode cX5_wantSlot 4 = .ok (.iconst 1, 1) := by decide +kernel
theorem dX5_wantSlot_5 : decode cX5_wantSlot 5 = .ok (.invokevirtual 186, 3) := by decide +kernel
theorem tw_579 : ∀ w ∈ ([.methodLink RX5 186 yX1_wantSlots, .instanceMethod yX1_wantSlots, .selects RX1 yX1_wantSlots yX1_wantSlots, .initialized RX1] : List Cond), w ∈ tw_W := al_c (tw_in (t8_4 (List.mem_of_getElem? (i := 36) rfl)) rfl) (al_c (tw_in (t8_4 (List.mem_of_getElem? (i := 37) rfl)) rfl) (al_c (tw_in (t8_4 (List.mem_of_getElem? (i := 38) rfl)) rfl) (al_c (tw_in (t8_1 (List.mem_of_getElem? (i := 11) rfl)) rfl) al_n)))
theorem dX5_wantSlot_8 : decode cX5_wantSlot 8 = .ok (.ifCond .ne 18, 3) := by decide +kernel
theorem dX5_wantSlot_26 : decode cX5_wantSlot 26 = .ok (.return_, 1) := by decide +kernel
theorem dX5_wantSlot_11 : decode cX5_wantSlot 11 = .ok (.aload_n 0, 1) := by decide +kernel
theorem dX5_wantSlot_12 : decode cX5_wantSlot 12 = .ok (.getfield 20, 3) := by decide +kernel
theorem dX5_wantSlot_15 : decode cX5_wantSlot 15 = .ok (.iconst 5, 1) := by decide +kernel
theorem dX5_wantSlot_16 : decode cX5_wantSlot 16 = .ok (.aload_n 0, 1) := by decide +kernel
theorem dX5_wantSlot_17 : decode cX5_wantSlot 17 = .ok (.getfield 20, 3) := by decide +kernel
theorem dX5_wantSlot_20 : decode cX5_wantSlot 20 = .ok (.invokevirtual 104, 3) := by decide +kernel
theorem dX5_wantSlot_23 : decode cX5_wantSlot 23 = .ok (.invokevirtual 79, 3) := by decide +kernel
theorem dX5_parameter_0 : decode cX5_parameter 0 = .ok (.aload_n 0, 1) := by decide +kernel
theorem dX5_parameter_1 : decode cX5_parameter 1 = .ok (.getfield 20, 3) := by decide +kernel
theorem dX5_parameter_4 : decode cX5_parameter 4 = .ok (.bipush 10, 2) := by decide +kernel
theorem dX5_parameter_6 : decode cX5_parameter 6 = .ok (.invokevirtual 87, 3) := by decide +kernel
theorem tw_580 : ∀ w ∈ ([.methodLink RX5 87 yX9_expect, .instanceMethod yX9_expect, .selects RX9 yX9_expect yX9_expect, .initialized RX9] : List Cond), w ∈ tw_W := al_c (tw_in (t8_3 (List.mem_of_getElem? (i := 111) rfl)) rfl) (al_c (tw_in (t8_3 (List.mem_of_getElem? (i := 112) rfl)) rfl) (al_c (tw_in (t8_3 (List.mem_of_getElem? (i := 113) rfl)) rfl) (al_c (tw_in (t8_1 (List.mem_of_getElem? (i := 10) rfl)) rfl) al_n)))
theorem dX5_parameter_9 : decode cX5_parameter 9 = .ok (.aload_n 0, 1) := by decide +kernel
theorem dX5_parameter_10 : decode cX5_parameter 10 = .ok (.invokevirtual 174, 3) := by decide +kernel
theorem tw_581 : (.code yX5_newName cX5_newName 1 (some .int) : Cond) ∈ tw_W := tw_in (t8_4 (List.mem_of_getElem? (i := 20) rfl)) rfl
theorem tw_582 : ∀ w ∈ ([.methodLink RX5 174 yX5_newName, .instanceMethod yX5_newName, .selects RX5 yX5_newName yX5_newName, .initialized RX5] : List Cond), w ∈ tw_W := al_c (tw_in (t8_4 (List.mem_of_getElem? (i := 17) rfl)) rfl) (al_c (tw_in (t8_4 (List.mem_of_getElem? (i := 19) rfl)) rfl) (al_c (tw_in (t7_2 (q := (yX5_newName, 7)) (List.mem_of_getElem? (i := 0) rfl)) rfl) (al_c (tw_in (t8_1 (List.mem_of_getElem? (i := 9) rfl)) rfl) al_n)))
theorem dX5_parameter_13 : decode cX5_parameter 13 = .ok (.istore_n 1, 1) := by decide +kernel
theorem dX5_parameter_14 : decode cX5_parameter 14 = .ok (.aload_n 0, 1) := by decide +kernel
theorem dX5_parameter_15 : decode cX5_parameter 15 = .ok (.getfield 27, 3) := by decide +kernel
theorem dX5_parameter_18 : decode cX5_parameter 18 = .ok (.getfield 141, 3) := by decide +kernel
theorem dX5_parameter_21 : decode cX5_parameter 21 = .ok (.bipush 8, 2) := by decide +kernel
theorem dX5_parameter_23 : decode cX5_parameter 23 = .ok (.if_icmp .lt 18, 3) := by decide +kernel
theorem dX5_parameter_41 : decode cX5_parameter 41 = .ok (.aload_n 0, 1) := by decide +kernel
theorem dX5_parameter_42 : decode cX5_parameter 42 = .ok (.invokevirtual 177, 3) := by decide +kernel
theorem tw_583 : (.code yX5_wantSlot cX5_wantSlot 1 none : Cond) ∈ tw_W := tw_in (t8_4 (List.mem_of_getElem? (i := 35) rfl)) rfl
theorem tw_584 : ∀ w ∈ ([.methodLink RX5 177 yX5_wantSlot, .instanceMethod yX5_wantSlot, .selects RX5 yX5_wantSlot yX5_wantSlot, .initialized RX5] : List Cond), w ∈ tw_W := al_c (tw_in (t8_4 (List.mem_of_getElem? (i := 32) rfl)) rfl) (al_c (tw_in (t8_4 (List.mem_of_getElem? (i := 34) rfl)) rfl) (al_c (tw_in (t7_2 (q := (yX5_wantSlot, 7)) (List.mem_of_getElem? (i := 1) rfl)) rfl) (al_c (tw_in (t8_1 (List.mem_of_getElem? (i := 9) rfl)) rfl) al_n)))
theorem dX5_parameter_45 : decode cX5_parameter 45 = .ok (.aload_n 0, 1) := by decide +kernel
theorem dX5_parameter_46 : decode cX5_parameter 46 = .ok (.getfield 20, 3) := by decide +kernel
theorem dX5_parameter_49 : decode cX5_parameter 49 = .ok (.invokevirtual 117, 3) := by decide +kernel
theorem tw_585 : ∀ w ∈ ([.methodLink RX5 117 yX9_take, .instanceMethod yX9_take, .selects RX9 yX9_take yX9_take, .initialized RX9] : List Cond), w ∈ tw_W := al_c (tw_in (t8_4 (List.mem_of_getElem? (i := 1) rfl)) rfl) (al_c (tw_in (t8_4 (List.mem_of_getElem? (i := 2) rfl)) rfl) (al_c (tw_in (t8_4 (List.mem_of_getElem? (i := 3) rfl)) rfl) (al_c (tw_in (t8_1 (List.mem_of_getElem? (i := 10) rfl)) rfl) al_n)))
theorem dX5_parameter_52 : decode cX5_parameter 52 = .ok (.aload_n 0, 1) := by decide +kernel
theorem dX5_parameter_53 : decode cX5_parameter 53 = .ok (.getfield 27, 3) := by decide +kernel
theorem dX5_parameter_56 : decode cX5_parameter 56 = .ok (.iload_n 1, 1) := by decide +kernel
theorem dX5_parameter_57 : decode cX5_parameter 57 = .ok (.invokevirtual 180, 3) := by decide +kernel
theorem tw_586 : (.code yX1_learn cX1_learn 2 none : Cond) ∈ tw_W := tw_in (t8_4 (List.mem_of_getElem? (i := 46) rfl)) rfl
theorem tw_587 : ∀ w ∈ ([.methodLink RX5 180 yX1_learn, .instanceMethod yX1_learn, .selects RX1 yX1_learn yX1_learn, .initialized RX1] : List Cond), w ∈ tw_W := al_c (tw_in (t8_4 (List.mem_of_getElem? (i := 43) rfl)) rfl) (al_c (tw_in (t8_4 (List.mem_of_getElem? (i := 44) rfl)) rfl) (al_c (tw_in (t8_4 (List.mem_of_getElem? (i := 45) rfl)) rfl) (al_c (tw_in (t8_1 (List.mem_of_getElem? (i := 11) rfl)) rfl) al_n)))
theorem dX5_parameter_60 : decode cX5_parameter 60 = .ok (.return_, 1) := by decide +kernel
theorem dX5_parameter_26 : decode cX5_parameter 26 = .ok (.aload_n 0, 1) := by decide +kernel
theorem dX5_parameter_27 : decode cX5_parameter 27 = .ok (.getfield 20, 3) := by decide +kernel
theorem dX5_parameter_30 : decode cX5_parameter 30 = .ok (.iconst 5, 1) := by decide +kernel
theorem dX5_parameter_31 : decode cX5_parameter 31 = .ok (.aload_n 0, 1) := by decide +kernel
theorem dX5_parameter_32 : decode cX5_parameter 32 = .ok (.getfield 20, 3) := by decide +kernel
theorem dX5_parameter_35 : decode cX5_parameter 35 = .ok (.invokevirtual 104, 3) := by decide +kernel
theorem dX5_parameter_38 : decode cX5_parameter 38 = .ok (.invokevirtual 79, 3) := by decide +kernel
theorem dX5_headOfItem_0 : decode cX5_headOfItem 0 = .ok (.aload_n 0, 1) := by decide +kernel
theorem dX5_headOfItem_1 : decode cX5_headOfItem 1 = .ok (.getfield 20, 3) := by decide +kernel
theorem dX5_headOfItem_4 : decode cX5_headOfItem 4 = .ok (.bipush 10, 2) := by decide +kernel
theorem dX5_headOfItem_6 : decode cX5_headOfItem 6 = .ok (.invokevirtual 87, 3) := by decide +kernel
theorem dX5_headOfItem_9 : decode cX5_headOfItem 9 = .ok (.aload_n 0, 1) := by decide +kernel
theorem dX5_headOfItem_10 : decode cX5_headOfItem 10 = .ok (.getfield 20, 3) := by decide +kernel
theorem dX5_headOfItem_13 : decode cX5_headOfItem 13 = .ok (.iconst 2, 1) := by decide +kernel
theorem dX5_headOfItem_14 : decode cX5_headOfItem 14 = .ok (.invokevirtual 90, 3) := by decide +kernel
theorem dX5_headOfItem_17 : decode cX5_headOfItem 17 = .ok (.aload_n 0, 1) := by decide +kernel
theorem dX5_headOfItem_18 : decode cX5_headOfItem 18 = .ok (.getfield 20, 3) := by decide +kernel
theorem dX5_headOfItem_21 : decode cX5_headOfItem 21 = .ok (.invokevirtual 93, 3) := by decide +kernel
theorem dX5_headOfItem_24 : decode cX5_headOfItem 24 = .ok (.istore_n 1, 1) := by decide +kernel
theorem dX5_headOfItem_25 : decode cX5_headOfItem 25 = .ok (.aload_n 0, 1) := by decide +kernel
theorem dX5_headOfItem_26 : decode cX5_headOfItem 26 = .ok (.getfield 9, 3) := by decide +kernel
theorem tw_588 : (.fieldLink RX5 9 "PocketCompiler$Parser" "program" "LPocketCompiler$Program;" : Cond) ∈ tw_W := tw_in (t8_2 (List.mem_of_getElem? (i := 54) rfl)) rfl
theorem dX5_headOfItem_29 : decode cX5_headOfItem 29 = .ok (.iload_n 1, 1) := by decide +kernel
theorem dX5_headOfItem_30 : decode cX5_headOfItem 30 = .ok (.invokevirtual 96, 3) := by decide +kernel
theorem tw_589 : ∀ w ∈ ([.methodLink RX5 96 yX7_functionNamed, .instanceMethod yX7_functionNamed, .selects RX7 yX7_functionNamed yX7_functionNamed, .initialized RX7] : List Cond), w ∈ tw_W := al_c (tw_in (t8_3 (List.mem_of_getElem? (i := 207) rfl)) rfl) (al_c (tw_in (t8_3 (List.mem_of_getElem? (i := 208) rfl)) rfl) (al_c (tw_in (t8_3 (List.mem_of_getElem? (i := 209) rfl)) rfl) (al_c (tw_in (t8_1 (List.mem_of_getElem? (i := 8) rfl)) rfl) al_n)))
theorem dX5_headOfItem_33 : decode cX5_headOfItem 33 = .ok (.iconst (-1), 1) := by decide +kernel
theorem dX5_headOfItem_34 : decode cX5_headOfItem 34 = .ok (.if_icmp .ne 15, 3) := by decide +kernel
theorem dX5_headOfItem_49 : decode cX5_headOfItem 49 = .ok (.aload_n 0, 1) := by decide +kernel
theorem dX5_headOfItem_50 : decode cX5_headOfItem 50 = .ok (.getfield 20, 3) := by decide +kernel
theorem dX5_headOfItem_53 : decode cX5_headOfItem 53 = .ok (.iconst 3, 1) := by decide +kernel
theorem dX5_headOfItem_54 : decode cX5_headOfItem 54 = .ok (.aload_n 0, 1) := by decide +kernel
theorem dX5_headOfItem_55 : decode cX5_headOfItem 55 = .ok (.getfield 20, 3) := by decide +kernel
theorem dX5_headOfItem_58 : decode cX5_headOfItem 58 = .ok (.invokevirtual 104, 3) := by decide +kernel
theorem dX5_headOfItem_61 : decode cX5_headOfItem 61 = .ok (.invokevirtual 79, 3) := by decide +kernel
theorem dX5_headOfItem_37 : decode cX5_headOfItem 37 = .ok (.aload_n 0, 1) := by decide +kernel
theorem dX5_headOfItem_38 : decode cX5_headOfItem 38 = .ok (.getfield 9, 3) := by decide +kernel
theorem dX5_headOfItem_41 : decode cX5_headOfItem 41 = .ok (.iload_n 1, 1) := by decide +kernel
theorem dX5_headOfItem_42 : decode cX5_headOfItem 42 = .ok (.invokevirtual 101, 3) := by decide +kernel
theorem tw_590 : ∀ w ∈ ([.methodLink RX5 101 yX7_globalNamed, .instanceMethod yX7_globalNamed, .selects RX7 yX7_globalNamed yX7_globalNamed, .initialized RX7] : List Cond), w ∈ tw_W := al_c (tw_in (t8_3 (List.mem_of_getElem? (i := 215) rfl)) rfl) (al_c (tw_in (t8_3 (List.mem_of_getElem? (i := 216) rfl)) rfl) (al_c (tw_in (t8_3 (List.mem_of_getElem? (i := 217) rfl)) rfl) (al_c (tw_in (t8_1 (List.mem_of_getElem? (i := 8) rfl)) rfl) al_n)))
theorem dX5_headOfItem_45 : decode cX5_headOfItem 45 = .ok (.iconst (-1), 1) := by decide +kernel
theorem dX5_headOfItem_46 : decode cX5_headOfItem 46 = .ok (.if_icmp .eq 18, 3) := by decide +kernel
theorem dX5_headOfItem_64 : decode cX5_headOfItem 64 = .ok (.aload_n 0, 1) := by decide +kernel
theorem dX5_headOfItem_65 : decode cX5_headOfItem 65 = .ok (.getfield 20, 3) := by decide +kernel
theorem dX5_headOfItem_68 : decode cX5_headOfItem 68 = .ok (.invokevirtual 107, 3) := by decide +kernel
theorem tw_591 : ∀ w ∈ ([.methodLink RX5 107 yX9_kindBehind, .instanceMethod yX9_kindBehind, .selects RX9 yX9_kindBehind yX9_kindBehind, .initialized RX9] : List Cond), w ∈ tw_W := al_c (tw_in (t8_3 (List.mem_of_getElem? (i := 225) rfl)) rfl) (al_c (tw_in (t8_3 (List.mem_of_getElem? (i := 226) rfl)) rfl) (al_c (tw_in (t8_3 (List.mem_of_getElem? (i := 227) rfl)) rfl) (al_c (tw_in (t8_1 (List.mem_of_getElem? (i := 10) rfl)) rfl) al_n)))
theorem dX5_headOfItem_71 : decode cX5_headOfItem 71 = .ok (.ireturn, 1) := by decide +kernel
theorem dX5_jumpStat_0 : decode cX5_jumpStat 0 = .ok (.aload_n 0, 1) := by decide +kernel
theorem dX5_jumpStat_1 : decode cX5_jumpStat 1 = .ok (.getfield 20, 3) := by decide +kernel
theorem dX5_jumpStat_4 : decode cX5_jumpStat 4 = .ok (.invokevirtual 104, 3) := by decide +kernel
theorem dX5_jumpStat_7 : decode cX5_jumpStat 7 = .ok (.istore_n 2, 1) := by decide +kernel
theorem dX5_jumpStat_8 : decode cX5_jumpStat 8 = .ok (.aload_n 0, 1) := by decide +kernel
theorem dX5_jumpStat_9 : decode cX5_jumpStat 9 = .ok (.getfield 20, 3) := by decide +kernel
theorem dX5_jumpStat_12 : decode cX5_jumpStat 12 = .ok (.invokevirtual 117, 3) := by decide +kernel
theorem dX5_jumpStat_15 : decode cX5_jumpStat 15 = .ok (.iload_n 1, 1) := by decide +kernel
theorem dX5_jumpStat_16 : decode cX5_jumpStat 16 = .ok (.iconst (-1), 1) := by decide +kernel
theorem dX5_jumpStat_17 : decode cX5_jumpStat 17 = .ok (.if_icmp .ne 13, 3) := by decide +kernel
theorem dX5_jumpStat_30 : decode cX5_jumpStat 30 = .ok (.aload_n 0, 1) := by decide +kernel
theorem dX5_jumpStat_31 : decode cX5_jumpStat 31 = .ok (.getfield 27, 3) := by decide +kernel
theorem dX5_jumpStat_34 : decode cX5_jumpStat 34 = .ok (.bipush 19, 2) := by decide +kernel
theorem dX5_jumpStat_36 : decode cX5_jumpStat 36 = .ok (.iload_n 1, 1) := by decide +kernel
theorem dX5_jumpStat_37 : decode cX5_jumpStat 37 = .ok (.iconst 0, 1) := by decide +kernel
theorem dX5_jumpStat_38 : decode cX5_jumpStat 38 = .ok (.invokevirtual 147, 3) := by decide +kernel
theorem tw_592 : ∀ w ∈ ([.methodLink RX5 147 yX1_add, .instanceMethod yX1_add, .selects RX1 yX1_add yX1_add, .initialized RX1] : List Cond), w ∈ tw_W := al_c (tw_in (t8_4 (List.mem_of_getElem? (i := 51) rfl)) rfl) (al_c (tw_in (t8_4 (List.mem_of_getElem? (i := 52) rfl)) rfl) (al_c (tw_in (t8_4 (List.mem_of_getElem? (i := 53) rfl)) rfl) (al_c (tw_in (t8_1 (List.mem_of_getElem? (i := 11) rfl)) rfl) al_n)))
theorem dX5_jumpStat_41 : decode cX5_jumpStat 41 = .ok (.aload_n 0, 1) := by decide +kernel
theorem dX5_jumpStat_42 : decode cX5_jumpStat 42 = .ok (.getfield 20, 3) := by decide +kernel
theorem dX5_jumpStat_45 : decode cX5_jumpStat 45 = .ok (.bipush 36, 2) := by decide +kernel
theorem dX5_jumpStat_47 : decode cX5_jumpStat 47 = .ok (.invokevirtual 87, 3) := by decide +kernel
theorem dX5_jumpStat_50 : decode cX5_jumpStat 50 = .ok (.return_, 1) := by decide +kernel
theorem dX5_jumpStat_20 : decode cX5_jumpStat 20 = .ok (.aload_n 0, 1) := by decide +kernel
theorem dX5_jumpStat_21 : decode cX5_jumpStat 21 = .ok (.getfield 20, 3) := by decide +kernel
theorem dX5_jumpStat_24 : decode cX5_jumpStat 24 = .ok (.bipush 6, 2) := by decide +kernel
theorem dX5_jumpStat_26 : decode cX5_jumpStat 26 = .ok (.iload_n 2, 1) := by decide +kernel
theorem dX5_jumpStat_27 : decode cX5_jumpStat 27 = .ok (.invokevirtual 79, 3) := by decide +kernel
theorem dX5_parameters_0 : decode cX5_parameters 0 = .ok (.aload_n 0, 1) := by decide +kernel
theorem dX5_parameters_1 : decode cX5_parameters 1 = .ok (.getfield 20, 3) := by decide +kernel
theorem dX5_parameters_4 : decode cX5_parameters 4 = .ok (.invokevirtual 123, 3) := by decide +kernel
theorem tw_593 : ∀ w ∈ ([.methodLink RX5 123 yX9_open, .instanceMethod yX9_open, .selects RX9 yX9_open yX9_open, .initialized RX9] : List Cond), w ∈ tw_W := al_c (tw_in (t8_4 (List.mem_of_getElem? (i := 9) rfl)) rfl) (al_c (tw_in (t8_4 (List.mem_of_getElem? (i := 10) rfl)) rfl) (al_c (tw_in (t8_4 (List.mem_of_getElem? (i := 11) rfl)) rfl) (al_c (tw_in (t8_1 (List.mem_of_getElem? (i := 10) rfl)) rfl) al_n)))
theorem dX5_parameters_7 : decode cX5_parameters 7 = .ok (.aload_n 0, 1) := by decide +kernel
theorem dX5_parameters_8 : decode cX5_parameters 8 = .ok (.getfield 20, 3) := by decide +kernel
theorem dX5_parameters_11 : decode cX5_parameters 11 = .ok (.invokevirtual 48, 3) := by decide +kernel
theorem tw_594 : ∀ w ∈ ([.methodLink RX5 48 yX9_kind, .instanceMethod yX9_kind, .selects RX9 yX9_kind yX9_kind, .initialized RX9] : List Cond), w ∈ tw_W := al_c (tw_in (t8_3 (List.mem_of_getElem? (i := 103) rfl)) rfl) (al_c (tw_in (t8_3 (List.mem_of_getElem? (i := 104) rfl)) rfl) (al_c (tw_in (t8_3 (List.mem_of_getElem? (i := 105) rfl)) rfl) (al_c (tw_in (t8_1 (List.mem_of_getElem? (i := 10) rfl)) rfl) al_n)))
theorem dX5_parameters_14 : decode cX5_parameters 14 = .ok (.bipush 31, 2) := by decide +kernel
theorem dX5_parameters_16 : decode cX5_parameters 16 = .ok (.if_icmp .eq 45, 3) := by decide +kernel
theorem dX5_parameters_61 : decode cX5_parameters 61 = .ok (.aload_n 0, 1) := by decide +kernel
theorem dX5_parameters_62 : decode cX5_parameters 62 = .ok (.getfield 20, 3) := by decide +kernel
theorem dX5_parameters_65 : decode cX5_parameters 65 = .ok (.bipush 31, 2) := by decide +kernel
theorem dX5_parameters_67 : decode cX5_parameters 67 = .ok (.invokevirtual 87, 3) := by decide +kernel
theorem dX5_parameters_70 : decode cX5_parameters 70 = .ok (.aload_n 0, 1) := by decide +kernel
theorem dX5_parameters_71 : decode cX5_parameters 71 = .ok (.getfield 20, 3) := by decide +kernel
theorem dX5_parameters_74 : decode cX5_parameters 74 = .ok (.invokevirtual 126, 3) := by decide +kernel
theorem tw_595 : ∀ w ∈ ([.methodLink RX5 126 yX9_close, .instanceMethod yX9_close, .selects RX9 yX9_close yX9_close, .initialized RX9] : List Cond), w ∈ tw_W := al_c (tw_in (t8_4 (List.mem_of_getElem? (i := 47) rfl)) rfl) (al_c (tw_in (t8_4 (List.mem_of_getElem? (i := 48) rfl)) rfl) (al_c (tw_in (t8_4 (List.mem_of_getElem? (i := 49) rfl)) rfl) (al_c (tw_in (t8_1 (List.mem_of_getElem? (i := 10) rfl)) rfl) al_n)))
theorem dX5_parameters_77 : decode cX5_parameters 77 = .ok (.return_, 1) := by decide +kernel
theorem dX5_parameters_19 : decode cX5_parameters 19 = .ok (.aload_n 0, 1) := by decide +kernel
theorem dX5_parameters_20 : decode cX5_parameters 20 = .ok (.invokevirtual 171, 3) := by decide +kernel
theorem tw_596 : (.code yX5_parameter cX5_parameter 2 none : Cond) ∈ tw_W := tw_in (t8_4 (List.mem_of_getElem? (i := 16) rfl)) rfl
theorem tw_597 : ∀ w ∈ ([.methodLink RX5 171 yX5_parameter, .instanceMethod yX5_parameter, .selects RX5 yX5_parameter yX5_parameter, .initialized RX5] : List Cond), w ∈ tw_W := al_c (tw_in (t8_4 (List.mem_of_getElem? (i := 13) rfl)) rfl) (al_c (tw_in (t8_4 (List.mem_of_getElem? (i := 15) rfl)) rfl) (al_c (tw_in (t7_1 (q := (yX5_parameter, 7)) (List.mem_of_getElem? (i := 15) rfl)) rfl) (al_c (tw_in (t8_1 (List.mem_of_getElem? (i := 9) rfl)) rfl) al_n)))
theorem dX5_parameters_23 : decode cX5_parameters 23 = .ok (.iconst 0, 1) := by decide +kernel
theorem dX5_parameters_24 : decode cX5_parameters 24 = .ok (.istore_n 1, 1) := by decide +kernel
theorem dX5_parameters_25 : decode cX5_parameters 25 = .ok (.iload_n 1, 1) := by decide +kernel
theorem dX5_parameters_26 : decode cX5_parameters 26 = .ok (.sipush 1500, 3) := by decide +kernel
theorem dX5_parameters_29 : decode cX5_parameters 29 = .ok (.if_icmp .ge 32, 3) := by decide +kernel
theorem dX5_parameters_32 : decode cX5_parameters 32 = .ok (.aload_n 0, 1) := by decide +kernel
theorem dX5_parameters_33 : decode cX5_parameters 33 = .ok (.getfield 20, 3) := by decide +kernel
theorem dX5_parameters_36 : decode cX5_parameters 36 = .ok (.invokevirtual 48, 3) := by decide +kernel
theorem dX5_parameters_39 : decode cX5_parameters 39 = .ok (.bipush 37, 2) := by decide +kernel
theorem dX5_parameters_41 : decode cX5_parameters 41 = .ok (.if_icmp .ne 20, 3) := by decide +kernel
theorem dX5_parameters_44 : decode cX5_parameters 44 = .ok (.aload_n 0, 1) := by decide +kernel
theorem dX5_parameters_45 : decode cX5_parameters 45 = .ok (.getfield 20, 3) := by decide +kernel
theorem dX5_parameters_48 : decode cX5_parameters 48 = .ok (.invokevirtual 117, 3) := by decide +kernel
theorem dX5_parameters_51 : decode cX5_parameters 51 = .ok (.aload_n 0, 1) := by decide +kernel
theorem dX5_parameters_52 : decode cX5_parameters 52 = .ok (.invokevirtual 171, 3) := by decide +kernel
theorem dX5_parameters_55 : decode cX5_parameters 55 = .ok (.iinc 1 1, 3) := by decide +kernel
theorem dX5_parameters_58 : decode cX5_parameters 58 = .ok (.goto (-33), 3) := by decide +kernel
theorem dX5_rowSize_0 : decode cX5_rowSize 0 = .ok (.aload_n 0, 1) := by decide +kernel
theorem dX5_rowSize_1 : decode cX5_rowSize 1 = .ok (.getfield 20, 3) := by decide +kernel
theorem dX5_rowSize_4 : decode cX5_rowSize 4 = .ok (.invokevirtual 123, 3) := by decide +kernel
theorem dX5_rowSize_7 : decode cX5_rowSize 7 = .ok (.aload_n 0, 1) := by decide +kernel
theorem dX5_rowSize_8 : decode cX5_rowSize 8 = .ok (.getfield 20, 3) := by decide +kernel
theorem dX5_rowSize_11 : decode cX5_rowSize 11 = .ok (.invokevirtual 48, 3) := by decide +kernel
theorem dX5_rowSize_14 : decode cX5_rowSize 14 = .ok (.iconst 4, 1) := by decide +kernel
theorem dX5_rowSize_15 : decode cX5_rowSize 15 = .ok (.if_icmp .ne 7, 3) := by decide +kernel
theorem dX5_rowSize_22 : decode cX5_rowSize 22 = .ok (.iconst 0, 1) := by decide +kernel
theorem dX5_rowSize_23 : decode cX5_rowSize 23 = .ok (.istore_n 1, 1) := by decide +kernel
theorem dX5_rowSize_24 : decode cX5_rowSize 24 = .ok (.iload_n 1, 1) := by decide +kernel
theorem dX5_rowSize_25 : decode cX5_rowSize 25 = .ok (.ifCond .ne 11, 3) := by decide +kernel
theorem dX5_rowSize_28 : decode cX5_rowSize 28 = .ok (.aload_n 0, 1) := by decide +kernel
theorem dX5_rowSize_29 : decode cX5_rowSize 29 = .ok (.getfield 20, 3) := by decide +kernel
theorem dX5_rowSize_32 : decode cX5_rowSize 32 = .ok (.iconst 3, 1) := by decide +kernel
theorem dX5_rowSize_33 : decode cX5_rowSize 33 = .ok (.invokevirtual 90, 3) := by decide +kernel
theorem dX5_rowSize_36 : decode cX5_rowSize 36 = .ok (.aload_n 0, 1) := by decide +kernel
theorem dX5_rowSize_37 : decode cX5_rowSize 37 = .ok (.getfield 20, 3) := by decide +kernel
theorem dX5_rowSize_40 : decode cX5_rowSize 40 = .ok (.invokevirtual 93, 3) := by decide +kernel
theorem dX5_rowSize_43 : decode cX5_rowSize 43 = .ok (.istore_n 2, 1) := by decide +kernel
theorem dX5_rowSize_44 : decode cX5_rowSize 44 = .ok (.iload_n 1, 1) := by decide +kernel
theorem dX5_rowSize_45 : decode cX5_rowSize 45 = .ok (.ifCond .ne 15, 3) := by decide +kernel
theorem dX5_rowSize_48 : decode cX5_rowSize 48 = .ok (.iload_n 2, 1) := by decide +kernel
theorem dX5_rowSize_49 : decode cX5_rowSize 49 = .ok (.iconst 1, 1) := by decide +kernel
theorem dX5_rowSize_50 : decode cX5_rowSize 50 = .ok (.if_icmp .lt 10, 3) := by decide +kernel
theorem dX5_rowSize_60 : decode cX5_rowSize 60 = .ok (.aload_n 0, 1) := by decide +kernel
theorem dX5_rowSize_61 : decode cX5_rowSize 61 = .ok (.getfield 20, 3) := by decide +kernel
theorem dX5_rowSize_64 : decode cX5_rowSize 64 = .ok (.iconst 5, 1) := by decide +kernel
theorem dX5_rowSize_65 : decode cX5_rowSize 65 = .ok (.aload_n 0, 1) := by decide +kernel
theorem dX5_rowSize_66 : decode cX5_rowSize 66 = .ok (.getfield 20, 3) := by decide +kernel
theorem dX5_rowSize_69 : decode cX5_rowSize 69 = .ok (.invokevirtual 104, 3) := by decide +kernel
theorem dX5_rowSize_72 : decode cX5_rowSize 72 = .ok (.invokevirtual 79, 3) := by decide +kernel
theorem dX5_rowSize_53 : decode cX5_rowSize 53 = .ok (.iload_n 2, 1) := by decide +kernel
theorem dX5_rowSize_54 : decode cX5_rowSize 54 = .ok (.sipush 1000, 3) := by decide +kernel
theorem dX5_rowSize_57 : decode cX5_rowSize 57 = .ok (.if_icmp .le 18, 3) := by decide +kernel
theorem dX5_rowSize_75 : decode cX5_rowSize 75 = .ok (.aload_n 0, 1) := by decide +kernel
theorem dX5_rowSize_76 : decode cX5_rowSize 76 = .ok (.getfield 20, 3) := by decide +kernel
theorem dX5_rowSize_79 : decode cX5_rowSize 79 = .ok (.invokevirtual 117, 3) := by decide +kernel
theorem dX5_rowSize_82 : decode cX5_rowSize 82 = .ok (.aload_n 0, 1) := by decide +kernel
theorem dX5_rowSize_83 : decode cX5_rowSize 83 = .ok (.getfield 20, 3) := by decide +kernel
theorem dX5_rowSize_86 : decode cX5_rowSize 86 = .ok (.bipush 35, 2) := by decide +kernel
theorem dX5_rowSize_88 : decode cX5_rowSize 88 = .ok (.invokevirtual 87, 3) := by decide +kernel
theorem dX5_rowSize_91 : decode cX5_rowSize 91 = .ok (.aload_n 0, 1) := by decide +kernel
theorem dX5_rowSize_92 : decode cX5_rowSize 92 = .ok (.getfield 20, 3) := by decide +kernel
theorem dX5_rowSize_95 : decode cX5_rowSize 95 = .ok (.invokevirtual 126, 3) := by decide +kernel
theorem dX5_rowSize_98 : decode cX5_rowSize 98 = .ok (.iload_n 2, 1) := by decide +kernel
theorem dX5_rowSize_99 : decode cX5_rowSize 99 = .ok (.ireturn, 1) := by decide +kernel
theorem dX5_rowSize_18 : decode cX5_rowSize 18 = .ok (.iconst 1, 1) := by decide +kernel
theorem dX5_rowSize_19 : decode cX5_rowSize 19 = .ok (.goto 4, 3) := by decide +kernel
theorem dX5_globalItem_0 : decode cX5_globalItem 0 = .ok (.aload_n 0, 1) := by decide +kernel
theorem dX5_globalItem_1 : decode cX5_globalItem 1 = .ok (.getfield 9, 3) := by decide +kernel
theorem dX5_globalItem_4 : decode cX5_globalItem 4 = .ok (.getfield 110, 3) := by decide +kernel
theorem tw_598 : (.fieldLink RX5 110 "PocketCompiler$Program" "globalCount" "I" : Cond) ∈ tw_W := tw_in (t8_1 (List.mem_of_getElem? (i := 123) rfl)) rfl
theorem dX5_globalItem_7 : decode cX5_globalItem 7 = .ok (.istore_n 2, 1) := by decide +kernel
theorem dX5_globalItem_8 : decode cX5_globalItem 8 = .ok (.iload_n 1, 1) := by decide +kernel
theorem dX5_globalItem_9 : decode cX5_globalItem 9 = .ok (.bipush 34, 2) := by decide +kernel
theorem dX5_globalItem_11 : decode cX5_globalItem 11 = .ok (.if_icmp .ne 7, 3) := by decide +kernel
theorem dX5_globalItem_18 : decode cX5_globalItem 18 = .ok (.iconst 0, 1) := by decide +kernel
theorem dX5_globalItem_19 : decode cX5_globalItem 19 = .ok (.istore_n 3, 1) := by decide +kernel
theorem dX5_globalItem_20 : decode cX5_globalItem 20 = .ok (.iload_n 3, 1) := by decide +kernel
theorem dX5_globalItem_21 : decode cX5_globalItem 21 = .ok (.ifCond .ne 9, 3) := by decide +kernel
theorem dX5_globalItem_24 : decode cX5_globalItem 24 = .ok (.iload_n 1, 1) := by decide +kernel
theorem dX5_globalItem_25 : decode cX5_globalItem 25 = .ok (.bipush 36, 2) := by decide +kernel
theorem dX5_globalItem_27 : decode cX5_globalItem 27 = .ok (.if_icmp .ne 7, 3) := by decide +kernel
theorem dX5_globalItem_34 : decode cX5_globalItem 34 = .ok (.iconst 0, 1) := by decide +kernel
theorem dX5_globalItem_35 : decode cX5_globalItem 35 = .ok (.istore 4, 2) := by decide +kernel
theorem dX5_globalItem_37 : decode cX5_globalItem 37 = .ok (.iload 4, 2) := by decide +kernel
theorem dX5_globalItem_39 : decode cX5_globalItem 39 = .ok (.ifCond .eq 24, 3) := by decide +kernel
theorem dX5_globalItem_63 : decode cX5_globalItem 63 = .ok (.aload_n 0, 1) := by decide +kernel
theorem dX5_globalItem_64 : decode cX5_globalItem 64 = .ok (.getfield 9, 3) := by decide +kernel
theorem dX5_globalItem_67 : decode cX5_globalItem 67 = .ok (.iload_n 2, 1) := by decide +kernel
theorem dX5_globalItem_68 : decode cX5_globalItem 68 = .ok (.iconst 4, 1) := by decide +kernel
theorem dX5_globalItem_69 : decode cX5_globalItem 69 = .ok (.aload_n 0, 1) := by decide +kernel
theorem dX5_globalItem_70 : decode cX5_globalItem 70 = .ok (.getfield 20, 3) := by decide +kernel
theorem dX5_globalItem_73 : decode cX5_globalItem 73 = .ok (.invokevirtual 93, 3) := by decide +kernel
theorem dX5_globalItem_76 : decode cX5_globalItem 76 = .ok (.invokevirtual 113, 3) := by decide +kernel
theorem tw_599 : (.code yX7_changeGlobal cX7_changeGlobal 4 none : Cond) ∈ tw_W := tw_in (t8_4 (List.mem_of_getElem? (i := 233) rfl)) rfl
theorem tw_600 : ∀ w ∈ ([.methodLink RX5 113 yX7_changeGlobal, .instanceMethod yX7_changeGlobal, .selects RX7 yX7_changeGlobal yX7_changeGlobal, .initialized RX7] : List Cond), w ∈ tw_W := al_c (tw_in (t8_4 (List.mem_of_getElem? (i := 230) rfl)) rfl) (al_c (tw_in (t8_4 (List.mem_of_getElem? (i := 231) rfl)) rfl) (al_c (tw_in (t8_4 (List.mem_of_getElem? (i := 232) rfl)) rfl) (al_c (tw_in (t8_1 (List.mem_of_getElem? (i := 8) rfl)) rfl) al_n)))
theorem dX5_globalItem_79 : decode cX5_globalItem 79 = .ok (.aload_n 0, 1) := by decide +kernel
theorem dX5_globalItem_80 : decode cX5_globalItem 80 = .ok (.getfield 9, 3) := by decide +kernel
theorem dX5_globalItem_83 : decode cX5_globalItem 83 = .ok (.iload_n 2, 1) := by decide +kernel
theorem dX5_globalItem_84 : decode cX5_globalItem 84 = .ok (.iconst 3, 1) := by decide +kernel
theorem dX5_globalItem_85 : decode cX5_globalItem 85 = .ok (.aload_n 0, 1) := by decide +kernel
theorem dX5_globalItem_86 : decode cX5_globalItem 86 = .ok (.getfield 20, 3) := by decide +kernel
theorem dX5_globalItem_89 : decode cX5_globalItem 89 = .ok (.invokevirtual 104, 3) := by decide +kernel
theorem dX5_globalItem_92 : decode cX5_globalItem 92 = .ok (.invokevirtual 113, 3) := by decide +kernel
theorem dX5_globalItem_95 : decode cX5_globalItem 95 = .ok (.aload_n 0, 1) := by decide +kernel
theorem dX5_globalItem_96 : decode cX5_globalItem 96 = .ok (.getfield 20, 3) := by decide +kernel
theorem dX5_globalItem_99 : decode cX5_globalItem 99 = .ok (.invokevirtual 117, 3) := by decide +kernel
theorem dX5_globalItem_102 : decode cX5_globalItem 102 = .ok (.aload_n 0, 1) := by decide +kernel
theorem dX5_globalItem_103 : decode cX5_globalItem 103 = .ok (.getfield 9, 3) := by decide +kernel
theorem dX5_globalItem_106 : decode cX5_globalItem 106 = .ok (.iload_n 2, 1) := by decide +kernel
theorem dX5_globalItem_107 : decode cX5_globalItem 107 = .ok (.iconst 2, 1) := by decide +kernel
theorem dX5_globalItem_108 : decode cX5_globalItem 108 = .ok (.iload_n 3, 1) := by decide +kernel
theorem dX5_globalItem_109 : decode cX5_globalItem 109 = .ok (.ifCond .eq 7, 3) := by decide +kernel
theorem dX5_globalItem_116 : decode cX5_globalItem 116 = .ok (.iconst 0, 1) := by decide +kernel
theorem dX5_globalItem_117 : decode cX5_globalItem 117 = .ok (.invokevirtual 113, 3) := by decide +kernel
theorem dX5_globalItem_120 : decode cX5_globalItem 120 = .ok (.aload_n 0, 1) := by decide +kernel
theorem dX5_globalItem_121 : decode cX5_globalItem 121 = .ok (.getfield 9, 3) := by decide +kernel
theorem dX5_globalItem_124 : decode cX5_globalItem 124 = .ok (.iload_n 2, 1) := by decide +kernel
theorem dX5_globalItem_125 : decode cX5_globalItem 125 = .ok (.iconst 0, 1) := by decide +kernel
theorem dX5_globalItem_126 : decode cX5_globalItem 126 = .ok (.iload_n 3, 1) := by decide +kernel
theorem dX5_globalItem_127 : decode cX5_globalItem 127 = .ok (.ifCond .eq 10, 3) := by decide +kernel
theorem dX5_globalItem_137 : decode cX5_globalItem 137 = .ok (.iconst 1, 1) := by decide +kernel
theorem dX5_globalItem_138 : decode cX5_globalItem 138 = .ok (.invokevirtual 113, 3) := by decide +kernel
theorem dX5_globalItem_141 : decode cX5_globalItem 141 = .ok (.aload_n 0, 1) := by decide +kernel
theorem dX5_globalItem_142 : decode cX5_globalItem 142 = .ok (.getfield 20, 3) := by decide +kernel
theorem dX5_globalItem_145 : decode cX5_globalItem 145 = .ok (.bipush 36, 2) := by decide +kernel
theorem dX5_globalItem_147 : decode cX5_globalItem 147 = .ok (.invokevirtual 87, 3) := by decide +kernel
theorem dX5_globalItem_150 : decode cX5_globalItem 150 = .ok (.aload_n 0, 1) := by decide +kernel
theorem dX5_globalItem_151 : decode cX5_globalItem 151 = .ok (.getfield 9, 3) := by decide +kernel
theorem dX5_globalItem_154 : decode cX5_globalItem 154 = .ok (.iload_n 2, 1) := by decide +kernel
theorem dX5_globalItem_155 : decode cX5_globalItem 155 = .ok (.iconst 1, 1) := by decide +kernel
theorem dX5_globalItem_156 : decode cX5_globalItem 156 = .ok (.iadd, 1) := by decide +kernel
theorem dX5_globalItem_157 : decode cX5_globalItem 157 = .ok (.putfield 110, 3) := by decide +kernel
theorem dX5_globalItem_160 : decode cX5_globalItem 160 = .ok (.return_, 1) := by decide +kernel
theorem dX5_globalItem_30 : decode cX5_globalItem 30 = .ok (.iconst 1, 1) := by decide +kernel
theorem dX5_globalItem_31 : decode cX5_globalItem 31 = .ok (.goto 4, 3) := by decide +kernel
theorem dX5_globalItem_42 : decode cX5_globalItem 42 = .ok (.iload_n 2, 1) := by decide +kernel
theorem dX5_globalItem_43 : decode cX5_globalItem 43 = .ok (.bipush 60, 2) := by decide +kernel
theorem dX5_globalItem_45 : decode cX5_globalItem 45 = .ok (.if_icmp .lt 18, 3) := by decide +kernel
theorem dX5_globalItem_48 : decode cX5_globalItem 48 = .ok (.aload_n 0, 1) := by decide +kernel
theorem dX5_globalItem_49 : decode cX5_globalItem 49 = .ok (.getfield 20, 3) := by decide +kernel
theorem dX5_globalItem_52 : decode cX5_globalItem 52 = .ok (.iconst 5, 1) := by decide +kernel
theorem dX5_globalItem_53 : decode cX5_globalItem 53 = .ok (.aload_n 0, 1) := by decide +kernel
theorem dX5_globalItem_54 : decode cX5_globalItem 54 = .ok (.getfield 20, 3) := by decide +kernel
theorem dX5_globalItem_57 : decode cX5_globalItem 57 = .ok (.invokevirtual 104, 3) := by decide +kernel
theorem dX5_globalItem_60 : decode cX5_globalItem 60 = .ok (.invokevirtual 79, 3) := by decide +kernel
theorem dX5_globalItem_14 : decode cX5_globalItem 14 = .ok (.iconst 1, 1) := by decide +kernel
theorem dX5_globalItem_15 : decode cX5_globalItem 15 = .ok (.goto 4, 3) := by decide +kernel
theorem dX5_globalItem_112 : decode cX5_globalItem 112 = .ok (.iconst 1, 1) := by decide +kernel
theorem dX5_globalItem_113 : decode cX5_globalItem 113 = .ok (.goto 4, 3) := by decide +kernel
theorem dX5_globalItem_130 : decode cX5_globalItem 130 = .ok (.aload_n 0, 1) := by decide +kernel
theorem dX5_globalItem_131 : decode cX5_globalItem 131 = .ok (.invokevirtual 120, 3) := by decide +kernel
theorem tw_601 : (.code yX5_rowSize cX5_rowSize 3 (some .int) : Cond) ∈ tw_W := tw_in (t8_4 (List.mem_of_getElem? (i := 237) rfl)) rfl
theorem tw_602 : ∀ w ∈ ([.methodLink RX5 120 yX5_rowSize, .instanceMethod yX5_rowSize, .selects RX5 yX5_rowSize yX5_rowSize, .initialized RX5] : List Cond), w ∈ tw_W := al_c (tw_in (t8_4 (List.mem_of_getElem? (i := 234) rfl)) rfl) (al_c (tw_in (t8_4 (List.mem_of_getElem? (i := 236) rfl)) rfl) (al_c (tw_in (t7_3 (q := (yX5_rowSize, 7)) (List.mem_of_getElem? (i := 14) rfl)) rfl) (al_c (tw_in (t8_1 (List.mem_of_getElem? (i := 9) rfl)) rfl) al_n)))
theorem dX5_globalItem_134 : decode cX5_globalItem 134 = .ok (.goto 4, 3) := by decide +kernel
theorem dX5_checkCalls_0 : decode cX5_checkCalls 0 = .ok (.iconst 0, 1) := by decide +kernel
theorem dX5_checkCalls_1 : decode cX5_checkCalls 1 = .ok (.istore_n 1, 1) := by decide +kernel
theorem dX5_checkCalls_2 : decode cX5_checkCalls 2 = .ok (.iload_n 1, 1) := by decide +kernel
theorem dX5_checkCalls_3 : decode cX5_checkCalls 3 = .ok (.aload_n 0, 1) := by decide +kernel
theorem dX5_checkCalls_4 : decode cX5_checkCalls 4 = .ok (.getfield 27, 3) := by decide +kernel
theorem dX5_checkCalls_7 : decode cX5_checkCalls 7 = .ok (.getfield 68, 3) := by decide +kernel
theorem dX5_checkCalls_10 : decode cX5_checkCalls 10 = .ok (.if_icmp .ge 64, 3) := by decide +kernel
theorem dX5_checkCalls_74 : decode cX5_checkCalls 74 = .ok (.return_, 1) := by decide +kernel
theorem dX5_checkCalls_13 : decode cX5_checkCalls 13 = .ok (.aload_n 0, 1) := by decide +kernel
theorem dX5_checkCalls_14 : decode cX5_checkCalls 14 = .ok (.getfield 27, 3) := by decide +kernel
theorem dX5_checkCalls_17 : decode cX5_checkCalls 17 = .ok (.iload_n 1, 1) := by decide +kernel
theorem dX5_checkCalls_18 : decode cX5_checkCalls 18 = .ok (.invokevirtual 72, 3) := by decide +kernel
theorem tw_603 : ∀ w ∈ ([.methodLink RX5 72 yX1_functionOfCall, .instanceMethod yX1_functionOfCall, .selects RX1 yX1_functionOfCall yX1_functionOfCall, .initialized RX1] : List Cond), w ∈ tw_W := al_c (tw_in (t8_5 (List.mem_of_getElem? (i := 2) rfl)) rfl) (al_c (tw_in (t8_5 (List.mem_of_getElem? (i := 3) rfl)) rfl) (al_c (tw_in (t8_5 (List.mem_of_getElem? (i := 4) rfl)) rfl) (al_c (tw_in (t8_1 (List.mem_of_getElem? (i := 11) rfl)) rfl) al_n)))
theorem dX5_checkCalls_21 : decode cX5_checkCalls 21 = .ok (.iconst (-1), 1) := by decide +kernel
theorem dX5_checkCalls_22 : decode cX5_checkCalls 22 = .ok (.if_icmp .ne 19, 3) := by decide +kernel
theorem dX5_checkCalls_41 : decode cX5_checkCalls 41 = .ok (.aload_n 0, 1) := by decide +kernel
theorem dX5_checkCalls_42 : decode cX5_checkCalls 42 = .ok (.getfield 27, 3) := by decide +kernel
theorem dX5_checkCalls_45 : decode cX5_checkCalls 45 = .ok (.iload_n 1, 1) := by decide +kernel
theorem dX5_checkCalls_46 : decode cX5_checkCalls 46 = .ok (.invokevirtual 83, 3) := by decide +kernel
theorem tw_604 : (.code yX1_hasItsArguments cX1_hasItsArguments 3 (some .boolean) : Cond) ∈ tw_W := tw_in (t8_5 (List.mem_of_getElem? (i := 14) rfl)) rfl
theorem tw_605 : ∀ w ∈ ([.methodLink RX5 83 yX1_hasItsArguments, .instanceMethod yX1_hasItsArguments, .selects RX1 yX1_hasItsArguments yX1_hasItsArguments, .initialized RX1] : List Cond), w ∈ tw_W := al_c (tw_in (t8_5 (List.mem_of_getElem? (i := 11) rfl)) rfl) (al_c (tw_in (t8_5 (List.mem_of_getElem? (i := 12) rfl)) rfl) (al_c (tw_in (t8_5 (List.mem_of_getElem? (i := 13) rfl)) rfl) (al_c (tw_in (t8_1 (List.mem_of_getElem? (i := 11) rfl)) rfl) al_n)))
theorem dX5_checkCalls_49 : decode cX5_checkCalls 49 = .ok (.ifCond .ne 19, 3) := by decide +kernel
theorem dX5_checkCalls_68 : decode cX5_checkCalls 68 = .ok (.iinc 1 1, 3) := by decide +kernel
theorem dX5_checkCalls_71 : decode cX5_checkCalls 71 = .ok (.goto (-69), 3) := by decide +kernel
theorem dX5_checkCalls_52 : decode cX5_checkCalls 52 = .ok (.aload_n 0, 1) := by decide +kernel
theorem dX5_checkCalls_53 : decode cX5_checkCalls 53 = .ok (.getfield 20, 3) := by decide +kernel
theorem dX5_checkCalls_56 : decode cX5_checkCalls 56 = .ok (.iconst 4, 1) := by decide +kernel
theorem dX5_checkCalls_57 : decode cX5_checkCalls 57 = .ok (.aload_n 0, 1) := by decide +kernel
theorem dX5_checkCalls_58 : decode cX5_checkCalls 58 = .ok (.getfield 27, 3) := by decide +kernel
theorem dX5_checkCalls_61 : decode cX5_checkCalls 61 = .ok (.iload_n 1, 1) := by decide +kernel
theorem dX5_checkCalls_62 : decode cX5_checkCalls 62 = .ok (.invokevirtual 76, 3) := by decide +kernel
theorem tw_606 : (.code yX1_placeOfCall cX1_placeOfCall 2 (some .int) : Cond) ∈ tw_W := tw_in (t8_5 (List.mem_of_getElem? (i := 10) rfl)) rfl
theorem tw_607 : ∀ w ∈ ([.methodLink RX5 76 yX1_placeOfCall, .instanceMethod yX1_placeOfCall, .selects RX1 yX1_placeOfCall yX1_placeOfCall, .initialized RX1] : List Cond), w ∈ tw_W := al_c (tw_in (t8_5 (List.mem_of_getElem? (i := 7) rfl)) rfl) (al_c (tw_in (t8_5 (List.mem_of_getElem? (i := 8) rfl)) rfl) (al_c (tw_in (t8_5 (List.mem_of_getElem? (i := 9) rfl)) rfl) (al_c (tw_in (t8_1 (List.mem_of_getElem? (i := 11) rfl)) rfl) al_n)))
theorem dX5_checkCalls_65 : decode cX5_checkCalls 65 = .ok (.invokevirtual 79, 3) := by decide +kernel
theorem dX5_checkCalls_25 : decode cX5_checkCalls 25 = .ok (.aload_n 0, 1) := by decide +kernel
theorem dX5_checkCalls_26 : decode cX5_checkCalls 26 = .ok (.getfield 20, 3) := by decide +kernel
theorem dX5_checkCalls_29 : decode cX5_checkCalls 29 = .ok (.iconst 3, 1) := by decide +kernel
theorem dX5_checkCalls_30 : decode cX5_checkCalls 30 = .ok (.aload_n 0, 1) := by decide +kernel
theorem dX5_checkCalls_31 : decode cX5_checkCalls 31 = .ok (.getfield 27, 3) := by decide +kernel
theorem dX5_checkCalls_34 : decode cX5_checkCalls 34 = .ok (.iload_n 1, 1) := by decide +kernel
theorem dX5_checkCalls_35 : decode cX5_checkCalls 35 = .ok (.invokevirtual 76, 3) := by decide +kernel
theorem dX5_checkCalls_38 : decode cX5_checkCalls 38 = .ok (.invokevirtual 79, 3) := by decide +kernel
theorem om_11d5c14690 {x0 x1 x2 x3 x4 x5 : Int} (h0 : x0 = x1) (h1 : x2 = x3) (h2 : x4 = x5) : x4 + x2 - 2 * x0 + (0) ≤ x5 + x3 - 2 * x1 := by omega
set_option maxHeartbeats 4000000 in
set_option maxRecDepth 100000 in
theorem c_x_X5_newName (l : Launch) (dC : Nat → ClassId) (dI : Nat → Nat → Nat) (cI cB cZ cJ cR : ClassId) (tb : Nat → Nat) (sz : Nat) (ad : Nat → Nat) (pr : Int32 → Nat) (N : Nat) (L1 L2 : List Nat) (v : MS) (ps : Int32) (z304 : 0 ≤ (v.1 0 304).toInt ∧ (v.1 0 304).toInt ≤ 1503) (z305 : 0 ≤ (v.1 0 305).toInt ∧ (v.1 0 305).toInt ≤ 1500) (z312 : 0 ≤ (v.1 0 312).toInt ∧ (v.1 0 312).toInt ≤ 500) (z326 : 0 ≤ (v.1 0 326).toInt ∧ (v.1 0 326).toInt ≤ 420) (z373 : 0 ≤ (v.1 0 373).toInt ∧ (v.1 0 373).toInt ≤ 4000) (z381 : 0 ≤ (v.1 0 381).toInt ∧ (v.1 0 381).toInt ≤ 3008) (hps : pr ps = ad 908) (es300 : (v.1 0 300) = ps) (hst : l.stackTraces = false) (zd : (v.1 0 381).toInt + (v.1 0 326).toInt - 2 * (v.1 0 305).toInt ≤ 0) : vx_Met l yX5_newName (Cond.code yX5_newName cX5_newName 1 (some .int) :: tw_W) ({ frames := 8, cells := 1, slots := 6, locals := 125 }) (pc_ (dC, dI) (tyS cI cB cZ cJ cR) tb (cW ad pr N cI cR L1 L2 v) sz [.ref (ad 903)]) (qiz_ (dC, dI) (cW ad pr N cI cR L1 L2 v) sz (fun (r : Int32) (u : MS) => FC [] [] v u ∧ (Q_x_X5_newName L1 L2 v false r u) ∧ ((u.1 0 381).toInt + (u.1 0 326).toInt - 2 * (u.1 0 305).toInt + (0) ≤ (v.1 0 381).toInt + (v.1 0 326).toInt - 2 * (v.1 0 305).toInt) ∧ (RS v u)) (fun (u : MS) => (cW ad pr N cI cR L1 L2 u))) (qxc (dC, dI) (cW ad pr N cI cR L1 L2 v) sz (fun (u : MS) => (cW ad pr N cI cR L1 L2 u)) (fun (u : MS) => FC xfl xal v u ∧ (u.1 0 308).toInt ≠ 0 ∧ (Q_x_X5_newName L1 L2 v true 0 u))) 1 6 (va_A (cW ad pr N cI cR L1 L2 v) sz) := by
  refine vx_ofW (cc := cX5_newName) (maxL := 1) (ret := (some .int)) (by decide) rfl ?_
  intro p e s m args below meth c s₁ B hml hnt hv
  obtain ⟨rfl, hsz, hP, hKK, hD0, hFx⟩ := hv
  have hK := hKK.1
  have hx := B.exec
  have hb := B.bytes
  have hr := B.returns
  have ht : ∀ w ∈ tw_W, w.before _ s = true := fun w h => atoms_spec (ws := Cond.code yX5_newName cX5_newName 1 (some .int) :: tw_W) B.pre w (List.mem_cons_of_mem _ h)
  have hown : s.vm.findClass RX5 = some m.cls := findClass_of_methodNamed B.named
  have hlocks := B.notSynchronized
  subst hsz
  unfold qiz_ qxc
  have hD := hD0.self (sz := s.heap.size)
  generalize hAe : va_A (cW ad pr N cI cR L1 L2 v) s.heap.size = A at hD hFx ⊢
  have hA : ∀ q : Nat, s.heap.size ≤ q → A q := fun q h => by rw [← hAe]; exact Or.inr h
  have hS : va_S A s.heap s.heap [] := va_S.rf
  have hl := lv_entry ([.ref (ad 903)]) (n := 1) (Nat.le_of_ble_eq_true rfl)
  rw [lg_entry_eq]
  generalize (lg_sl ([.ref (ad 903)]) ++ List.replicate (1 - (lg_sl ([.ref (ad 903)])).length) Slot.unset).toArray = ls at hl ⊢
  have hl : lv_has ls 1 [(0, .ref (ad 903))] := hl
  refine lv_aload_n hx hb dX5_newName_0 rfl (lv_at hl 0 rfl) ?_
  refine va_get (D := (dC, dI)) (ci := 8) (fs := oF_X5 ad pr v) (v := .ref (ad 900)) (C := RX5) (T := TX5) (N := 7) hx hb ht itX5 hown hK hP 3 rfl rfl 1 (by decide) (ht _ tw_571) (fun _ h9 => h9) rfl dX5_newName_1 ?_
  refine lv_iconst (v := 2) hx hb dX5_newName_4 (by decide) ?_
  refine W.sz (fun hz9 => ?_)
  refine czx_v (rx_Vk (n := 1) (As := [.int 2]) (rest := []) hx hb hml hown ht hKK hFx hP hD hS hA (c_x_X9_need l dC dI cI cB cZ cJ cR tb s.heap.size ad pr N L1 L2 v (2 : Int32) ps (show 0 ≤ (v.1 0 304).toInt ∧ (v.1 0 304).toInt ≤ 1503 from (om_c99648273b z304)) (show 0 ≤ (v.1 0 305).toInt ∧ (v.1 0 305).toInt ≤ 1500 from (om_7897b4ccef z305)) (show 0 ≤ (v.1 0 373).toInt ∧ (v.1 0 373).toInt ≤ 4000 from (om_c74a68af25 z373)) (show pr ps = ad 908 from hps) (show (v.1 0 300) = ps from es300) (show l.stackTraces = false from hst)) tw_559 tw_572 (by decide +kernel) rfl rfl ⟨Nat.le_of_ble_eq_true rfl, Nat.le_of_ble_eq_true rfl⟩ (List.range (cW ad pr N cI cR L1 L2 v).length) (rg_map _) (nd_range _) 0 rfl rfl rfl rfl hl.1 rfl (Nat.le_of_ble_eq_true rfl) dX5_newName_5 ⟨Nat.le_of_ble_eq_true rfl, Nat.le_of_ble_eq_true rfl⟩) hP hD hS hA (fun u9 ce9 q9 H locs hx9 hP hD hS hc9 hv9 hf9 => ?_) (fun u2 H locs hw1 hP hD hS hz8 => ?_)
  · exact vx_out (fun x h9 => (hnt x h9).elim) hlocks hc9 hv9 hf9 (fun t9 ht9 hv8 => ⟨u9, ⟨FC.tr (FC.rf _) hx9.1, hx9.2.1, ⟨z304, z305, z312, z326, z373, z381, zd, (Or.inl ⟨u9, hx9.2.2, rfl, rfl, rfl⟩)⟩⟩, ⟨rfl, by rw [ht9]; exact hP, hD⟩, hS.F ht9⟩) hS.2.2 (Nat.le_refl _) (Nat.le_refl _)
  refine W.shrink (hz8.trans hz9) ?_
  obtain ⟨fr1, ex1, rs1⟩ := hw1
  refine lv_aload_n hx hb dX5_newName_8 rfl (lv_at hl 0 rfl) ?_
  refine va_get (D := (dC, dI)) (ci := 8) (fs := oF_X5 ad pr u2) (v := .ref (ad 901)) (C := RX5) (T := TX5) (N := 7) hx hb ht itX5 hown hK hP 3 rfl rfl 2 (by decide) (ht _ tw_573) (fun _ h9 => h9) rfl dX5_newName_9 ?_
  refine lv_aload_n hx hb dX5_newName_12 rfl (lv_at hl 0 rfl) ?_
  refine va_get (D := (dC, dI)) (ci := 8) (fs := oF_X5 ad pr u2) (v := .ref (ad 900)) (C := RX5) (T := TX5) (N := 7) hx hb ht itX5 hown hK hP 3 rfl rfl 1 (by decide) (ht _ tw_571) (fun _ h9 => h9) rfl dX5_newName_13 ?_
  have q4 : (u2.1 0 304).toInt = (v.1 0 304).toInt := congrArg Int32.toInt ((fr1.2.1 304 (by decide)).trans (show v.1 0 304 = (v.1 0 304) by rfl))
  have q5 : (u2.1 0 305).toInt = (v.1 0 305).toInt := congrArg Int32.toInt ((fr1.2.1 305 (by decide)).trans (show v.1 0 305 = (v.1 0 305) by rfl))
  refine cu_i (rn_Vk (n := 0) (As := []) (rest := [.ref (ad 901)]) hx hb hml hown ht hKK hFx hP hD hS hA (c_x_X9_value l dC dI cI cB cZ cJ cR tb H.size ad pr N L1 L2 u2  (show 0 ≤ (u2.1 0 304).toInt ∧ (u2.1 0 304).toInt ≤ 1503 from (om_73002589c1 z304 q4)) (show 0 ≤ (u2.1 0 305).toInt ∧ (u2.1 0 305).toInt ≤ 1500 from (om_c93ca3468d z305 q5))) tw_535 tw_574 (by decide +kernel) rfl rfl ⟨Nat.le_of_ble_eq_true rfl, Nat.le_of_ble_eq_true rfl⟩ (List.range (cW ad pr N cI cR L1 L2 u2).length) (rg_map _) (nd_range _) 0 rfl rfl rfl rfl hl.1 rfl (Nat.le_of_ble_eq_true rfl) dX5_newName_16 ⟨Nat.le_of_ble_eq_true rfl, Nat.le_of_ble_eq_true rfl⟩) hP hD hS hA (fun r8 u7 H locs hw6 hP hD hS => ?_)
  obtain ⟨rfl, ex6⟩ := hw6
  refine W.widen (k := 0) (n := 0) (Nat.le_refl _) (Nat.le_refl _) ?_
  have q10 : (u2.1 0 312).toInt = (v.1 0 312).toInt := congrArg Int32.toInt ((fr1.2.1 312 (by decide)).trans (show v.1 0 312 = (v.1 0 312) by rfl))
  refine cu_i (rn_Vk (n := 1) (As := [.int r8]) (rest := []) hx hb hml hown ht hKK hFx hP hD hS hA (c_x_X1_isToldInBlock l dC dI cI cB cZ cJ cR tb H.size ad pr N L1 L2 u2 r8 (show 0 ≤ (u2.1 0 312).toInt ∧ (u2.1 0 312).toInt ≤ 500 from (om_f8376ff89c z312 q10))) tw_575 tw_576 (by decide +kernel) rfl rfl ⟨Nat.le_of_ble_eq_true rfl, Nat.le_of_ble_eq_true rfl⟩ (List.range (cW ad pr N cI cR L1 L2 u2).length) (rg_map _) (nd_range _) 1 rfl rfl rfl rfl hl.1 rfl (Nat.le_of_ble_eq_true rfl) dX5_newName_19 ⟨Nat.le_of_ble_eq_true rfl, Nat.le_of_ble_eq_true rfl⟩) hP hD hS hA (fun r13 u12 H locs hw11 hP hD hS => ?_)
  obtain ⟨rfl, ex11, b11, e11⟩ := hw11
  have b11 : (r13 = 0 ∨ r13 = 1) := b11
  have e11 : (0 ≤ r13.toInt ∧ r13.toInt ≤ 1) := e11
  refine W.widen (k := 0) (n := 0) (Nat.le_refl _) (Nat.le_refl _) ?_
  refine lv_if_eq (tgt := 40) hx hb dX5_newName_22 (by decide) (fun h14 => ?_) (fun h14 => ?_)
  · have z15 : r13.toInt = (0 : Int) := eq_z rfl (show (0 : Int32).toInt = (0 : Int) by decide) h14
    refine lv_aload_n hx hb dX5_newName_40 rfl (lv_at hl 0 rfl) ?_
    refine va_get (D := (dC, dI)) (ci := 8) (fs := oF_X5 ad pr u2) (v := .ref (ad 900)) (C := RX5) (T := TX5) (N := 7) hx hb ht itX5 hown hK hP 3 rfl rfl 1 (by decide) (ht _ tw_571) (fun _ h9 => h9) rfl dX5_newName_41 ?_
    refine cu_i (rn_Vk (n := 0) (As := []) (rest := []) hx hb hml hown ht hKK hFx hP hD hS hA (c_x_X9_value l dC dI cI cB cZ cJ cR tb H.size ad pr N L1 L2 u2  (show 0 ≤ (u2.1 0 304).toInt ∧ (u2.1 0 304).toInt ≤ 1503 from (om_73002589c1 z304 q4)) (show 0 ≤ (u2.1 0 305).toInt ∧ (u2.1 0 305).toInt ≤ 1500 from (om_c93ca3468d z305 q5))) tw_535 tw_574 (by decide +kernel) rfl rfl ⟨Nat.le_of_ble_eq_true rfl, Nat.le_of_ble_eq_true rfl⟩ (List.range (cW ad pr N cI cR L1 L2 u2).length) (rg_map _) (nd_range _) 0 rfl rfl rfl rfl hl.1 rfl (Nat.le_of_ble_eq_true rfl) dX5_newName_44 ⟨Nat.le_of_ble_eq_true rfl, Nat.le_of_ble_eq_true rfl⟩) hP hD hS hA (fun r18 u17 H locs hw16 hP hD hS => ?_)
    obtain ⟨rfl, ex16⟩ := hw16
    refine W.widen (k := 0) (n := 0) (Nat.le_refl _) (Nat.le_refl _) ?_
    have q19 : (u2.1 0 326).toInt = (v.1 0 326).toInt := congrArg Int32.toInt ((fr1.2.1 326 (by decide)).trans (show v.1 0 326 = (v.1 0 326) by rfl))
    have q20 : (u2.1 0 381).toInt = (v.1 0 381).toInt := congrArg Int32.toInt ((fr1.2.1 381 (by decide)).trans (show v.1 0 381 = (v.1 0 381) by rfl))
    refine W.sz (fun hz => ?_)
    refine vx_ret ?_
    refine W.widen (k := 1) (n := 6) (Nat.le_of_ble_eq_true rfl) (Nat.le_of_ble_eq_true rfl) ?_
    exact W.iret (v := r18) hx hb hr (fun t ht9 hW => ⟨⟨r18, u2, rfl, ⟨(FC.tr (FC.rf _) (FC.up fr1 (by decide) (by decide))), ⟨z304, z305, z312, z326, z373, z381, zd, (Or.inr (⟨u2, ex1, ⟨fr1, rs1⟩, r8, ex6, r13, ex11, ⟨b11, e11⟩, (Or.inl ⟨z15, r18, ex16, rfl, rfl, rfl⟩)⟩))⟩, (show (u2.1 0 381).toInt + (u2.1 0 326).toInt - 2 * (u2.1 0 305).toInt + (0) ≤ (v.1 0 381).toInt + (v.1 0 326).toInt - 2 * (v.1 0 305).toInt from (om_11d5c14690 q5 q19 q20)), (RS.tr RS.rf rs1)⟩, ⟨by rw [ht9]; exact hP, hD⟩, by rw [ht9]; exact hz⟩, hS.F ht9⟩) hS.2.2 dX5_newName_47
  · have z21 : r13.toInt ≠ (0 : Int) := ne_z rfl (show (0 : Int32).toInt = (0 : Int) by decide) h14
    refine lv_aload_n hx hb dX5_newName_25 rfl (lv_at hl 0 rfl) ?_
    refine va_get (D := (dC, dI)) (ci := 8) (fs := oF_X5 ad pr u2) (v := .ref (ad 900)) (C := RX5) (T := TX5) (N := 7) hx hb ht itX5 hown hK hP 3 rfl rfl 1 (by decide) (ht _ tw_571) (fun _ h9 => h9) rfl dX5_newName_26 ?_
    refine lv_iconst (v := 3) hx hb dX5_newName_29 (by decide) ?_
    refine lv_aload_n hx hb dX5_newName_30 rfl (lv_at hl 0 rfl) ?_
    refine va_get (D := (dC, dI)) (ci := 8) (fs := oF_X5 ad pr u2) (v := .ref (ad 900)) (C := RX5) (T := TX5) (N := 7) hx hb ht itX5 hown hK hP 3 rfl rfl 1 (by decide) (ht _ tw_571) (fun _ h9 => h9) rfl dX5_newName_31 ?_
    have q22 : (u2.1 0 373).toInt = (v.1 0 373).toInt := congrArg Int32.toInt ((fr1.2.1 373 (by decide)).trans (show v.1 0 373 = (v.1 0 373) by rfl))
    refine cu_i (rn_Vk (n := 0) (As := []) (rest := [.int 3, .ref (ad 900)]) hx hb hml hown ht hKK hFx hP hD hS hA (c_x_X9_place l dC dI cI cB cZ cJ cR tb H.size ad pr N L1 L2 u2 ps (show 0 ≤ (u2.1 0 304).toInt ∧ (u2.1 0 304).toInt ≤ 1503 from (om_73002589c1 z304 q4)) (show 0 ≤ (u2.1 0 305).toInt ∧ (u2.1 0 305).toInt ≤ 1500 from (om_c93ca3468d z305 q5)) (show 0 ≤ (u2.1 0 373).toInt ∧ (u2.1 0 373).toInt ≤ 4000 from (om_9084c127ed z373 q22)) (show pr ps = ad 908 from hps) (show (u2.1 0 300) = ps from (Eq.trans (fr1.2.1 300 (by decide)) es300))) tw_457 tw_577 (by decide +kernel) rfl rfl ⟨Nat.le_of_ble_eq_true rfl, Nat.le_of_ble_eq_true rfl⟩ (List.range (cW ad pr N cI cR L1 L2 u2).length) (rg_map _) (nd_range _) 0 rfl rfl rfl rfl hl.1 rfl (Nat.le_of_ble_eq_true rfl) dX5_newName_34 ⟨Nat.le_of_ble_eq_true rfl, Nat.le_of_ble_eq_true rfl⟩) hP hD hS hA (fun r25 u24 H locs hw23 hP hD hS => ?_)
    obtain ⟨rfl, ex23⟩ := hw23
    refine W.widen (k := 0) (n := 0) (Nat.le_refl _) (Nat.le_refl _) ?_
    refine W.sz (fun hz9 => ?_)
    refine czx_v (rx_Vk (n := 2) (As := [.int 3, .int r25]) (rest := []) hx hb hml hown ht hKK hFx hP hD hS hA (c_x_X9_refuse l dC dI cI cB cZ cJ cR tb H.size ad pr N L1 L2 u2 (3 : Int32) r25 (show l.stackTraces = false from hst) (show (3 : Int) ≠ 0 from om_59881768ad)) tw_459 tw_578 (by decide +kernel) rfl rfl ⟨Nat.le_of_ble_eq_true rfl, Nat.le_of_ble_eq_true rfl⟩ (List.range (cW ad pr N cI cR L1 L2 u2).length) (rg_map _) (nd_range _) 0 rfl rfl rfl rfl hl.1 rfl (Nat.le_of_ble_eq_true rfl) dX5_newName_37 ⟨Nat.le_of_ble_eq_true rfl, Nat.le_of_ble_eq_true rfl⟩) hP hD hS hA (fun u9 ce9 q9 H locs hx9 hP hD hS hc9 hv9 hf9 => ?_) (fun u27 H locs hw26 hP hD hS hz8 => ?_)
    · exact vx_out (fun x h9 => (hnt x h9).elim) hlocks hc9 hv9 hf9 (fun t9 ht9 hv8 => ⟨u9, ⟨FC.tr (FC.tr (FC.rf _) (FC.up fr1 (by decide) (by decide))) hx9.1, hx9.2.1, ⟨z304, z305, z312, z326, z373, z381, zd, (Or.inr (⟨u2, ex1, ⟨fr1, rs1⟩, r8, ex6, r13, ex11, ⟨b11, e11⟩, (Or.inr (⟨z21, r25, ex23, u9, hx9.2.2, rfl, rfl, rfl⟩))⟩))⟩⟩, ⟨rfl, by rw [ht9]; exact hP, hD⟩, hS.F ht9⟩) hS.2.2 (Nat.le_refl _) (Nat.le_refl _)
    refine W.shrink (hz8.trans hz9) ?_
    obtain ⟨fr26, ex26, no26, rs26⟩ := hw26
    have no26 : False := no26
    have rs26 : RS u2 u27 := rs26
    exact no26.elim
set_option maxHeartbeats 4000000 in
set_option maxRecDepth 100000 in
theorem c_x_X5_wantSlot (l : Launch) (dC : Nat → ClassId) (dI : Nat → Nat → Nat) (cI cB cZ cJ cR : ClassId) (tb : Nat → Nat) (sz : Nat) (ad : Nat → Nat) (pr : Int32 → Nat) (N : Nat) (L1 L2 : List Nat) (v : MS) (ps : Int32) (z304 : 0 ≤ (v.1 0 304).toInt ∧ (v.1 0 304).toInt ≤ 1503) (z305 : 0 ≤ (v.1 0 305).toInt ∧ (v.1 0 305).toInt ≤ 1500) (z312 : 0 ≤ (v.1 0 312).toInt ∧ (v.1 0 312).toInt ≤ 500) (z326 : 0 ≤ (v.1 0 326).toInt ∧ (v.1 0 326).toInt ≤ 420) (z373 : 0 ≤ (v.1 0 373).toInt ∧ (v.1 0 373).toInt ≤ 4000) (z381 : 0 ≤ (v.1 0 381).toInt ∧ (v.1 0 381).toInt ≤ 3008) (hps : pr ps = ad 908) (es300 : (v.1 0 300) = ps) (hst : l.stackTraces = false) (zd : (v.1 0 381).toInt + (v.1 0 326).toInt - 2 * (v.1 0 305).toInt ≤ 0) : vx_Met l yX5_wantSlot (Cond.code yX5_wantSlot cX5_wantSlot 1 none :: tw_W) ({ frames := 7, cells := 1, slots := 6, locals := 104 }) (pc_ (dC, dI) (tyS cI cB cZ cJ cR) tb (cW ad pr N cI cR L1 L2 v) sz [.ref (ad 903)]) (qvz_ (dC, dI) (cW ad pr N cI cR L1 L2 v) sz (fun (u : MS) => FC [315] [0] v u ∧ (Q_x_X5_wantSlot L1 L2 v false u) ∧ ((u.1 0 381).toInt + (u.1 0 326).toInt - 2 * (u.1 0 305).toInt + (0) ≤ (v.1 0 381).toInt + (v.1 0 326).toInt - 2 * (v.1 0 305).toInt) ∧ (RS v u)) (fun (u : MS) => (cW ad pr N cI cR L1 L2 u))) (qxc (dC, dI) (cW ad pr N cI cR L1 L2 v) sz (fun (u : MS) => (cW ad pr N cI cR L1 L2 u)) (fun (u : MS) => FC xfl xal v u ∧ (u.1 0 308).toInt ≠ 0 ∧ (Q_x_X5_wantSlot L1 L2 v true u))) 1 6 (va_A (cW ad pr N cI cR L1 L2 v) sz) := by
  refine vx_ofW (cc := cX5_wantSlot) (maxL := 1) (ret := none) (by decide) rfl ?_
  intro p e s m args below meth c s₁ B hml hnt hv
  obtain ⟨rfl, hsz, hP, hKK, hD0, hFx⟩ := hv
  have hK := hKK.1
  have hx := B.exec
  have hb := B.bytes
  have hr := B.returns
  have ht : ∀ w ∈ tw_W, w.before _ s = true := fun w h => atoms_spec (ws := Cond.code yX5_wantSlot cX5_wantSlot 1 none :: tw_W) B.pre w (List.mem_cons_of_mem _ h)
  have hown : s.vm.findClass RX5 = some m.cls := findClass_of_methodNamed B.named
  have hlocks := B.notSynchronized
  subst hsz
  unfold qvz_ qxc
  have hD := hD0.self (sz := s.heap.size)
  generalize hAe : va_A (cW ad pr N cI cR L1 L2 v) s.heap.size = A at hD hFx ⊢
  have hA : ∀ q : Nat, s.heap.size ≤ q → A q := fun q h => by rw [← hAe]; exact Or.inr h
  have hS : va_S A s.heap s.heap [] := va_S.rf
  have hl := lv_entry ([.ref (ad 903)]) (n := 1) (Nat.le_of_ble_eq_true rfl)
  rw [lg_entry_eq]
  generalize (lg_sl ([.ref (ad 903)]) ++ List.replicate (1 - (lg_sl ([.ref (ad 903)])).length) Slot.unset).toArray = ls at hl ⊢
  have hl : lv_has ls 1 [(0, .ref (ad 903))] := hl
  refine lv_aload_n hx hb dX5_wantSlot_0 rfl (lv_at hl 0 rfl) ?_
  refine va_get (D := (dC, dI)) (ci := 8) (fs := oF_X5 ad pr v) (v := .ref (ad 901)) (C := RX5) (T := TX5) (N := 7) hx hb ht itX5 hown hK hP 3 rfl rfl 2 (by decide) (ht _ tw_573) (fun _ h9 => h9) rfl dX5_wantSlot_1 ?_
  refine lv_iconst (v := 1) hx hb dX5_wantSlot_4 (by decide) ?_
  refine cu_i (rn_Vk (n := 1) (As := [.int 1]) (rest := []) hx hb hml hown ht hKK hFx hP hD hS hA (c_x_X1_wantSlots l dC dI cI cB cZ cJ cR tb s.heap.size ad pr N L1 L2 v (1 : Int32) (show 0 ≤ (v.1 0 312).toInt ∧ (v.1 0 312).toInt ≤ 500 from (om_9861e69da5 z312))) tw_507 tw_579 (by decide +kernel) rfl rfl ⟨Nat.le_of_ble_eq_true rfl, Nat.le_of_ble_eq_true rfl⟩ (List.range (cW ad pr N cI cR L1 L2 v).length) (rg_map _) (nd_range _) 1 rfl rfl rfl rfl hl.1 rfl (Nat.le_of_ble_eq_true rfl) dX5_wantSlot_5 ⟨Nat.le_of_ble_eq_true rfl, Nat.le_of_ble_eq_true rfl⟩) hP hD hS hA (fun r3 u2 H locs hw1 hP hD hS => ?_)
  obtain ⟨fr1, ex1, rs1, bz1⟩ := hw1
  refine W.widen (k := 0) (n := 0) (Nat.le_refl _) (Nat.le_refl _) ?_
  refine lv_if_ne (tgt := 26) hx hb dX5_wantSlot_8 (by decide) (fun h4 => ?_) (fun h4 => ?_)
  · have z5 : r3.toInt ≠ (0 : Int) := ne_z rfl (show (0 : Int32).toInt = (0 : Int) by decide) h4
    have q6 : (u2.1 0 305).toInt = (v.1 0 305).toInt := congrArg Int32.toInt ((fr1.2.1 305 (by decide)).trans (show v.1 0 305 = (v.1 0 305) by rfl))
    have q7 : (u2.1 0 326).toInt = (v.1 0 326).toInt := congrArg Int32.toInt ((fr1.2.1 326 (by decide)).trans (show v.1 0 326 = (v.1 0 326) by rfl))
    have q8 : (u2.1 0 381).toInt = (v.1 0 381).toInt := congrArg Int32.toInt ((fr1.2.1 381 (by decide)).trans (show v.1 0 381 = (v.1 0 381) by rfl))
    refine W.sz (fun hz => ?_)
    refine vx_ret ?_
    refine W.widen (k := 1) (n := 6) (Nat.le_of_ble_eq_true rfl) (Nat.le_of_ble_eq_true rfl) ?_
    exact W.vret hx hb hr (fun t ht9 hW => ⟨⟨u2, rfl, ⟨(FC.tr (FC.rf _) (FC.up fr1 (by decide) (by decide))), ⟨z304, z305, z312, z326, z373, z381, zd, r3, u2, ex1, ⟨fr1, rs1⟩, (Or.inl ⟨z5, rfl, rfl⟩)⟩, (show (u2.1 0 381).toInt + (u2.1 0 326).toInt - 2 * (u2.1 0 305).toInt + (0) ≤ (v.1 0 381).toInt + (v.1 0 326).toInt - 2 * (v.1 0 305).toInt from (om_11d5c14690 q6 q7 q8)), (RS.tr RS.rf rs1)⟩, ⟨by rw [ht9]; exact hP, hD⟩, by rw [ht9]; exact hz⟩, hS.F ht9⟩) hS.2.2 dX5_wantSlot_26
  · have z9 : r3.toInt = (0 : Int) := eq_z rfl (show (0 : Int32).toInt = (0 : Int) by decide) h4
    refine lv_aload_n hx hb dX5_wantSlot_11 rfl (lv_at hl 0 rfl) ?_
    refine va_get (D := (dC, dI)) (ci := 8) (fs := oF_X5 ad pr u2) (v := .ref (ad 900)) (C := RX5) (T := TX5) (N := 7) hx hb ht itX5 hown hK hP 3 rfl rfl 1 (by decide) (ht _ tw_571) (fun _ h9 => h9) rfl dX5_wantSlot_12 ?_
    refine lv_iconst (v := 5) hx hb dX5_wantSlot_15 (by decide) ?_
    refine lv_aload_n hx hb dX5_wantSlot_16 rfl (lv_at hl 0 rfl) ?_
    refine va_get (D := (dC, dI)) (ci := 8) (fs := oF_X5 ad pr u2) (v := .ref (ad 900)) (C := RX5) (T := TX5) (N := 7) hx hb ht itX5 hown hK hP 3 rfl rfl 1 (by decide) (ht _ tw_571) (fun _ h9 => h9) rfl dX5_wantSlot_17 ?_
    have q10 : (u2.1 0 304).toInt = (v.1 0 304).toInt := congrArg Int32.toInt ((fr1.2.1 304 (by decide)).trans (show v.1 0 304 = (v.1 0 304) by rfl))
    have q11 : (u2.1 0 305).toInt = (v.1 0 305).toInt := congrArg Int32.toInt ((fr1.2.1 305 (by decide)).trans (show v.1 0 305 = (v.1 0 305) by rfl))
    have q12 : (u2.1 0 373).toInt = (v.1 0 373).toInt := congrArg Int32.toInt ((fr1.2.1 373 (by decide)).trans (show v.1 0 373 = (v.1 0 373) by rfl))
    refine cu_i (rn_Vk (n := 0) (As := []) (rest := [.int 5, .ref (ad 900)]) hx hb hml hown ht hKK hFx hP hD hS hA (c_x_X9_place l dC dI cI cB cZ cJ cR tb H.size ad pr N L1 L2 u2 ps (show 0 ≤ (u2.1 0 304).toInt ∧ (u2.1 0 304).toInt ≤ 1503 from (om_73002589c1 z304 q10)) (show 0 ≤ (u2.1 0 305).toInt ∧ (u2.1 0 305).toInt ≤ 1500 from (om_c93ca3468d z305 q11)) (show 0 ≤ (u2.1 0 373).toInt ∧ (u2.1 0 373).toInt ≤ 4000 from (om_9084c127ed z373 q12)) (show pr ps = ad 908 from hps) (show (u2.1 0 300) = ps from (Eq.trans (fr1.2.1 300 (by decide)) es300))) tw_457 tw_577 (by decide +kernel) rfl rfl ⟨Nat.le_of_ble_eq_true rfl, Nat.le_of_ble_eq_true rfl⟩ (List.range (cW ad pr N cI cR L1 L2 u2).length) (rg_map _) (nd_range _) 0 rfl rfl rfl rfl hl.1 rfl (Nat.le_of_ble_eq_true rfl) dX5_wantSlot_20 ⟨Nat.le_of_ble_eq_true rfl, Nat.le_of_ble_eq_true rfl⟩) hP hD hS hA (fun r15 u14 H locs hw13 hP hD hS => ?_)
    obtain ⟨rfl, ex13⟩ := hw13
    refine W.widen (k := 0) (n := 0) (Nat.le_refl _) (Nat.le_refl _) ?_
    refine W.sz (fun hz9 => ?_)
    refine czx_v (rx_Vk (n := 2) (As := [.int 5, .int r15]) (rest := []) hx hb hml hown ht hKK hFx hP hD hS hA (c_x_X9_refuse l dC dI cI cB cZ cJ cR tb H.size ad pr N L1 L2 u2 (5 : Int32) r15 (show l.stackTraces = false from hst) (show (5 : Int) ≠ 0 from om_5e02973d50)) tw_459 tw_578 (by decide +kernel) rfl rfl ⟨Nat.le_of_ble_eq_true rfl, Nat.le_of_ble_eq_true rfl⟩ (List.range (cW ad pr N cI cR L1 L2 u2).length) (rg_map _) (nd_range _) 0 rfl rfl rfl rfl hl.1 rfl (Nat.le_of_ble_eq_true rfl) dX5_wantSlot_23 ⟨Nat.le_of_ble_eq_true rfl, Nat.le_of_ble_eq_true rfl⟩) hP hD hS hA (fun u9 ce9 q9 H locs hx9 hP hD hS hc9 hv9 hf9 => ?_) (fun u17 H locs hw16 hP hD hS hz8 => ?_)
    · exact vx_out (fun x h9 => (hnt x h9).elim) hlocks hc9 hv9 hf9 (fun t9 ht9 hv8 => ⟨u9, ⟨FC.tr (FC.tr (FC.rf _) (FC.up fr1 (by decide) (by decide))) hx9.1, hx9.2.1, ⟨z304, z305, z312, z326, z373, z381, zd, r3, u2, ex1, ⟨fr1, rs1⟩, (Or.inr (⟨z9, r15, ex13, u9, hx9.2.2, rfl, rfl⟩))⟩⟩, ⟨rfl, by rw [ht9]; exact hP, hD⟩, hS.F ht9⟩) hS.2.2 (Nat.le_refl _) (Nat.le_refl _)
    refine W.shrink (hz8.trans hz9) ?_
    obtain ⟨fr16, ex16, no16, rs16⟩ := hw16
    have no16 : False := no16
    have rs16 : RS u2 u17 := rs16
    exact no16.elim
theorem om_ef974f4033 {x0 x1 x2 : Int} (h0 : 0 ≤ x0 ∧ x0 ≤ 500) (h1 : x1 = x0) (h2 : x2 = x1) (h3 : x2 < (8 : Int)) : 0 ≤ x2 ∧ x2 ≤ 500 := by omega
theorem om_48f837955d {x0 x1 x2 x3 x4 x5 x6 x7 x8 : Int} (h0 : x0 + x1 - 2 * x2 ≤ 0) (h1 : x3 = x1) (h2 : x4 = x0) (h3 : x5 = x2 + 1) (h4 : x6 + x7 - 2 * x8 + (0) ≤ x4 + x3 - 2 * x5) : x6 + x7 - 2 * x8 ≤ 0 := by omega
theorem om_3828509495 {x0 x1 x2 x3 : Int} (h0 : 0 ≤ x0 ∧ x0 ≤ 1500) (h1 : 0 ≤ x1 ∧ x1 ≤ 1500) (h2 : x1 = x0 + 1) (h3 : x2 = x1) (h4 : x3 = x2) : 0 ≤ x3 ∧ x3 ≤ 1500 := by omega
theorem om_9e96f22fc2 {x0 x1 x2 x3 x4 : Int} (h0 : 0 ≤ x0 ∧ x0 ≤ 500) (h1 : x1 = x0) (h2 : x2 = x1) (h3 : x2 < (8 : Int)) (h4 : x3 = x2) (h5 : x4 = x3) : 0 ≤ x4 ∧ x4 ≤ 500 := by omega
theorem om_226476f1d5 {x0 x1 x2 x3 x4 x5 : Int} (h0 : 0 ≤ x0 ∧ x0 ≤ 1500) (h1 : x1 = x0 + 1) (h2 : x2 = x1) (h3 : x3 = x2) (h4 : 0 ≤ x4 ∧ x4 ≤ 1500) (h5 : x4 = x3 + 1) (h6 : x5 = x4) : 0 ≤ x5 ∧ x5 ≤ 1500 := by omega
theorem om_82f6023af8 {x0 x1 x2 x3 x4 x5 x6 x7 x8 x9 x10 x11 x12 x13 x14 x15 x16 x17 : Int} (h0 : x0 = x1) (h1 : x2 = x3) (h2 : x4 = x5 + 1) (h3 : x6 + x7 - 2 * x8 + (0) ≤ x2 + x0 - 2 * x4) (h4 : x9 + x10 - 2 * x11 + (0) ≤ x6 + x7 - 2 * x8) (h5 : x12 = x10) (h6 : x13 = x9) (h7 : x14 = x11 + 1) (h8 : x15 = x14) (h9 : x16 = x12) (h10 : x17 = x13) : x17 + x16 - 2 * x15 + (4) ≤ x3 + x1 - 2 * x5 := by omega
theorem om_f4b0d21709 {x0 x1 x2 x3 x4 x5 : Int} (h0 : x0 = x1 + 1) (h1 : x2 = x0) (h2 : x3 = x2) (h3 : x4 = x3 + 1) (h4 : x5 = x4) : x1 + 2 ≤ x5 := by omega
set_option maxHeartbeats 4000000 in
set_option maxRecDepth 100000 in
theorem c_x_X5_parameter (l : Launch) (dC : Nat → ClassId) (dI : Nat → Nat → Nat) (cI cB cZ cJ cR : ClassId) (tb : Nat → Nat) (sz : Nat) (ad : Nat → Nat) (pr : Int32 → Nat) (N : Nat) (L1 L2 : List Nat) (v : MS) (ps : Int32) (z304 : 0 ≤ (v.1 0 304).toInt ∧ (v.1 0 304).toInt ≤ 1503) (z305 : 0 ≤ (v.1 0 305).toInt ∧ (v.1 0 305).toInt ≤ 1500) (z312 : 0 ≤ (v.1 0 312).toInt ∧ (v.1 0 312).toInt ≤ 500) (z326 : 0 ≤ (v.1 0 326).toInt ∧ (v.1 0 326).toInt ≤ 420) (z373 : 0 ≤ (v.1 0 373).toInt ∧ (v.1 0 373).toInt ≤ 4000) (z381 : 0 ≤ (v.1 0 381).toInt ∧ (v.1 0 381).toInt ≤ 3008) (hps : pr ps = ad 908) (es300 : (v.1 0 300) = ps) (hst : l.stackTraces = false) (zd : (v.1 0 381).toInt + (v.1 0 326).toInt - 2 * (v.1 0 305).toInt ≤ 0) : vx_Met l yX5_parameter (Cond.code yX5_parameter cX5_parameter 2 none :: tw_W) ({ frames := 9, cells := 1, slots := 6, locals := 145 }) (pc_ (dC, dI) (tyS cI cB cZ cJ cR) tb (cW ad pr N cI cR L1 L2 v) sz [.ref (ad 903)]) (qvz_ (dC, dI) (cW ad pr N cI cR L1 L2 v) sz (fun (u : MS) => FC [305, 312, 315] [0, 311] v u ∧ (Q_x_X5_parameter L1 L2 v false u) ∧ (0 ≤ (u.1 0 305).toInt ∧ (u.1 0 305).toInt ≤ 1500) ∧ (0 ≤ (u.1 0 312).toInt ∧ (u.1 0 312).toInt ≤ 500) ∧ ((u.1 0 381).toInt + (u.1 0 326).toInt - 2 * (u.1 0 305).toInt + (4) ≤ (v.1 0 381).toInt + (v.1 0 326).toInt - 2 * (v.1 0 305).toInt) ∧ ((v.1 0 305).toInt + 2 ≤ (u.1 0 305).toInt) ∧ (RS v u)) (fun (u : MS) => (cW ad pr N cI cR L1 L2 u))) (qxc (dC, dI) (cW ad pr N cI cR L1 L2 v) sz (fun (u : MS) => (cW ad pr N cI cR L1 L2 u)) (fun (u : MS) => FC xfl xal v u ∧ (u.1 0 308).toInt ≠ 0 ∧ (Q_x_X5_parameter L1 L2 v true u))) 1 6 (va_A (cW ad pr N cI cR L1 L2 v) sz) := by
  refine vx_ofW (cc := cX5_parameter) (maxL := 2) (ret := none) (by decide) rfl ?_
  intro p e s m args below meth c s₁ B hml hnt hv
  obtain ⟨rfl, hsz, hP, hKK, hD0, hFx⟩ := hv
  have hK := hKK.1
  have hx := B.exec
  have hb := B.bytes
  have hr := B.returns
  have ht : ∀ w ∈ tw_W, w.before _ s = true := fun w h => atoms_spec (ws := Cond.code yX5_parameter cX5_parameter 2 none :: tw_W) B.pre w (List.mem_cons_of_mem _ h)
  have hown : s.vm.findClass RX5 = some m.cls := findClass_of_methodNamed B.named
  have hlocks := B.notSynchronized
  subst hsz
  unfold qvz_ qxc
  have hD := hD0.self (sz := s.heap.size)
  generalize hAe : va_A (cW ad pr N cI cR L1 L2 v) s.heap.size = A at hD hFx ⊢
  have hA : ∀ q : Nat, s.heap.size ≤ q → A q := fun q h => by rw [← hAe]; exact Or.inr h
  have hS : va_S A s.heap s.heap [] := va_S.rf
  have hl := lv_entry ([.ref (ad 903)]) (n := 2) (Nat.le_of_ble_eq_true rfl)
  rw [lg_entry_eq]
  generalize (lg_sl ([.ref (ad 903)]) ++ List.replicate (2 - (lg_sl ([.ref (ad 903)])).length) Slot.unset).toArray = ls at hl ⊢
  have hl : lv_has ls 2 [(0, .ref (ad 903))] := hl
  refine lv_aload_n hx hb dX5_parameter_0 rfl (lv_at hl 0 rfl) ?_
  refine va_get (D := (dC, dI)) (ci := 8) (fs := oF_X5 ad pr v) (v := .ref (ad 900)) (C := RX5) (T := TX5) (N := 7) hx hb ht itX5 hown hK hP 3 rfl rfl 1 (by decide) (ht _ tw_571) (fun _ h9 => h9) rfl dX5_parameter_1 ?_
  refine lv_bipush (v := 10) hx hb dX5_parameter_4 (by decide) ?_
  refine W.sz (fun hz9 => ?_)
  refine czx_v (rx_Vk (n := 1) (As := [.int 10]) (rest := []) hx hb hml hown ht hKK hFx hP hD hS hA (c_x_X9_expect l dC dI cI cB cZ cJ cR tb s.heap.size ad pr N L1 L2 v (10 : Int32) ps (show 0 ≤ (v.1 0 304).toInt ∧ (v.1 0 304).toInt ≤ 1503 from (om_c99648273b z304)) (show 0 ≤ (v.1 0 305).toInt ∧ (v.1 0 305).toInt ≤ 1500 from (om_7897b4ccef z305)) (show 0 ≤ (v.1 0 373).toInt ∧ (v.1 0 373).toInt ≤ 4000 from (om_c74a68af25 z373)) (show pr ps = ad 908 from hps) (show (v.1 0 300) = ps from es300) (show l.stackTraces = false from hst)) tw_526 tw_580 (by decide +kernel) rfl rfl ⟨Nat.le_of_ble_eq_true rfl, Nat.le_of_ble_eq_true rfl⟩ (List.range (cW ad pr N cI cR L1 L2 v).length) (rg_map _) (nd_range _) 0 rfl rfl rfl rfl hl.1 rfl (Nat.le_of_ble_eq_true rfl) dX5_parameter_6 ⟨Nat.le_of_ble_eq_true rfl, Nat.le_of_ble_eq_true rfl⟩) hP hD hS hA (fun u9 ce9 q9 H locs hx9 hP hD hS hc9 hv9 hf9 => ?_) (fun u2 H locs hw1 hP hD hS hz8 => ?_)
  · exact vx_out (fun x h9 => (hnt x h9).elim) hlocks hc9 hv9 hf9 (fun t9 ht9 hv8 => ⟨u9, ⟨FC.tr (FC.rf _) hx9.1, hx9.2.1, ⟨z304, z305, z312, z326, z373, z381, zd, (Or.inl ⟨u9, hx9.2.2, rfl, rfl⟩)⟩⟩, ⟨rfl, by rw [ht9]; exact hP, hD⟩, hS.F ht9⟩) hS.2.2 (Nat.le_refl _) (Nat.le_refl _)
  refine W.shrink (hz8.trans hz9) ?_
  obtain ⟨fr1, ex1, i3051, pt1, rs1⟩ := hw1
  refine lv_aload_n hx hb dX5_parameter_9 rfl (lv_at hl 0 rfl) ?_
  have q4 : (u2.1 0 304).toInt = (v.1 0 304).toInt := congrArg Int32.toInt ((fr1.2.1 304 (by decide)).trans (show v.1 0 304 = (v.1 0 304) by rfl))
  have q5 : (u2.1 0 312).toInt = (v.1 0 312).toInt := congrArg Int32.toInt ((fr1.2.1 312 (by decide)).trans (show v.1 0 312 = (v.1 0 312) by rfl))
  have q6 : (u2.1 0 326).toInt = (v.1 0 326).toInt := congrArg Int32.toInt ((fr1.2.1 326 (by decide)).trans (show v.1 0 326 = (v.1 0 326) by rfl))
  have q7 : (u2.1 0 373).toInt = (v.1 0 373).toInt := congrArg Int32.toInt ((fr1.2.1 373 (by decide)).trans (show v.1 0 373 = (v.1 0 373) by rfl))
  have q8 : (u2.1 0 381).toInt = (v.1 0 381).toInt := congrArg Int32.toInt ((fr1.2.1 381 (by decide)).trans (show v.1 0 381 = (v.1 0 381) by rfl))
  refine W.sz (fun hz9 => ?_)
  refine czx_i (rx_Vk (n := 0) (As := []) (rest := []) hx hb hml hown ht hKK hFx hP hD hS hA (c_x_X5_newName l dC dI cI cB cZ cJ cR tb H.size ad pr N L1 L2 u2 ps (show 0 ≤ (u2.1 0 304).toInt ∧ (u2.1 0 304).toInt ≤ 1503 from (om_73002589c1 z304 q4)) (show 0 ≤ (u2.1 0 305).toInt ∧ (u2.1 0 305).toInt ≤ 1500 from (om_89213937cb z305 i3051 pt1)) (show 0 ≤ (u2.1 0 312).toInt ∧ (u2.1 0 312).toInt ≤ 500 from (om_f8376ff89c z312 q5)) (show 0 ≤ (u2.1 0 326).toInt ∧ (u2.1 0 326).toInt ≤ 420 from (om_8ed0dedb19 z326 q6)) (show 0 ≤ (u2.1 0 373).toInt ∧ (u2.1 0 373).toInt ≤ 4000 from (om_9084c127ed z373 q7)) (show 0 ≤ (u2.1 0 381).toInt ∧ (u2.1 0 381).toInt ≤ 3008 from (om_3d2979e731 z305 z326 z381 zd q8)) (show pr ps = ad 908 from hps) (show (u2.1 0 300) = ps from (Eq.trans (fr1.2.1 300 (by decide)) es300)) (show l.stackTraces = false from hst) (show (u2.1 0 381).toInt + (u2.1 0 326).toInt - 2 * (u2.1 0 305).toInt ≤ 0 from (om_27b720c3fb zd q6 q8 pt1))) tw_581 tw_582 (by decide +kernel) rfl rfl ⟨Nat.le_of_ble_eq_true rfl, Nat.le_of_ble_eq_true rfl⟩ (List.range (cW ad pr N cI cR L1 L2 u2).length) (rg_map _) (nd_range _) 3 rfl rfl rfl rfl hl.1 rfl (Nat.le_of_ble_eq_true rfl) dX5_parameter_10 ⟨Nat.le_of_ble_eq_true rfl, Nat.le_of_ble_eq_true rfl⟩) hP hD hS hA (fun u9 ce9 q9 H locs hx9 hP hD hS hc9 hv9 hf9 => ?_) (fun r11 u10 H locs hw9 hP hD hS hz8 => ?_)
  · exact vx_out (fun x h9 => (hnt x h9).elim) hlocks hc9 hv9 hf9 (fun t9 ht9 hv8 => ⟨u9, ⟨FC.tr (FC.tr (FC.rf _) (FC.up fr1 (by decide) (by decide))) hx9.1, hx9.2.1, ⟨z304, z305, z312, z326, z373, z381, zd, (Or.inr (⟨u2, ex1, ⟨fr1, i3051, pt1, rs1⟩, (Or.inl ⟨u9, hx9.2.2, rfl, rfl⟩)⟩))⟩⟩, ⟨rfl, by rw [ht9]; exact hP, hD⟩, hS.F ht9⟩) hS.2.2 (Nat.le_refl _) (Nat.le_refl _)
  refine W.shrink (hz8.trans hz9) ?_
  obtain ⟨fr9, ex9, pd9, rs9⟩ := hw9
  have pd9 : (u10.1 0 381).toInt + (u10.1 0 326).toInt - 2 * (u10.1 0 305).toInt + (0) ≤ (u2.1 0 381).toInt + (u2.1 0 326).toInt - 2 * (u2.1 0 305).toInt := pd9
  have rs9 : RS u2 u10 := rs9
  refine lv_istore_n (lv' := [(1, .int r11), (0, .ref (ad 903))]) hx hb dX5_parameter_13 rfl hl (by decide) rfl (fun ls hl => ?_)
  refine lv_aload_n hx hb dX5_parameter_14 rfl (lv_at hl 1 rfl) ?_
  refine va_get (D := (dC, dI)) (ci := 8) (fs := oF_X5 ad pr u10) (v := .ref (ad 901)) (C := RX5) (T := TX5) (N := 7) hx hb ht itX5 hown hK hP 3 rfl rfl 2 (by decide) (ht _ tw_573) (fun _ h9 => h9) rfl dX5_parameter_15 ?_
  refine va_getN (D := (dC, dI)) (ci := 5) (fs := oF_X1 ad pr u10) (v := .int (u10.1 0 312)) (C := RX1) (T := TX1) (N := 12) hx hb ht itX1 hown hK hP 1 rfl rfl 2 (by decide) (hKK.fl2 4 rfl) (fun _ h9 => h9) rfl dX5_parameter_18 ?_
  refine lv_bipush (v := 8) hx hb dX5_parameter_21 (by decide) ?_
  refine lv_icmp_lt (tgt := 41) hx hb dX5_parameter_23 (by decide) (fun h12 => ?_) (fun h12 => ?_)
  · have z13 : (u10.1 0 312).toInt < (8 : Int) := lt_z rfl (show (8 : Int32).toInt = (8 : Int) by decide) h12
    refine lv_aload_n hx hb dX5_parameter_41 rfl (lv_at hl 1 rfl) ?_
    have q14 : (u10.1 0 304).toInt = (u2.1 0 304).toInt := congrArg Int32.toInt ((fr9.2.1 304 (by decide)).trans (show u2.1 0 304 = (u2.1 0 304) by rfl))
    have q15 : (u10.1 0 305).toInt = (u2.1 0 305).toInt := congrArg Int32.toInt ((fr9.2.1 305 (by decide)).trans (show u2.1 0 305 = (u2.1 0 305) by rfl))
    have q16 : (u10.1 0 312).toInt = (u2.1 0 312).toInt := congrArg Int32.toInt ((fr9.2.1 312 (by decide)).trans (show u2.1 0 312 = (u2.1 0 312) by rfl))
    have q17 : (u10.1 0 326).toInt = (u2.1 0 326).toInt := congrArg Int32.toInt ((fr9.2.1 326 (by decide)).trans (show u2.1 0 326 = (u2.1 0 326) by rfl))
    have q18 : (u10.1 0 373).toInt = (u2.1 0 373).toInt := congrArg Int32.toInt ((fr9.2.1 373 (by decide)).trans (show u2.1 0 373 = (u2.1 0 373) by rfl))
    have q19 : (u10.1 0 381).toInt = (u2.1 0 381).toInt := congrArg Int32.toInt ((fr9.2.1 381 (by decide)).trans (show u2.1 0 381 = (u2.1 0 381) by rfl))
    refine W.sz (fun hz9 => ?_)
    refine czx_v (rx_Vk (n := 0) (As := []) (rest := []) hx hb hml hown ht hKK hFx hP hD hS hA (c_x_X5_wantSlot l dC dI cI cB cZ cJ cR tb H.size ad pr N L1 L2 u10 ps (show 0 ≤ (u10.1 0 304).toInt ∧ (u10.1 0 304).toInt ≤ 1503 from (om_dd87ee851a z304 q4 q14)) (show 0 ≤ (u10.1 0 305).toInt ∧ (u10.1 0 305).toInt ≤ 1500 from (om_570f2378f1 z305 i3051 pt1 q15)) (show 0 ≤ (u10.1 0 312).toInt ∧ (u10.1 0 312).toInt ≤ 500 from (om_ef974f4033 z312 q5 q16 z13)) (show 0 ≤ (u10.1 0 326).toInt ∧ (u10.1 0 326).toInt ≤ 420 from (om_9591dea625 z326 q6 q17)) (show 0 ≤ (u10.1 0 373).toInt ∧ (u10.1 0 373).toInt ≤ 4000 from (om_03cd8767ac z373 q7 q18)) (show 0 ≤ (u10.1 0 381).toInt ∧ (u10.1 0 381).toInt ≤ 3008 from (om_38c323128c z305 z326 z381 zd q8 q19)) (show pr ps = ad 908 from hps) (show (u10.1 0 300) = ps from (Eq.trans (fr9.2.1 300 (by decide)) (Eq.trans (fr1.2.1 300 (by decide)) es300))) (show l.stackTraces = false from hst) (show (u10.1 0 381).toInt + (u10.1 0 326).toInt - 2 * (u10.1 0 305).toInt ≤ 0 from (om_48f837955d zd q6 q8 pt1 pd9))) tw_583 tw_584 (by decide +kernel) rfl rfl ⟨Nat.le_of_ble_eq_true rfl, Nat.le_of_ble_eq_true rfl⟩ (List.range (cW ad pr N cI cR L1 L2 u10).length) (rg_map _) (nd_range _) 3 rfl rfl rfl rfl hl.1 rfl (Nat.le_of_ble_eq_true rfl) dX5_parameter_42 ⟨Nat.le_of_ble_eq_true rfl, Nat.le_of_ble_eq_true rfl⟩) hP hD hS hA (fun u9 ce9 q9 H locs hx9 hP hD hS hc9 hv9 hf9 => ?_) (fun u21 H locs hw20 hP hD hS hz8 => ?_)
    · exact vx_out (fun x h9 => (hnt x h9).elim) hlocks hc9 hv9 hf9 (fun t9 ht9 hv8 => ⟨u9, ⟨FC.tr (FC.tr (FC.tr (FC.rf _) (FC.up fr1 (by decide) (by decide))) (FC.up fr9 (by decide) (by decide))) hx9.1, hx9.2.1, ⟨z304, z305, z312, z326, z373, z381, zd, (Or.inr (⟨u2, ex1, ⟨fr1, i3051, pt1, rs1⟩, (Or.inr (⟨r11, u10, ex9, ⟨fr9, pd9, rs9⟩, (Or.inl ⟨z13, (Or.inl ⟨u9, hx9.2.2, rfl, rfl⟩)⟩)⟩))⟩))⟩⟩, ⟨rfl, by rw [ht9]; exact hP, hD⟩, hS.F ht9⟩) hS.2.2 (Nat.le_refl _) (Nat.le_refl _)
    refine W.shrink (hz8.trans hz9) ?_
    obtain ⟨fr20, ex20, pd20, rs20⟩ := hw20
    have pd20 : (u21.1 0 381).toInt + (u21.1 0 326).toInt - 2 * (u21.1 0 305).toInt + (0) ≤ (u10.1 0 381).toInt + (u10.1 0 326).toInt - 2 * (u10.1 0 305).toInt := pd20
    have rs20 : RS u10 u21 := rs20
    refine lv_aload_n hx hb dX5_parameter_45 rfl (lv_at hl 1 rfl) ?_
    refine va_get (D := (dC, dI)) (ci := 8) (fs := oF_X5 ad pr u21) (v := .ref (ad 900)) (C := RX5) (T := TX5) (N := 7) hx hb ht itX5 hown hK hP 3 rfl rfl 1 (by decide) (ht _ tw_571) (fun _ h9 => h9) rfl dX5_parameter_46 ?_
    have q23 : (u21.1 0 304).toInt = (u10.1 0 304).toInt := congrArg Int32.toInt ((fr20.2.1 304 (by decide)).trans (show u10.1 0 304 = (u10.1 0 304) by rfl))
    have q24 : (u21.1 0 305).toInt = (u10.1 0 305).toInt := congrArg Int32.toInt ((fr20.2.1 305 (by decide)).trans (show u10.1 0 305 = (u10.1 0 305) by rfl))
    have q25 : (u21.1 0 373).toInt = (u10.1 0 373).toInt := congrArg Int32.toInt ((fr20.2.1 373 (by decide)).trans (show u10.1 0 373 = (u10.1 0 373) by rfl))
    refine W.sz (fun hz9 => ?_)
    refine czx_v (rx_Vk (n := 0) (As := []) (rest := []) hx hb hml hown ht hKK hFx hP hD hS hA (c_x_X9_take l dC dI cI cB cZ cJ cR tb H.size ad pr N L1 L2 u21 ps (show 0 ≤ (u21.1 0 304).toInt ∧ (u21.1 0 304).toInt ≤ 1503 from (om_57e3d9ffbd z304 q4 q14 q23)) (show 0 ≤ (u21.1 0 305).toInt ∧ (u21.1 0 305).toInt ≤ 1500 from (om_3828509495 z305 i3051 pt1 q15 q24)) (show 0 ≤ (u21.1 0 373).toInt ∧ (u21.1 0 373).toInt ≤ 4000 from (om_282c7f458f z373 q7 q18 q25)) (show pr ps = ad 908 from hps) (show (u21.1 0 300) = ps from (Eq.trans (fr20.2.1 300 (by decide)) (Eq.trans (fr9.2.1 300 (by decide)) (Eq.trans (fr1.2.1 300 (by decide)) es300)))) (show l.stackTraces = false from hst)) tw_539 tw_585 (by decide +kernel) rfl rfl ⟨Nat.le_of_ble_eq_true rfl, Nat.le_of_ble_eq_true rfl⟩ (List.range (cW ad pr N cI cR L1 L2 u21).length) (rg_map _) (nd_range _) 0 rfl rfl rfl rfl hl.1 rfl (Nat.le_of_ble_eq_true rfl) dX5_parameter_49 ⟨Nat.le_of_ble_eq_true rfl, Nat.le_of_ble_eq_true rfl⟩) hP hD hS hA (fun u9 ce9 q9 H locs hx9 hP hD hS hc9 hv9 hf9 => ?_) (fun u27 H locs hw26 hP hD hS hz8 => ?_)
    · exact vx_out (fun x h9 => (hnt x h9).elim) hlocks hc9 hv9 hf9 (fun t9 ht9 hv8 => ⟨u9, ⟨FC.tr (FC.tr (FC.tr (FC.tr (FC.rf _) (FC.up fr1 (by decide) (by decide))) (FC.up fr9 (by decide) (by decide))) (FC.up fr20 (by decide) (by decide))) hx9.1, hx9.2.1, ⟨z304, z305, z312, z326, z373, z381, zd, (Or.inr (⟨u2, ex1, ⟨fr1, i3051, pt1, rs1⟩, (Or.inr (⟨r11, u10, ex9, ⟨fr9, pd9, rs9⟩, (Or.inl ⟨z13, (Or.inr (⟨u21, ex20, ⟨fr20, pd20, rs20⟩, (Or.inl ⟨u9, hx9.2.2, rfl, rfl⟩)⟩))⟩)⟩))⟩))⟩⟩, ⟨rfl, by rw [ht9]; exact hP, hD⟩, hS.F ht9⟩) hS.2.2 (Nat.le_refl _) (Nat.le_refl _)
    refine W.shrink (hz8.trans hz9) ?_
    obtain ⟨fr26, ex26, i30526, pt26, rs26⟩ := hw26
    have i30526 : 0 ≤ (u27.1 0 305).toInt ∧ (u27.1 0 305).toInt ≤ 1500 := i30526
    have pt26 : (u27.1 0 305).toInt = (u21.1 0 305).toInt + 1 := pt26
    have rs26 : RS u21 u27 := rs26
    refine lv_aload_n hx hb dX5_parameter_52 rfl (lv_at hl 1 rfl) ?_
    refine va_get (D := (dC, dI)) (ci := 8) (fs := oF_X5 ad pr u27) (v := .ref (ad 901)) (C := RX5) (T := TX5) (N := 7) hx hb ht itX5 hown hK hP 3 rfl rfl 2 (by decide) (ht _ tw_573) (fun _ h9 => h9) rfl dX5_parameter_53 ?_
    refine lv_iload_n hx hb dX5_parameter_56 rfl (lv_at hl 0 rfl) ?_
    have q29 : (u21.1 0 312).toInt = (u10.1 0 312).toInt := congrArg Int32.toInt ((fr20.2.1 312 (by decide)).trans (show u10.1 0 312 = (u10.1 0 312) by rfl))
    have q30 : (u27.1 0 312).toInt = (u21.1 0 312).toInt := congrArg Int32.toInt ((fr26.2.1 312 (by decide)).trans (show u21.1 0 312 = (u21.1 0 312) by rfl))
    refine cu_v (rn_Vk (n := 1) (As := [.int r11]) (rest := []) hx hb hml hown ht hKK hFx hP hD hS hA (c_x_X1_learn l dC dI cI cB cZ cJ cR tb H.size ad pr N L1 L2 u27 r11 (show 0 ≤ (u27.1 0 312).toInt ∧ (u27.1 0 312).toInt ≤ 500 from (om_9e96f22fc2 z312 q5 q16 z13 q29 q30))) tw_586 tw_587 (by decide +kernel) rfl rfl ⟨Nat.le_of_ble_eq_true rfl, Nat.le_of_ble_eq_true rfl⟩ (List.range (cW ad pr N cI cR L1 L2 u27).length) (rg_map _) (nd_range _) 1 rfl rfl rfl rfl hl.1 rfl (Nat.le_of_ble_eq_true rfl) dX5_parameter_57 ⟨Nat.le_of_ble_eq_true rfl, Nat.le_of_ble_eq_true rfl⟩) hP hD hS hA (fun u32 H locs hw31 hP hD hS => ?_)
    obtain ⟨fr31, ex31, i31231, rs31⟩ := hw31
    have i31231 : 0 ≤ (u32.1 0 312).toInt ∧ (u32.1 0 312).toInt ≤ 500 := i31231
    have rs31 : RS u27 u32 := rs31
    refine W.widen (k := 0) (n := 0) (Nat.le_refl _) (Nat.le_refl _) ?_
    have q34 : (u32.1 0 305).toInt = (u27.1 0 305).toInt := congrArg Int32.toInt ((fr31.2.1 305 (by decide)).trans (show u27.1 0 305 = (u27.1 0 305) by rfl))
    have q35 : (u27.1 0 326).toInt = (u21.1 0 326).toInt := congrArg Int32.toInt ((fr26.2.1 326 (by decide)).trans (show u21.1 0 326 = (u21.1 0 326) by rfl))
    have q36 : (u27.1 0 381).toInt = (u21.1 0 381).toInt := congrArg Int32.toInt ((fr26.2.1 381 (by decide)).trans (show u21.1 0 381 = (u21.1 0 381) by rfl))
    have q37 : (u32.1 0 326).toInt = (u27.1 0 326).toInt := congrArg Int32.toInt ((fr31.2.1 326 (by decide)).trans (show u27.1 0 326 = (u27.1 0 326) by rfl))
    have q38 : (u32.1 0 381).toInt = (u27.1 0 381).toInt := congrArg Int32.toInt ((fr31.2.1 381 (by decide)).trans (show u27.1 0 381 = (u27.1 0 381) by rfl))
    refine W.sz (fun hz => ?_)
    refine vx_ret ?_
    refine W.widen (k := 1) (n := 6) (Nat.le_of_ble_eq_true rfl) (Nat.le_of_ble_eq_true rfl) ?_
    exact W.vret hx hb hr (fun t ht9 hW => ⟨⟨u32, rfl, ⟨(FC.tr (FC.tr (FC.tr (FC.tr (FC.tr (FC.rf _) (FC.up fr1 (by decide) (by decide))) (FC.up fr9 (by decide) (by decide))) (FC.up fr20 (by decide) (by decide))) (FC.up fr26 (by decide) (by decide))) (FC.up fr31 (by decide) (by decide))), ⟨z304, z305, z312, z326, z373, z381, zd, (Or.inr (⟨u2, ex1, ⟨fr1, i3051, pt1, rs1⟩, (Or.inr (⟨r11, u10, ex9, ⟨fr9, pd9, rs9⟩, (Or.inl ⟨z13, (Or.inr (⟨u21, ex20, ⟨fr20, pd20, rs20⟩, (Or.inr (⟨u27, ex26, ⟨fr26, i30526, pt26, rs26⟩, u32, ex31, ⟨fr31, i31231, rs31⟩, rfl, rfl⟩))⟩))⟩)⟩))⟩))⟩, (show 0 ≤ (u32.1 0 305).toInt ∧ (u32.1 0 305).toInt ≤ 1500 from (om_226476f1d5 z305 pt1 q15 q24 i30526 pt26 q34)), (show 0 ≤ (u32.1 0 312).toInt ∧ (u32.1 0 312).toInt ≤ 500 from (om_9861e69da5 i31231)), (show (u32.1 0 381).toInt + (u32.1 0 326).toInt - 2 * (u32.1 0 305).toInt + (4) ≤ (v.1 0 381).toInt + (v.1 0 326).toInt - 2 * (v.1 0 305).toInt from (om_82f6023af8 q6 q8 pt1 pd9 pd20 q35 q36 pt26 q34 q37 q38)), (show (v.1 0 305).toInt + 2 ≤ (u32.1 0 305).toInt from (om_f4b0d21709 pt1 q15 q24 pt26 q34)), (RS.tr (RS.tr (RS.tr (RS.tr (RS.tr RS.rf rs1) rs9) rs20) rs26) rs31)⟩, ⟨by rw [ht9]; exact hP, hD⟩, by rw [ht9]; exact hz⟩, hS.F ht9⟩) hS.2.2 dX5_parameter_60
  · have z39 : (8 : Int) ≤ (u10.1 0 312).toInt := nlt_z rfl (show (8 : Int32).toInt = (8 : Int) by decide) h12
    refine lv_aload_n hx hb dX5_parameter_26 rfl (lv_at hl 1 rfl) ?_
    refine va_get (D := (dC, dI)) (ci := 8) (fs := oF_X5 ad pr u10) (v := .ref (ad 900)) (C := RX5) (T := TX5) (N := 7) hx hb ht itX5 hown hK hP 3 rfl rfl 1 (by decide) (ht _ tw_571) (fun _ h9 => h9) rfl dX5_parameter_27 ?_
    refine lv_iconst (v := 5) hx hb dX5_parameter_30 (by decide) ?_
    refine lv_aload_n hx hb dX5_parameter_31 rfl (lv_at hl 1 rfl) ?_
    refine va_get (D := (dC, dI)) (ci := 8) (fs := oF_X5 ad pr u10) (v := .ref (ad 900)) (C := RX5) (T := TX5) (N := 7) hx hb ht itX5 hown hK hP 3 rfl rfl 1 (by decide) (ht _ tw_571) (fun _ h9 => h9) rfl dX5_parameter_32 ?_
    have q40 : (u10.1 0 304).toInt = (u2.1 0 304).toInt := congrArg Int32.toInt ((fr9.2.1 304 (by decide)).trans (show u2.1 0 304 = (u2.1 0 304) by rfl))
    have q41 : (u10.1 0 305).toInt = (u2.1 0 305).toInt := congrArg Int32.toInt ((fr9.2.1 305 (by decide)).trans (show u2.1 0 305 = (u2.1 0 305) by rfl))
    have q42 : (u10.1 0 373).toInt = (u2.1 0 373).toInt := congrArg Int32.toInt ((fr9.2.1 373 (by decide)).trans (show u2.1 0 373 = (u2.1 0 373) by rfl))
    refine cu_i (rn_Vk (n := 0) (As := []) (rest := [.int 5, .ref (ad 900)]) hx hb hml hown ht hKK hFx hP hD hS hA (c_x_X9_place l dC dI cI cB cZ cJ cR tb H.size ad pr N L1 L2 u10 ps (show 0 ≤ (u10.1 0 304).toInt ∧ (u10.1 0 304).toInt ≤ 1503 from (om_dd87ee851a z304 q4 q40)) (show 0 ≤ (u10.1 0 305).toInt ∧ (u10.1 0 305).toInt ≤ 1500 from (om_570f2378f1 z305 i3051 pt1 q41)) (show 0 ≤ (u10.1 0 373).toInt ∧ (u10.1 0 373).toInt ≤ 4000 from (om_03cd8767ac z373 q7 q42)) (show pr ps = ad 908 from hps) (show (u10.1 0 300) = ps from (Eq.trans (fr9.2.1 300 (by decide)) (Eq.trans (fr1.2.1 300 (by decide)) es300)))) tw_457 tw_577 (by decide +kernel) rfl rfl ⟨Nat.le_of_ble_eq_true rfl, Nat.le_of_ble_eq_true rfl⟩ (List.range (cW ad pr N cI cR L1 L2 u10).length) (rg_map _) (nd_range _) 0 rfl rfl rfl rfl hl.1 rfl (Nat.le_of_ble_eq_true rfl) dX5_parameter_35 ⟨Nat.le_of_ble_eq_true rfl, Nat.le_of_ble_eq_true rfl⟩) hP hD hS hA (fun r45 u44 H locs hw43 hP hD hS => ?_)
    obtain ⟨rfl, ex43⟩ := hw43
    refine W.widen (k := 0) (n := 0) (Nat.le_refl _) (Nat.le_refl _) ?_
    refine W.sz (fun hz9 => ?_)
    refine czx_v (rx_Vk (n := 2) (As := [.int 5, .int r45]) (rest := []) hx hb hml hown ht hKK hFx hP hD hS hA (c_x_X9_refuse l dC dI cI cB cZ cJ cR tb H.size ad pr N L1 L2 u10 (5 : Int32) r45 (show l.stackTraces = false from hst) (show (5 : Int) ≠ 0 from om_5e02973d50)) tw_459 tw_578 (by decide +kernel) rfl rfl ⟨Nat.le_of_ble_eq_true rfl, Nat.le_of_ble_eq_true rfl⟩ (List.range (cW ad pr N cI cR L1 L2 u10).length) (rg_map _) (nd_range _) 0 rfl rfl rfl rfl hl.1 rfl (Nat.le_of_ble_eq_true rfl) dX5_parameter_38 ⟨Nat.le_of_ble_eq_true rfl, Nat.le_of_ble_eq_true rfl⟩) hP hD hS hA (fun u9 ce9 q9 H locs hx9 hP hD hS hc9 hv9 hf9 => ?_) (fun u47 H locs hw46 hP hD hS hz8 => ?_)
    · exact vx_out (fun x h9 => (hnt x h9).elim) hlocks hc9 hv9 hf9 (fun t9 ht9 hv8 => ⟨u9, ⟨FC.tr (FC.tr (FC.tr (FC.rf _) (FC.up fr1 (by decide) (by decide))) (FC.up fr9 (by decide) (by decide))) hx9.1, hx9.2.1, ⟨z304, z305, z312, z326, z373, z381, zd, (Or.inr (⟨u2, ex1, ⟨fr1, i3051, pt1, rs1⟩, (Or.inr (⟨r11, u10, ex9, ⟨fr9, pd9, rs9⟩, (Or.inr (⟨z39, r45, ex43, u9, hx9.2.2, rfl, rfl⟩))⟩))⟩))⟩⟩, ⟨rfl, by rw [ht9]; exact hP, hD⟩, hS.F ht9⟩) hS.2.2 (Nat.le_refl _) (Nat.le_refl _)
    refine W.shrink (hz8.trans hz9) ?_
    obtain ⟨fr46, ex46, no46, rs46⟩ := hw46
    have no46 : False := no46
    have rs46 : RS u10 u47 := rs46
    exact no46.elim
theorem om_91b8abe683 {x0 x1 x2 x3 x4 x5 x6 x7 x8 : Int} (h0 : x0 = x1) (h1 : x2 = x3) (h2 : x4 = x5 + 1) (h3 : x6 = x4) (h4 : x7 = x0) (h5 : x8 = x2) : x8 + x7 - 2 * x6 + (2) ≤ x3 + x1 - 2 * x5 := by omega
set_option maxHeartbeats 4000000 in
set_option maxRecDepth 100000 in
theorem c_x_X5_headOfItem (l : Launch) (dC : Nat → ClassId) (dI : Nat → Nat → Nat) (cI cB cZ cJ cR : ClassId) (tb : Nat → Nat) (sz : Nat) (ad : Nat → Nat) (pr : Int32 → Nat) (N : Nat) (L1 L2 : List Nat) (v : MS) (ps : Int32) (z304 : 0 ≤ (v.1 0 304).toInt ∧ (v.1 0 304).toInt ≤ 1503) (z305 : 0 ≤ (v.1 0 305).toInt ∧ (v.1 0 305).toInt ≤ 1500) (z326 : 0 ≤ (v.1 0 326).toInt ∧ (v.1 0 326).toInt ≤ 420) (z373 : 0 ≤ (v.1 0 373).toInt ∧ (v.1 0 373).toInt ≤ 4000) (z381 : 0 ≤ (v.1 0 381).toInt ∧ (v.1 0 381).toInt ≤ 3008) (hL1 : L1.length = 40) (hL2 : L2.length = 60) (rp : RP v) (hps : pr ps = ad 908) (es300 : (v.1 0 300) = ps) (es327 : (v.1 0 327) = ps) (hst : l.stackTraces = false) (zd : (v.1 0 381).toInt + (v.1 0 326).toInt - 2 * (v.1 0 305).toInt ≤ 0) : vx_Met l yX5_headOfItem (Cond.code yX5_headOfItem cX5_headOfItem 2 (some .int) :: tw_W) ({ frames := 8, cells := 1, slots := 6, locals := 125 }) (pc_ (dC, dI) (tyS cI cB cZ cJ cR) tb (cW ad pr N cI cR L1 L2 v) sz [.ref (ad 903)]) (qiz_ (dC, dI) (cW ad pr N cI cR L1 L2 v) sz (fun (r : Int32) (u : MS) => FC [305] [0] v u ∧ (Q_x_X5_headOfItem L1 L2 v false r u) ∧ (0 ≤ (u.1 0 305).toInt ∧ (u.1 0 305).toInt ≤ 1500) ∧ ((u.1 0 381).toInt + (u.1 0 326).toInt - 2 * (u.1 0 305).toInt + (2) ≤ (v.1 0 381).toInt + (v.1 0 326).toInt - 2 * (v.1 0 305).toInt) ∧ ((v.1 0 305).toInt + 1 ≤ (u.1 0 305).toInt) ∧ (RS v u)) (fun (u : MS) => (cW ad pr N cI cR L1 L2 u))) (qxc (dC, dI) (cW ad pr N cI cR L1 L2 v) sz (fun (u : MS) => (cW ad pr N cI cR L1 L2 u)) (fun (u : MS) => FC xfl xal v u ∧ (u.1 0 308).toInt ≠ 0 ∧ (Q_x_X5_headOfItem L1 L2 v true 0 u))) 1 6 (va_A (cW ad pr N cI cR L1 L2 v) sz) := by
  refine vx_ofW (cc := cX5_headOfItem) (maxL := 2) (ret := (some .int)) (by decide) rfl ?_
  intro p e s m args below meth c s₁ B hml hnt hv
  obtain ⟨rfl, hsz, hP, hKK, hD0, hFx⟩ := hv
  have hK := hKK.1
  have hx := B.exec
  have hb := B.bytes
  have hr := B.returns
  have ht : ∀ w ∈ tw_W, w.before _ s = true := fun w h => atoms_spec (ws := Cond.code yX5_headOfItem cX5_headOfItem 2 (some .int) :: tw_W) B.pre w (List.mem_cons_of_mem _ h)
  have hown : s.vm.findClass RX5 = some m.cls := findClass_of_methodNamed B.named
  have hlocks := B.notSynchronized
  subst hsz
  unfold qiz_ qxc
  have hD := hD0.self (sz := s.heap.size)
  generalize hAe : va_A (cW ad pr N cI cR L1 L2 v) s.heap.size = A at hD hFx ⊢
  have hA : ∀ q : Nat, s.heap.size ≤ q → A q := fun q h => by rw [← hAe]; exact Or.inr h
  have hS : va_S A s.heap s.heap [] := va_S.rf
  have hl := lv_entry ([.ref (ad 903)]) (n := 2) (Nat.le_of_ble_eq_true rfl)
  rw [lg_entry_eq]
  generalize (lg_sl ([.ref (ad 903)]) ++ List.replicate (2 - (lg_sl ([.ref (ad 903)])).length) Slot.unset).toArray = ls at hl ⊢
  have hl : lv_has ls 2 [(0, .ref (ad 903))] := hl
  refine lv_aload_n hx hb dX5_headOfItem_0 rfl (lv_at hl 0 rfl) ?_
  refine va_get (D := (dC, dI)) (ci := 8) (fs := oF_X5 ad pr v) (v := .ref (ad 900)) (C := RX5) (T := TX5) (N := 7) hx hb ht itX5 hown hK hP 3 rfl rfl 1 (by decide) (ht _ tw_571) (fun _ h9 => h9) rfl dX5_headOfItem_1 ?_
  refine lv_bipush (v := 10) hx hb dX5_headOfItem_4 (by decide) ?_
  refine W.sz (fun hz9 => ?_)
  refine czx_v (rx_Vk (n := 1) (As := [.int 10]) (rest := []) hx hb hml hown ht hKK hFx hP hD hS hA (c_x_X9_expect l dC dI cI cB cZ cJ cR tb s.heap.size ad pr N L1 L2 v (10 : Int32) ps (show 0 ≤ (v.1 0 304).toInt ∧ (v.1 0 304).toInt ≤ 1503 from (om_c99648273b z304)) (show 0 ≤ (v.1 0 305).toInt ∧ (v.1 0 305).toInt ≤ 1500 from (om_7897b4ccef z305)) (show 0 ≤ (v.1 0 373).toInt ∧ (v.1 0 373).toInt ≤ 4000 from (om_c74a68af25 z373)) (show pr ps = ad 908 from hps) (show (v.1 0 300) = ps from es300) (show l.stackTraces = false from hst)) tw_526 tw_580 (by decide +kernel) rfl rfl ⟨Nat.le_of_ble_eq_true rfl, Nat.le_of_ble_eq_true rfl⟩ (List.range (cW ad pr N cI cR L1 L2 v).length) (rg_map _) (nd_range _) 0 rfl rfl rfl rfl hl.1 rfl (Nat.le_of_ble_eq_true rfl) dX5_headOfItem_6 ⟨Nat.le_of_ble_eq_true rfl, Nat.le_of_ble_eq_true rfl⟩) hP hD hS hA (fun u9 ce9 q9 H locs hx9 hP hD hS hc9 hv9 hf9 => ?_) (fun u2 H locs hw1 hP hD hS hz8 => ?_)
  · exact vx_out (fun x h9 => (hnt x h9).elim) hlocks hc9 hv9 hf9 (fun t9 ht9 hv8 => ⟨u9, ⟨FC.tr (FC.rf _) hx9.1, hx9.2.1, ⟨z304, z305, z326, z373, z381, zd, (Or.inl ⟨u9, hx9.2.2, rfl, rfl, rfl⟩)⟩⟩, ⟨rfl, by rw [ht9]; exact hP, hD⟩, hS.F ht9⟩) hS.2.2 (Nat.le_refl _) (Nat.le_refl _)
  refine W.shrink (hz8.trans hz9) ?_
  obtain ⟨fr1, ex1, i3051, pt1, rs1⟩ := hw1
  refine lv_aload_n hx hb dX5_headOfItem_9 rfl (lv_at hl 0 rfl) ?_
  refine va_get (D := (dC, dI)) (ci := 8) (fs := oF_X5 ad pr u2) (v := .ref (ad 900)) (C := RX5) (T := TX5) (N := 7) hx hb ht itX5 hown hK hP 3 rfl rfl 1 (by decide) (ht _ tw_571) (fun _ h9 => h9) rfl dX5_headOfItem_10 ?_
  refine lv_iconst (v := 2) hx hb dX5_headOfItem_13 (by decide) ?_
  have q4 : (u2.1 0 304).toInt = (v.1 0 304).toInt := congrArg Int32.toInt ((fr1.2.1 304 (by decide)).trans (show v.1 0 304 = (v.1 0 304) by rfl))
  have q5 : (u2.1 0 373).toInt = (v.1 0 373).toInt := congrArg Int32.toInt ((fr1.2.1 373 (by decide)).trans (show v.1 0 373 = (v.1 0 373) by rfl))
  refine W.sz (fun hz9 => ?_)
  refine czx_v (rx_Vk (n := 1) (As := [.int 2]) (rest := []) hx hb hml hown ht hKK hFx hP hD hS hA (c_x_X9_need l dC dI cI cB cZ cJ cR tb H.size ad pr N L1 L2 u2 (2 : Int32) ps (show 0 ≤ (u2.1 0 304).toInt ∧ (u2.1 0 304).toInt ≤ 1503 from (om_73002589c1 z304 q4)) (show 0 ≤ (u2.1 0 305).toInt ∧ (u2.1 0 305).toInt ≤ 1500 from (om_89213937cb z305 i3051 pt1)) (show 0 ≤ (u2.1 0 373).toInt ∧ (u2.1 0 373).toInt ≤ 4000 from (om_9084c127ed z373 q5)) (show pr ps = ad 908 from hps) (show (u2.1 0 300) = ps from (Eq.trans (fr1.2.1 300 (by decide)) es300)) (show l.stackTraces = false from hst)) tw_559 tw_572 (by decide +kernel) rfl rfl ⟨Nat.le_of_ble_eq_true rfl, Nat.le_of_ble_eq_true rfl⟩ (List.range (cW ad pr N cI cR L1 L2 u2).length) (rg_map _) (nd_range _) 0 rfl rfl rfl rfl hl.1 rfl (Nat.le_of_ble_eq_true rfl) dX5_headOfItem_14 ⟨Nat.le_of_ble_eq_true rfl, Nat.le_of_ble_eq_true rfl⟩) hP hD hS hA (fun u9 ce9 q9 H locs hx9 hP hD hS hc9 hv9 hf9 => ?_) (fun u7 H locs hw6 hP hD hS hz8 => ?_)
  · exact vx_out (fun x h9 => (hnt x h9).elim) hlocks hc9 hv9 hf9 (fun t9 ht9 hv8 => ⟨u9, ⟨FC.tr (FC.tr (FC.rf _) (FC.up fr1 (by decide) (by decide))) hx9.1, hx9.2.1, ⟨z304, z305, z326, z373, z381, zd, (Or.inr (⟨u2, ex1, ⟨fr1, i3051, pt1, rs1⟩, (Or.inl ⟨u9, hx9.2.2, rfl, rfl, rfl⟩)⟩))⟩⟩, ⟨rfl, by rw [ht9]; exact hP, hD⟩, hS.F ht9⟩) hS.2.2 (Nat.le_refl _) (Nat.le_refl _)
  refine W.shrink (hz8.trans hz9) ?_
  obtain ⟨fr6, ex6, rs6⟩ := hw6
  have rs6 : RS u2 u7 := rs6
  refine lv_aload_n hx hb dX5_headOfItem_17 rfl (lv_at hl 0 rfl) ?_
  refine va_get (D := (dC, dI)) (ci := 8) (fs := oF_X5 ad pr u7) (v := .ref (ad 900)) (C := RX5) (T := TX5) (N := 7) hx hb ht itX5 hown hK hP 3 rfl rfl 1 (by decide) (ht _ tw_571) (fun _ h9 => h9) rfl dX5_headOfItem_18 ?_
  have q10 : (u7.1 0 304).toInt = (u2.1 0 304).toInt := congrArg Int32.toInt ((fr6.2.1 304 (by decide)).trans (show u2.1 0 304 = (u2.1 0 304) by rfl))
  have q11 : (u7.1 0 305).toInt = (u2.1 0 305).toInt := congrArg Int32.toInt ((fr6.2.1 305 (by decide)).trans (show u2.1 0 305 = (u2.1 0 305) by rfl))
  refine cu_i (rn_Vk (n := 0) (As := []) (rest := []) hx hb hml hown ht hKK hFx hP hD hS hA (c_x_X9_value l dC dI cI cB cZ cJ cR tb H.size ad pr N L1 L2 u7  (show 0 ≤ (u7.1 0 304).toInt ∧ (u7.1 0 304).toInt ≤ 1503 from (om_dd87ee851a z304 q4 q10)) (show 0 ≤ (u7.1 0 305).toInt ∧ (u7.1 0 305).toInt ≤ 1500 from (om_570f2378f1 z305 i3051 pt1 q11))) tw_535 tw_574 (by decide +kernel) rfl rfl ⟨Nat.le_of_ble_eq_true rfl, Nat.le_of_ble_eq_true rfl⟩ (List.range (cW ad pr N cI cR L1 L2 u7).length) (rg_map _) (nd_range _) 0 rfl rfl rfl rfl hl.1 rfl (Nat.le_of_ble_eq_true rfl) dX5_headOfItem_21 ⟨Nat.le_of_ble_eq_true rfl, Nat.le_of_ble_eq_true rfl⟩) hP hD hS hA (fun r14 u13 H locs hw12 hP hD hS => ?_)
  obtain ⟨rfl, ex12⟩ := hw12
  refine W.widen (k := 0) (n := 0) (Nat.le_refl _) (Nat.le_refl _) ?_
  refine lv_istore_n (lv' := [(1, .int r14), (0, .ref (ad 903))]) hx hb dX5_headOfItem_24 rfl hl (by decide) rfl (fun ls hl => ?_)
  refine lv_aload_n hx hb dX5_headOfItem_25 rfl (lv_at hl 1 rfl) ?_
  refine va_get (D := (dC, dI)) (ci := 8) (fs := oF_X5 ad pr u7) (v := .ref (pr (u7.1 0 327))) (C := RX5) (T := TX5) (N := 7) hx hb ht itX5 hown hK hP 3 rfl rfl 0 (by decide) (ht _ tw_588) (fun _ h9 => h9) rfl dX5_headOfItem_26 ?_
  refine lv_iload_n hx hb dX5_headOfItem_29 rfl (lv_at hl 0 rfl) ?_
  refine W.eq (g2 := F0 m 30 ls [.int r14, .ref (ad 908)]) (by rw [show pr (u7.1 0 327) = (ad 908) from (by rw [show (u7.1 0 327) = ps from (Eq.trans (fr6.2.1 327 (by decide)) (Eq.trans (fr1.2.1 327 (by decide)) es327))]; exact hps)]) ?_
  refine cu_i (rn_Vk (n := 1) (As := [.int r14]) (rest := []) hx hb hml hown ht hKK hFx hP hD hS hA (c_x_X7_functionNamed l dC dI cI cB cZ cJ cR tb H.size ad pr N L1 L2 u7 r14 (show L1.length = 40 from hL1) (show L2.length = 60 from hL2) (show RP u7 from ((show FC [305] [0] v u7 from (FC.tr (FC.tr (FC.rf _) (FC.up fr1 (by decide) (by decide))) (FC.up fr6 (by decide) (by decide)))).1 rp))) tw_490 tw_589 (by decide +kernel) rfl rfl ⟨Nat.le_of_ble_eq_true rfl, Nat.le_of_ble_eq_true rfl⟩ (List.range (cW ad pr N cI cR L1 L2 u7).length) (rg_map _) (nd_range _) 8 rfl rfl rfl rfl hl.1 rfl (Nat.le_of_ble_eq_true rfl) dX5_headOfItem_30 ⟨Nat.le_of_ble_eq_true rfl, Nat.le_of_ble_eq_true rfl⟩) hP hD hS hA (fun r17 u16 H locs hw15 hP hD hS => ?_)
  obtain ⟨rfl, ex15⟩ := hw15
  refine W.widen (k := 0) (n := 0) (Nat.le_refl _) (Nat.le_refl _) ?_
  refine lv_iconst (v := -1) hx hb dX5_headOfItem_33 (by decide) ?_
  refine lv_icmp_ne (tgt := 49) hx hb dX5_headOfItem_34 (by decide) (fun h18 => ?_) (fun h18 => ?_)
  · have z19 : r17.toInt ≠ (-1 : Int) := ne_z rfl (show ((-1) : Int32).toInt = (-1 : Int) by decide) h18
    refine lv_aload_n hx hb dX5_headOfItem_49 rfl (lv_at hl 1 rfl) ?_
    refine va_get (D := (dC, dI)) (ci := 8) (fs := oF_X5 ad pr u7) (v := .ref (ad 900)) (C := RX5) (T := TX5) (N := 7) hx hb ht itX5 hown hK hP 3 rfl rfl 1 (by decide) (ht _ tw_571) (fun _ h9 => h9) rfl dX5_headOfItem_50 ?_
    refine lv_iconst (v := 3) hx hb dX5_headOfItem_53 (by decide) ?_
    refine lv_aload_n hx hb dX5_headOfItem_54 rfl (lv_at hl 1 rfl) ?_
    refine va_get (D := (dC, dI)) (ci := 8) (fs := oF_X5 ad pr u7) (v := .ref (ad 900)) (C := RX5) (T := TX5) (N := 7) hx hb ht itX5 hown hK hP 3 rfl rfl 1 (by decide) (ht _ tw_571) (fun _ h9 => h9) rfl dX5_headOfItem_55 ?_
    have q20 : (u7.1 0 373).toInt = (u2.1 0 373).toInt := congrArg Int32.toInt ((fr6.2.1 373 (by decide)).trans (show u2.1 0 373 = (u2.1 0 373) by rfl))
    refine cu_i (rn_Vk (n := 0) (As := []) (rest := [.int 3, .ref (ad 900)]) hx hb hml hown ht hKK hFx hP hD hS hA (c_x_X9_place l dC dI cI cB cZ cJ cR tb H.size ad pr N L1 L2 u7 ps (show 0 ≤ (u7.1 0 304).toInt ∧ (u7.1 0 304).toInt ≤ 1503 from (om_dd87ee851a z304 q4 q10)) (show 0 ≤ (u7.1 0 305).toInt ∧ (u7.1 0 305).toInt ≤ 1500 from (om_570f2378f1 z305 i3051 pt1 q11)) (show 0 ≤ (u7.1 0 373).toInt ∧ (u7.1 0 373).toInt ≤ 4000 from (om_03cd8767ac z373 q5 q20)) (show pr ps = ad 908 from hps) (show (u7.1 0 300) = ps from (Eq.trans (fr6.2.1 300 (by decide)) (Eq.trans (fr1.2.1 300 (by decide)) es300)))) tw_457 tw_577 (by decide +kernel) rfl rfl ⟨Nat.le_of_ble_eq_true rfl, Nat.le_of_ble_eq_true rfl⟩ (List.range (cW ad pr N cI cR L1 L2 u7).length) (rg_map _) (nd_range _) 0 rfl rfl rfl rfl hl.1 rfl (Nat.le_of_ble_eq_true rfl) dX5_headOfItem_58 ⟨Nat.le_of_ble_eq_true rfl, Nat.le_of_ble_eq_true rfl⟩) hP hD hS hA (fun r23 u22 H locs hw21 hP hD hS => ?_)
    obtain ⟨rfl, ex21⟩ := hw21
    refine W.widen (k := 0) (n := 0) (Nat.le_refl _) (Nat.le_refl _) ?_
    refine W.sz (fun hz9 => ?_)
    refine czx_v (rx_Vk (n := 2) (As := [.int 3, .int r23]) (rest := []) hx hb hml hown ht hKK hFx hP hD hS hA (c_x_X9_refuse l dC dI cI cB cZ cJ cR tb H.size ad pr N L1 L2 u7 (3 : Int32) r23 (show l.stackTraces = false from hst) (show (3 : Int) ≠ 0 from om_59881768ad)) tw_459 tw_578 (by decide +kernel) rfl rfl ⟨Nat.le_of_ble_eq_true rfl, Nat.le_of_ble_eq_true rfl⟩ (List.range (cW ad pr N cI cR L1 L2 u7).length) (rg_map _) (nd_range _) 0 rfl rfl rfl rfl hl.1 rfl (Nat.le_of_ble_eq_true rfl) dX5_headOfItem_61 ⟨Nat.le_of_ble_eq_true rfl, Nat.le_of_ble_eq_true rfl⟩) hP hD hS hA (fun u9 ce9 q9 H locs hx9 hP hD hS hc9 hv9 hf9 => ?_) (fun u25 H locs hw24 hP hD hS hz8 => ?_)
    · exact vx_out (fun x h9 => (hnt x h9).elim) hlocks hc9 hv9 hf9 (fun t9 ht9 hv8 => ⟨u9, ⟨FC.tr (FC.tr (FC.tr (FC.rf _) (FC.up fr1 (by decide) (by decide))) (FC.up fr6 (by decide) (by decide))) hx9.1, hx9.2.1, ⟨z304, z305, z326, z373, z381, zd, (Or.inr (⟨u2, ex1, ⟨fr1, i3051, pt1, rs1⟩, (Or.inr (⟨u7, ex6, ⟨fr6, rs6⟩, r14, ex12, r17, ex15, (Or.inl ⟨z19, r23, ex21, u9, hx9.2.2, rfl, rfl, rfl⟩)⟩))⟩))⟩⟩, ⟨rfl, by rw [ht9]; exact hP, hD⟩, hS.F ht9⟩) hS.2.2 (Nat.le_refl _) (Nat.le_refl _)
    refine W.shrink (hz8.trans hz9) ?_
    obtain ⟨fr24, ex24, no24, rs24⟩ := hw24
    have no24 : False := no24
    have rs24 : RS u7 u25 := rs24
    exact no24.elim
  · have z27 : r17.toInt = (-1 : Int) := eq_z rfl (show ((-1) : Int32).toInt = (-1 : Int) by decide) h18
    refine lv_aload_n hx hb dX5_headOfItem_37 rfl (lv_at hl 1 rfl) ?_
    refine va_get (D := (dC, dI)) (ci := 8) (fs := oF_X5 ad pr u7) (v := .ref (pr (u7.1 0 327))) (C := RX5) (T := TX5) (N := 7) hx hb ht itX5 hown hK hP 3 rfl rfl 0 (by decide) (ht _ tw_588) (fun _ h9 => h9) rfl dX5_headOfItem_38 ?_
    refine lv_iload_n hx hb dX5_headOfItem_41 rfl (lv_at hl 0 rfl) ?_
    refine W.eq (g2 := F0 m 42 ls [.int r14, .ref (ad 908)]) (by rw [show pr (u7.1 0 327) = (ad 908) from (by rw [show (u7.1 0 327) = ps from (Eq.trans (fr6.2.1 327 (by decide)) (Eq.trans (fr1.2.1 327 (by decide)) es327))]; exact hps)]) ?_
    refine cu_i (rn_Vk (n := 1) (As := [.int r14]) (rest := []) hx hb hml hown ht hKK hFx hP hD hS hA (c_x_X7_globalNamed l dC dI cI cB cZ cJ cR tb H.size ad pr N L1 L2 u7 r14 (show L1.length = 40 from hL1) (show L2.length = 60 from hL2) (show RP u7 from ((show FC [305] [0] v u7 from (FC.tr (FC.tr (FC.rf _) (FC.up fr1 (by decide) (by decide))) (FC.up fr6 (by decide) (by decide)))).1 rp))) tw_553 tw_590 (by decide +kernel) rfl rfl ⟨Nat.le_of_ble_eq_true rfl, Nat.le_of_ble_eq_true rfl⟩ (List.range (cW ad pr N cI cR L1 L2 u7).length) (rg_map _) (nd_range _) 8 rfl rfl rfl rfl hl.1 rfl (Nat.le_of_ble_eq_true rfl) dX5_headOfItem_42 ⟨Nat.le_of_ble_eq_true rfl, Nat.le_of_ble_eq_true rfl⟩) hP hD hS hA (fun r30 u29 H locs hw28 hP hD hS => ?_)
    obtain ⟨rfl, ex28⟩ := hw28
    refine W.widen (k := 0) (n := 0) (Nat.le_refl _) (Nat.le_refl _) ?_
    refine lv_iconst (v := -1) hx hb dX5_headOfItem_45 (by decide) ?_
    refine lv_icmp_eq (tgt := 64) hx hb dX5_headOfItem_46 (by decide) (fun h31 => ?_) (fun h31 => ?_)
    · have z32 : r30.toInt = (-1 : Int) := eq_z rfl (show ((-1) : Int32).toInt = (-1 : Int) by decide) h31
      refine lv_aload_n hx hb dX5_headOfItem_64 rfl (lv_at hl 1 rfl) ?_
      refine va_get (D := (dC, dI)) (ci := 8) (fs := oF_X5 ad pr u7) (v := .ref (ad 900)) (C := RX5) (T := TX5) (N := 7) hx hb ht itX5 hown hK hP 3 rfl rfl 1 (by decide) (ht _ tw_571) (fun _ h9 => h9) rfl dX5_headOfItem_65 ?_
      refine cu_i (rn_Vk (n := 0) (As := []) (rest := []) hx hb hml hown ht hKK hFx hP hD hS hA (c_x_X9_kindBehind l dC dI cI cB cZ cJ cR tb H.size ad pr N L1 L2 u7  (show 0 ≤ (u7.1 0 304).toInt ∧ (u7.1 0 304).toInt ≤ 1503 from (om_dd87ee851a z304 q4 q10)) (show 0 ≤ (u7.1 0 305).toInt ∧ (u7.1 0 305).toInt ≤ 1500 from (om_570f2378f1 z305 i3051 pt1 q11))) tw_543 tw_591 (by decide +kernel) rfl rfl ⟨Nat.le_of_ble_eq_true rfl, Nat.le_of_ble_eq_true rfl⟩ (List.range (cW ad pr N cI cR L1 L2 u7).length) (rg_map _) (nd_range _) 0 rfl rfl rfl rfl hl.1 rfl (Nat.le_of_ble_eq_true rfl) dX5_headOfItem_68 ⟨Nat.le_of_ble_eq_true rfl, Nat.le_of_ble_eq_true rfl⟩) hP hD hS hA (fun r35 u34 H locs hw33 hP hD hS => ?_)
      obtain ⟨rfl, ex33⟩ := hw33
      refine W.widen (k := 0) (n := 0) (Nat.le_refl _) (Nat.le_refl _) ?_
      have q36 : (u2.1 0 326).toInt = (v.1 0 326).toInt := congrArg Int32.toInt ((fr1.2.1 326 (by decide)).trans (show v.1 0 326 = (v.1 0 326) by rfl))
      have q37 : (u2.1 0 381).toInt = (v.1 0 381).toInt := congrArg Int32.toInt ((fr1.2.1 381 (by decide)).trans (show v.1 0 381 = (v.1 0 381) by rfl))
      have q38 : (u7.1 0 326).toInt = (u2.1 0 326).toInt := congrArg Int32.toInt ((fr6.2.1 326 (by decide)).trans (show u2.1 0 326 = (u2.1 0 326) by rfl))
      have q39 : (u7.1 0 381).toInt = (u2.1 0 381).toInt := congrArg Int32.toInt ((fr6.2.1 381 (by decide)).trans (show u2.1 0 381 = (u2.1 0 381) by rfl))
      refine W.sz (fun hz => ?_)
      refine vx_ret ?_
      refine W.widen (k := 1) (n := 6) (Nat.le_of_ble_eq_true rfl) (Nat.le_of_ble_eq_true rfl) ?_
      exact W.iret (v := r35) hx hb hr (fun t ht9 hW => ⟨⟨r35, u7, rfl, ⟨(FC.tr (FC.tr (FC.rf _) (FC.up fr1 (by decide) (by decide))) (FC.up fr6 (by decide) (by decide))), ⟨z304, z305, z326, z373, z381, zd, (Or.inr (⟨u2, ex1, ⟨fr1, i3051, pt1, rs1⟩, (Or.inr (⟨u7, ex6, ⟨fr6, rs6⟩, r14, ex12, r17, ex15, (Or.inr (⟨z27, r30, ex28, (Or.inl ⟨z32, r35, ex33, rfl, rfl, rfl⟩)⟩))⟩))⟩))⟩, (show 0 ≤ (u7.1 0 305).toInt ∧ (u7.1 0 305).toInt ≤ 1500 from (om_570f2378f1 z305 i3051 pt1 q11)), (show (u7.1 0 381).toInt + (u7.1 0 326).toInt - 2 * (u7.1 0 305).toInt + (2) ≤ (v.1 0 381).toInt + (v.1 0 326).toInt - 2 * (v.1 0 305).toInt from (om_91b8abe683 q36 q37 pt1 q11 q38 q39)), (show (v.1 0 305).toInt + 1 ≤ (u7.1 0 305).toInt from (om_c67b42e814 pt1 q11)), (RS.tr (RS.tr RS.rf rs1) rs6)⟩, ⟨by rw [ht9]; exact hP, hD⟩, by rw [ht9]; exact hz⟩, hS.F ht9⟩) hS.2.2 dX5_headOfItem_71
    · have z40 : r30.toInt ≠ (-1 : Int) := ne_z rfl (show ((-1) : Int32).toInt = (-1 : Int) by decide) h31
      refine lv_aload_n hx hb dX5_headOfItem_49 rfl (lv_at hl 1 rfl) ?_
      refine va_get (D := (dC, dI)) (ci := 8) (fs := oF_X5 ad pr u7) (v := .ref (ad 900)) (C := RX5) (T := TX5) (N := 7) hx hb ht itX5 hown hK hP 3 rfl rfl 1 (by decide) (ht _ tw_571) (fun _ h9 => h9) rfl dX5_headOfItem_50 ?_
      refine lv_iconst (v := 3) hx hb dX5_headOfItem_53 (by decide) ?_
      refine lv_aload_n hx hb dX5_headOfItem_54 rfl (lv_at hl 1 rfl) ?_
      refine va_get (D := (dC, dI)) (ci := 8) (fs := oF_X5 ad pr u7) (v := .ref (ad 900)) (C := RX5) (T := TX5) (N := 7) hx hb ht itX5 hown hK hP 3 rfl rfl 1 (by decide) (ht _ tw_571) (fun _ h9 => h9) rfl dX5_headOfItem_55 ?_
      have q41 : (u7.1 0 373).toInt = (u2.1 0 373).toInt := congrArg Int32.toInt ((fr6.2.1 373 (by decide)).trans (show u2.1 0 373 = (u2.1 0 373) by rfl))
      refine cu_i (rn_Vk (n := 0) (As := []) (rest := [.int 3, .ref (ad 900)]) hx hb hml hown ht hKK hFx hP hD hS hA (c_x_X9_place l dC dI cI cB cZ cJ cR tb H.size ad pr N L1 L2 u7 ps (show 0 ≤ (u7.1 0 304).toInt ∧ (u7.1 0 304).toInt ≤ 1503 from (om_dd87ee851a z304 q4 q10)) (show 0 ≤ (u7.1 0 305).toInt ∧ (u7.1 0 305).toInt ≤ 1500 from (om_570f2378f1 z305 i3051 pt1 q11)) (show 0 ≤ (u7.1 0 373).toInt ∧ (u7.1 0 373).toInt ≤ 4000 from (om_03cd8767ac z373 q5 q41)) (show pr ps = ad 908 from hps) (show (u7.1 0 300) = ps from (Eq.trans (fr6.2.1 300 (by decide)) (Eq.trans (fr1.2.1 300 (by decide)) es300)))) tw_457 tw_577 (by decide +kernel) rfl rfl ⟨Nat.le_of_ble_eq_true rfl, Nat.le_of_ble_eq_true rfl⟩ (List.range (cW ad pr N cI cR L1 L2 u7).length) (rg_map _) (nd_range _) 0 rfl rfl rfl rfl hl.1 rfl (Nat.le_of_ble_eq_true rfl) dX5_headOfItem_58 ⟨Nat.le_of_ble_eq_true rfl, Nat.le_of_ble_eq_true rfl⟩) hP hD hS hA (fun r44 u43 H locs hw42 hP hD hS => ?_)
      obtain ⟨rfl, ex42⟩ := hw42
      refine W.widen (k := 0) (n := 0) (Nat.le_refl _) (Nat.le_refl _) ?_
      refine W.sz (fun hz9 => ?_)
      refine czx_v (rx_Vk (n := 2) (As := [.int 3, .int r44]) (rest := []) hx hb hml hown ht hKK hFx hP hD hS hA (c_x_X9_refuse l dC dI cI cB cZ cJ cR tb H.size ad pr N L1 L2 u7 (3 : Int32) r44 (show l.stackTraces = false from hst) (show (3 : Int) ≠ 0 from om_59881768ad)) tw_459 tw_578 (by decide +kernel) rfl rfl ⟨Nat.le_of_ble_eq_true rfl, Nat.le_of_ble_eq_true rfl⟩ (List.range (cW ad pr N cI cR L1 L2 u7).length) (rg_map _) (nd_range _) 0 rfl rfl rfl rfl hl.1 rfl (Nat.le_of_ble_eq_true rfl) dX5_headOfItem_61 ⟨Nat.le_of_ble_eq_true rfl, Nat.le_of_ble_eq_true rfl⟩) hP hD hS hA (fun u9 ce9 q9 H locs hx9 hP hD hS hc9 hv9 hf9 => ?_) (fun u46 H locs hw45 hP hD hS hz8 => ?_)
      · exact vx_out (fun x h9 => (hnt x h9).elim) hlocks hc9 hv9 hf9 (fun t9 ht9 hv8 => ⟨u9, ⟨FC.tr (FC.tr (FC.tr (FC.rf _) (FC.up fr1 (by decide) (by decide))) (FC.up fr6 (by decide) (by decide))) hx9.1, hx9.2.1, ⟨z304, z305, z326, z373, z381, zd, (Or.inr (⟨u2, ex1, ⟨fr1, i3051, pt1, rs1⟩, (Or.inr (⟨u7, ex6, ⟨fr6, rs6⟩, r14, ex12, r17, ex15, (Or.inr (⟨z27, r30, ex28, (Or.inr (⟨z40, r44, ex42, u9, hx9.2.2, rfl, rfl, rfl⟩))⟩))⟩))⟩))⟩⟩, ⟨rfl, by rw [ht9]; exact hP, hD⟩, hS.F ht9⟩) hS.2.2 (Nat.le_refl _) (Nat.le_refl _)
      refine W.shrink (hz8.trans hz9) ?_
      obtain ⟨fr45, ex45, no45, rs45⟩ := hw45
      have no45 : False := no45
      have rs45 : RS u7 u46 := rs45
      exact no45.elim
theorem om_a7ab80defd {x0 x1 x2 x3 : Int} (h0 : 0 ≤ x0 ∧ x0 ≤ 1500) (h1 : 0 ≤ x1 ∧ x1 ≤ 420) (h2 : x2 + x1 - 2 * x0 ≤ 0) (h3 : x3 = x2) : x3 < 3008 := by omega
theorem om_c0bcdb8675 {x0 x1 x2 x3 x4 x5 : Int} (h0 : 0 ≤ x0 ∧ x0 ≤ 1500) (h1 : 0 ≤ x1 ∧ x1 ≤ 420) (h2 : 0 ≤ x2 ∧ x2 ≤ 3008) (h3 : x2 + x1 - 2 * x0 ≤ 0) (h4 : x3 = x2) (h5 : x4 = x3 + 1) (h6 : x5 = x4) : 0 ≤ x5 ∧ x5 ≤ 3008 := by omega
theorem om_487aa8a387 {x0 x1 x2 x3 x4 x5 x6 x7 x8 x9 x10 x11 : Int} (h0 : x0 = x1) (h1 : x2 = x3) (h2 : x4 = x5 + 1) (h3 : x6 = x4) (h4 : x7 = x0) (h5 : x8 = x2 + 1) (h6 : x9 = x7) (h7 : x10 = x8) (h8 : x11 = x6 + 1) : x10 + x9 - 2 * x11 + (3) ≤ x3 + x1 - 2 * x5 := by omega
theorem om_be302c4304 {x0 x1 x2 x3 : Int} (h0 : x0 = x1 + 1) (h1 : x2 = x0) (h2 : x3 = x2 + 1) : x1 + 2 ≤ x3 := by omega
theorem om_e23802e45a : (6 : Int) ≠ 0 := by omega
set_option maxHeartbeats 4000000 in
set_option maxRecDepth 100000 in
theorem c_x_X5_jumpStat (l : Launch) (dC : Nat → ClassId) (dI : Nat → Nat → Nat) (cI cB cZ cJ cR : ClassId) (tb : Nat → Nat) (sz : Nat) (ad : Nat → Nat) (pr : Int32 → Nat) (N : Nat) (L1 L2 : List Nat) (v : MS) (pa : Int32) (ps : Int32) (z304 : 0 ≤ (v.1 0 304).toInt ∧ (v.1 0 304).toInt ≤ 1503) (z305 : 0 ≤ (v.1 0 305).toInt ∧ (v.1 0 305).toInt ≤ 1500) (z326 : 0 ≤ (v.1 0 326).toInt ∧ (v.1 0 326).toInt ≤ 420) (z373 : 0 ≤ (v.1 0 373).toInt ∧ (v.1 0 373).toInt ≤ 4000) (z381 : 0 ≤ (v.1 0 381).toInt ∧ (v.1 0 381).toInt ≤ 3008) (hps : pr ps = ad 908) (es300 : (v.1 0 300) = ps) (es310 : (v.1 0 310) = ps) (hst : l.stackTraces = false) (zd : (v.1 0 381).toInt + (v.1 0 326).toInt - 2 * (v.1 0 305).toInt ≤ 0) : vx_Met l yX5_jumpStat (Cond.code yX5_jumpStat cX5_jumpStat 3 none :: tw_W) ({ frames := 8, cells := 1, slots := 6, locals := 125 }) (pc_ (dC, dI) (tyS cI cB cZ cJ cR) tb (cW ad pr N cI cR L1 L2 v) sz [.ref (ad 903), .int pa]) (qvz_ (dC, dI) (cW ad pr N cI cR L1 L2 v) sz (fun (u : MS) => FC [305, 381] [0, 378, 379, 380] v u ∧ (Q_x_X5_jumpStat L1 L2 v pa false u) ∧ (0 ≤ (u.1 0 305).toInt ∧ (u.1 0 305).toInt ≤ 1500) ∧ (0 ≤ (u.1 0 381).toInt ∧ (u.1 0 381).toInt ≤ 3008) ∧ ((u.1 0 381).toInt + (u.1 0 326).toInt - 2 * (u.1 0 305).toInt + (3) ≤ (v.1 0 381).toInt + (v.1 0 326).toInt - 2 * (v.1 0 305).toInt) ∧ ((v.1 0 305).toInt + 2 ≤ (u.1 0 305).toInt) ∧ (RS v u)) (fun (u : MS) => (cW ad pr N cI cR L1 L2 u))) (qxc (dC, dI) (cW ad pr N cI cR L1 L2 v) sz (fun (u : MS) => (cW ad pr N cI cR L1 L2 u)) (fun (u : MS) => FC xfl xal v u ∧ (u.1 0 308).toInt ≠ 0 ∧ (Q_x_X5_jumpStat L1 L2 v pa true u))) 1 6 (va_A (cW ad pr N cI cR L1 L2 v) sz) := by
  refine vx_ofW (cc := cX5_jumpStat) (maxL := 3) (ret := none) (by decide) rfl ?_
  intro p e s m args below meth c s₁ B hml hnt hv
  obtain ⟨rfl, hsz, hP, hKK, hD0, hFx⟩ := hv
  have hK := hKK.1
  have hx := B.exec
  have hb := B.bytes
  have hr := B.returns
  have ht : ∀ w ∈ tw_W, w.before _ s = true := fun w h => atoms_spec (ws := Cond.code yX5_jumpStat cX5_jumpStat 3 none :: tw_W) B.pre w (List.mem_cons_of_mem _ h)
  have hown : s.vm.findClass RX5 = some m.cls := findClass_of_methodNamed B.named
  have hlocks := B.notSynchronized
  subst hsz
  unfold qvz_ qxc
  have hD := hD0.self (sz := s.heap.size)
  generalize hAe : va_A (cW ad pr N cI cR L1 L2 v) s.heap.size = A at hD hFx ⊢
  have hA : ∀ q : Nat, s.heap.size ≤ q → A q := fun q h => by rw [← hAe]; exact Or.inr h
  have hS : va_S A s.heap s.heap [] := va_S.rf
  have hl := lv_entry ([.ref (ad 903), .int pa]) (n := 3) (Nat.le_of_ble_eq_true rfl)
  rw [lg_entry_eq]
  generalize (lg_sl ([.ref (ad 903), .int pa]) ++ List.replicate (3 - (lg_sl ([.ref (ad 903), .int pa])).length) Slot.unset).toArray = ls at hl ⊢
  have hl : lv_has ls 3 [(0, .ref (ad 903)), (1, .int pa)] := hl
  refine lv_aload_n hx hb dX5_jumpStat_0 rfl (lv_at hl 0 rfl) ?_
  refine va_get (D := (dC, dI)) (ci := 8) (fs := oF_X5 ad pr v) (v := .ref (ad 900)) (C := RX5) (T := TX5) (N := 7) hx hb ht itX5 hown hK hP 3 rfl rfl 1 (by decide) (ht _ tw_571) (fun _ h9 => h9) rfl dX5_jumpStat_1 ?_
  refine cu_i (rn_Vk (n := 0) (As := []) (rest := []) hx hb hml hown ht hKK hFx hP hD hS hA (c_x_X9_place l dC dI cI cB cZ cJ cR tb s.heap.size ad pr N L1 L2 v ps (show 0 ≤ (v.1 0 304).toInt ∧ (v.1 0 304).toInt ≤ 1503 from (om_c99648273b z304)) (show 0 ≤ (v.1 0 305).toInt ∧ (v.1 0 305).toInt ≤ 1500 from (om_7897b4ccef z305)) (show 0 ≤ (v.1 0 373).toInt ∧ (v.1 0 373).toInt ≤ 4000 from (om_c74a68af25 z373)) (show pr ps = ad 908 from hps) (show (v.1 0 300) = ps from es300)) tw_457 tw_577 (by decide +kernel) rfl rfl ⟨Nat.le_of_ble_eq_true rfl, Nat.le_of_ble_eq_true rfl⟩ (List.range (cW ad pr N cI cR L1 L2 v).length) (rg_map _) (nd_range _) 0 rfl rfl rfl rfl hl.1 rfl (Nat.le_of_ble_eq_true rfl) dX5_jumpStat_4 ⟨Nat.le_of_ble_eq_true rfl, Nat.le_of_ble_eq_true rfl⟩) hP hD hS hA (fun r3 u2 H locs hw1 hP hD hS => ?_)
  obtain ⟨rfl, ex1⟩ := hw1
  refine W.widen (k := 0) (n := 0) (Nat.le_refl _) (Nat.le_refl _) ?_
  refine lv_istore_n (lv' := [(2, .int r3), (0, .ref (ad 903)), (1, .int pa)]) hx hb dX5_jumpStat_7 rfl hl (by decide) rfl (fun ls hl => ?_)
  refine lv_aload_n hx hb dX5_jumpStat_8 rfl (lv_at hl 1 rfl) ?_
  refine va_get (D := (dC, dI)) (ci := 8) (fs := oF_X5 ad pr v) (v := .ref (ad 900)) (C := RX5) (T := TX5) (N := 7) hx hb ht itX5 hown hK hP 3 rfl rfl 1 (by decide) (ht _ tw_571) (fun _ h9 => h9) rfl dX5_jumpStat_9 ?_
  refine W.sz (fun hz9 => ?_)
  refine czx_v (rx_Vk (n := 0) (As := []) (rest := []) hx hb hml hown ht hKK hFx hP hD hS hA (c_x_X9_take l dC dI cI cB cZ cJ cR tb H.size ad pr N L1 L2 v ps (show 0 ≤ (v.1 0 304).toInt ∧ (v.1 0 304).toInt ≤ 1503 from (om_c99648273b z304)) (show 0 ≤ (v.1 0 305).toInt ∧ (v.1 0 305).toInt ≤ 1500 from (om_7897b4ccef z305)) (show 0 ≤ (v.1 0 373).toInt ∧ (v.1 0 373).toInt ≤ 4000 from (om_c74a68af25 z373)) (show pr ps = ad 908 from hps) (show (v.1 0 300) = ps from es300) (show l.stackTraces = false from hst)) tw_539 tw_585 (by decide +kernel) rfl rfl ⟨Nat.le_of_ble_eq_true rfl, Nat.le_of_ble_eq_true rfl⟩ (List.range (cW ad pr N cI cR L1 L2 v).length) (rg_map _) (nd_range _) 0 rfl rfl rfl rfl hl.1 rfl (Nat.le_of_ble_eq_true rfl) dX5_jumpStat_12 ⟨Nat.le_of_ble_eq_true rfl, Nat.le_of_ble_eq_true rfl⟩) hP hD hS hA (fun u9 ce9 q9 H locs hx9 hP hD hS hc9 hv9 hf9 => ?_) (fun u5 H locs hw4 hP hD hS hz8 => ?_)
  · exact vx_out (fun x h9 => (hnt x h9).elim) hlocks hc9 hv9 hf9 (fun t9 ht9 hv8 => ⟨u9, ⟨FC.tr (FC.rf _) hx9.1, hx9.2.1, ⟨z304, z305, z326, z373, z381, zd, r3, ex1, (Or.inl ⟨u9, hx9.2.2, rfl, rfl⟩)⟩⟩, ⟨rfl, by rw [ht9]; exact hP, hD⟩, hS.F ht9⟩) hS.2.2 (Nat.le_refl _) (Nat.le_refl _)
  refine W.shrink (hz8.trans hz9) ?_
  obtain ⟨fr4, ex4, i3054, pt4, rs4⟩ := hw4
  refine lv_iload_n hx hb dX5_jumpStat_15 rfl (lv_at hl 2 rfl) ?_
  refine lv_iconst (v := -1) hx hb dX5_jumpStat_16 (by decide) ?_
  refine lv_icmp_ne (tgt := 30) hx hb dX5_jumpStat_17 (by decide) (fun h7 => ?_) (fun h7 => ?_)
  · have z8 : pa.toInt ≠ (-1 : Int) := ne_z rfl (show ((-1) : Int32).toInt = (-1 : Int) by decide) h7
    refine lv_aload_n hx hb dX5_jumpStat_30 rfl (lv_at hl 1 rfl) ?_
    refine va_get (D := (dC, dI)) (ci := 8) (fs := oF_X5 ad pr u5) (v := .ref (ad 901)) (C := RX5) (T := TX5) (N := 7) hx hb ht itX5 hown hK hP 3 rfl rfl 2 (by decide) (ht _ tw_573) (fun _ h9 => h9) rfl dX5_jumpStat_31 ?_
    refine lv_bipush (v := 19) hx hb dX5_jumpStat_34 (by decide) ?_
    refine lv_iload_n hx hb dX5_jumpStat_36 rfl (lv_at hl 2 rfl) ?_
    refine lv_iconst (v := 0) hx hb dX5_jumpStat_37 (by decide) ?_
    have q10 : (u5.1 0 381).toInt = (v.1 0 381).toInt := congrArg Int32.toInt ((fr4.2.1 381 (by decide)).trans (show v.1 0 381 = (v.1 0 381) by rfl))
    refine cu_v (rn_Vk (n := 3) (As := [.int 19, .int pa, .int 0]) (rest := []) hx hb hml hown ht hKK hFx hP hD hS hA (c_x_X1_add l dC dI cI cB cZ cJ cR tb H.size ad pr N L1 L2 u5 (19 : Int32) pa (0 : Int32) ps (show 0 ≤ (u5.1 0 381).toInt ∧ (u5.1 0 381).toInt ≤ 3008 from (om_3d2979e731 z305 z326 z381 zd q10)) (show pr ps = ad 908 from hps) (show (u5.1 0 310) = ps from (Eq.trans (fr4.2.1 310 (by decide)) es310)) (show (u5.1 0 381).toInt < 3008 from (om_a7ab80defd z305 z326 zd q10))) tw_499 tw_592 (by decide +kernel) rfl rfl ⟨Nat.le_of_ble_eq_true rfl, Nat.le_of_ble_eq_true rfl⟩ (List.range (cW ad pr N cI cR L1 L2 u5).length) (rg_map _) (nd_range _) 1 rfl rfl rfl rfl hl.1 rfl (Nat.le_of_ble_eq_true rfl) dX5_jumpStat_38 ⟨Nat.le_of_ble_eq_true rfl, Nat.le_of_ble_eq_true rfl⟩) hP hD hS hA (fun u12 H locs hw11 hP hD hS => ?_)
    obtain ⟨fr11, ex11, i38111, pd11, rs11⟩ := hw11
    have i38111 : 0 ≤ (u12.1 0 381).toInt ∧ (u12.1 0 381).toInt ≤ 3008 := i38111
    have pd11 : (u12.1 0 381).toInt = (u5.1 0 381).toInt + 1 := pd11
    have rs11 : RS u5 u12 := rs11
    refine W.widen (k := 0) (n := 0) (Nat.le_refl _) (Nat.le_refl _) ?_
    refine lv_aload_n hx hb dX5_jumpStat_41 rfl (lv_at hl 1 rfl) ?_
    refine va_get (D := (dC, dI)) (ci := 8) (fs := oF_X5 ad pr u12) (v := .ref (ad 900)) (C := RX5) (T := TX5) (N := 7) hx hb ht itX5 hown hK hP 3 rfl rfl 1 (by decide) (ht _ tw_571) (fun _ h9 => h9) rfl dX5_jumpStat_42 ?_
    refine lv_bipush (v := 36) hx hb dX5_jumpStat_45 (by decide) ?_
    have q14 : (u5.1 0 304).toInt = (v.1 0 304).toInt := congrArg Int32.toInt ((fr4.2.1 304 (by decide)).trans (show v.1 0 304 = (v.1 0 304) by rfl))
    have q15 : (u12.1 0 304).toInt = (u5.1 0 304).toInt := congrArg Int32.toInt ((fr11.2.1 304 (by decide)).trans (show u5.1 0 304 = (u5.1 0 304) by rfl))
    have q16 : (u12.1 0 305).toInt = (u5.1 0 305).toInt := congrArg Int32.toInt ((fr11.2.1 305 (by decide)).trans (show u5.1 0 305 = (u5.1 0 305) by rfl))
    have q17 : (u5.1 0 373).toInt = (v.1 0 373).toInt := congrArg Int32.toInt ((fr4.2.1 373 (by decide)).trans (show v.1 0 373 = (v.1 0 373) by rfl))
    have q18 : (u12.1 0 373).toInt = (u5.1 0 373).toInt := congrArg Int32.toInt ((fr11.2.1 373 (by decide)).trans (show u5.1 0 373 = (u5.1 0 373) by rfl))
    refine W.sz (fun hz9 => ?_)
    refine czx_v (rx_Vk (n := 1) (As := [.int 36]) (rest := []) hx hb hml hown ht hKK hFx hP hD hS hA (c_x_X9_expect l dC dI cI cB cZ cJ cR tb H.size ad pr N L1 L2 u12 (36 : Int32) ps (show 0 ≤ (u12.1 0 304).toInt ∧ (u12.1 0 304).toInt ≤ 1503 from (om_dd87ee851a z304 q14 q15)) (show 0 ≤ (u12.1 0 305).toInt ∧ (u12.1 0 305).toInt ≤ 1500 from (om_570f2378f1 z305 i3054 pt4 q16)) (show 0 ≤ (u12.1 0 373).toInt ∧ (u12.1 0 373).toInt ≤ 4000 from (om_03cd8767ac z373 q17 q18)) (show pr ps = ad 908 from hps) (show (u12.1 0 300) = ps from (Eq.trans (fr11.2.1 300 (by decide)) (Eq.trans (fr4.2.1 300 (by decide)) es300))) (show l.stackTraces = false from hst)) tw_526 tw_580 (by decide +kernel) rfl rfl ⟨Nat.le_of_ble_eq_true rfl, Nat.le_of_ble_eq_true rfl⟩ (List.range (cW ad pr N cI cR L1 L2 u12).length) (rg_map _) (nd_range _) 0 rfl rfl rfl rfl hl.1 rfl (Nat.le_of_ble_eq_true rfl) dX5_jumpStat_47 ⟨Nat.le_of_ble_eq_true rfl, Nat.le_of_ble_eq_true rfl⟩) hP hD hS hA (fun u9 ce9 q9 H locs hx9 hP hD hS hc9 hv9 hf9 => ?_) (fun u20 H locs hw19 hP hD hS hz8 => ?_)
    · exact vx_out (fun x h9 => (hnt x h9).elim) hlocks hc9 hv9 hf9 (fun t9 ht9 hv8 => ⟨u9, ⟨FC.tr (FC.tr (FC.tr (FC.rf _) (FC.up fr4 (by decide) (by decide))) (FC.up fr11 (by decide) (by decide))) hx9.1, hx9.2.1, ⟨z304, z305, z326, z373, z381, zd, r3, ex1, (Or.inr (⟨u5, ex4, ⟨fr4, i3054, pt4, rs4⟩, (Or.inl ⟨z8, u12, ex11, ⟨fr11, i38111, pd11, rs11⟩, (Or.inl ⟨u9, hx9.2.2, rfl, rfl⟩)⟩)⟩))⟩⟩, ⟨rfl, by rw [ht9]; exact hP, hD⟩, hS.F ht9⟩) hS.2.2 (Nat.le_refl _) (Nat.le_refl _)
    refine W.shrink (hz8.trans hz9) ?_
    obtain ⟨fr19, ex19, i30519, pt19, rs19⟩ := hw19
    have i30519 : 0 ≤ (u20.1 0 305).toInt ∧ (u20.1 0 305).toInt ≤ 1500 := i30519
    have pt19 : (u20.1 0 305).toInt = (u12.1 0 305).toInt + 1 := pt19
    have rs19 : RS u12 u20 := rs19
    have q22 : (u20.1 0 381).toInt = (u12.1 0 381).toInt := congrArg Int32.toInt ((fr19.2.1 381 (by decide)).trans (show u12.1 0 381 = (u12.1 0 381) by rfl))
    have q23 : (u5.1 0 326).toInt = (v.1 0 326).toInt := congrArg Int32.toInt ((fr4.2.1 326 (by decide)).trans (show v.1 0 326 = (v.1 0 326) by rfl))
    have q24 : (u12.1 0 326).toInt = (u5.1 0 326).toInt := congrArg Int32.toInt ((fr11.2.1 326 (by decide)).trans (show u5.1 0 326 = (u5.1 0 326) by rfl))
    have q25 : (u20.1 0 326).toInt = (u12.1 0 326).toInt := congrArg Int32.toInt ((fr19.2.1 326 (by decide)).trans (show u12.1 0 326 = (u12.1 0 326) by rfl))
    refine W.sz (fun hz => ?_)
    refine vx_ret ?_
    refine W.widen (k := 1) (n := 6) (Nat.le_of_ble_eq_true rfl) (Nat.le_of_ble_eq_true rfl) ?_
    exact W.vret hx hb hr (fun t ht9 hW => ⟨⟨u20, rfl, ⟨(FC.tr (FC.tr (FC.tr (FC.rf _) (FC.up fr4 (by decide) (by decide))) (FC.up fr11 (by decide) (by decide))) (FC.up fr19 (by decide) (by decide))), ⟨z304, z305, z326, z373, z381, zd, r3, ex1, (Or.inr (⟨u5, ex4, ⟨fr4, i3054, pt4, rs4⟩, (Or.inl ⟨z8, u12, ex11, ⟨fr11, i38111, pd11, rs11⟩, (Or.inr (⟨u20, ex19, ⟨fr19, i30519, pt19, rs19⟩, rfl, rfl⟩))⟩)⟩))⟩, (show 0 ≤ (u20.1 0 305).toInt ∧ (u20.1 0 305).toInt ≤ 1500 from (om_7897b4ccef i30519)), (show 0 ≤ (u20.1 0 381).toInt ∧ (u20.1 0 381).toInt ≤ 3008 from (om_c0bcdb8675 z305 z326 z381 zd q10 pd11 q22)), (show (u20.1 0 381).toInt + (u20.1 0 326).toInt - 2 * (u20.1 0 305).toInt + (3) ≤ (v.1 0 381).toInt + (v.1 0 326).toInt - 2 * (v.1 0 305).toInt from (om_487aa8a387 q23 q10 pt4 q16 q24 pd11 q25 q22 pt19)), (show (v.1 0 305).toInt + 2 ≤ (u20.1 0 305).toInt from (om_be302c4304 pt4 q16 pt19)), (RS.tr (RS.tr (RS.tr RS.rf rs4) rs11) rs19)⟩, ⟨by rw [ht9]; exact hP, hD⟩, by rw [ht9]; exact hz⟩, hS.F ht9⟩) hS.2.2 dX5_jumpStat_50
  · have z26 : pa.toInt = (-1 : Int) := eq_z rfl (show ((-1) : Int32).toInt = (-1 : Int) by decide) h7
    refine lv_aload_n hx hb dX5_jumpStat_20 rfl (lv_at hl 1 rfl) ?_
    refine va_get (D := (dC, dI)) (ci := 8) (fs := oF_X5 ad pr u5) (v := .ref (ad 900)) (C := RX5) (T := TX5) (N := 7) hx hb ht itX5 hown hK hP 3 rfl rfl 1 (by decide) (ht _ tw_571) (fun _ h9 => h9) rfl dX5_jumpStat_21 ?_
    refine lv_bipush (v := 6) hx hb dX5_jumpStat_24 (by decide) ?_
    refine lv_iload_n hx hb dX5_jumpStat_26 rfl (lv_at hl 0 rfl) ?_
    refine W.sz (fun hz9 => ?_)
    refine czx_v (rx_Vk (n := 2) (As := [.int 6, .int r3]) (rest := []) hx hb hml hown ht hKK hFx hP hD hS hA (c_x_X9_refuse l dC dI cI cB cZ cJ cR tb H.size ad pr N L1 L2 u5 (6 : Int32) r3 (show l.stackTraces = false from hst) (show (6 : Int) ≠ 0 from om_e23802e45a)) tw_459 tw_578 (by decide +kernel) rfl rfl ⟨Nat.le_of_ble_eq_true rfl, Nat.le_of_ble_eq_true rfl⟩ (List.range (cW ad pr N cI cR L1 L2 u5).length) (rg_map _) (nd_range _) 0 rfl rfl rfl rfl hl.1 rfl (Nat.le_of_ble_eq_true rfl) dX5_jumpStat_27 ⟨Nat.le_of_ble_eq_true rfl, Nat.le_of_ble_eq_true rfl⟩) hP hD hS hA (fun u9 ce9 q9 H locs hx9 hP hD hS hc9 hv9 hf9 => ?_) (fun u28 H locs hw27 hP hD hS hz8 => ?_)
    · exact vx_out (fun x h9 => (hnt x h9).elim) hlocks hc9 hv9 hf9 (fun t9 ht9 hv8 => ⟨u9, ⟨FC.tr (FC.tr (FC.rf _) (FC.up fr4 (by decide) (by decide))) hx9.1, hx9.2.1, ⟨z304, z305, z326, z373, z381, zd, r3, ex1, (Or.inr (⟨u5, ex4, ⟨fr4, i3054, pt4, rs4⟩, (Or.inr (⟨z26, u9, hx9.2.2, rfl, rfl⟩))⟩))⟩⟩, ⟨rfl, by rw [ht9]; exact hP, hD⟩, hS.F ht9⟩) hS.2.2 (Nat.le_refl _) (Nat.le_refl _)
    refine W.shrink (hz8.trans hz9) ?_
    obtain ⟨fr27, ex27, no27, rs27⟩ := hw27
    have no27 : False := no27
    have rs27 : RS u5 u28 := rs27
    exact no27.elim
theorem om_20c483b4bf {x0 x1 x2 x3 : Int} (h0 : 0 ≤ x0 ∧ x0 ≤ 1500) (h1 : x1 = x0 + 1) (h2 : 0 ≤ x2 ∧ x2 ≤ 1500) (h3 : x2 = x1 + 1) (h4 : x3 = x2) : 0 ≤ x3 ∧ x3 ≤ 1500 := by omega
theorem om_d6a9f0b24c {x0 x1 x2 x3 x4 x5 x6 x7 x8 x9 x10 x11 : Int} (h0 : x0 = x1) (h1 : x2 = x3) (h2 : x4 = x5 + 1) (h3 : x6 = x0) (h4 : x7 = x2) (h5 : x8 = x4 + 1) (h6 : x9 = x8) (h7 : x10 = x6) (h8 : x11 = x7) : x11 + x10 - 2 * x9 + (4) ≤ x3 + x1 - 2 * x5 := by omega
theorem om_d04d6d3c50 {x0 x1 x2 x3 : Int} (h0 : x0 = x1 + 1) (h1 : x2 = x0 + 1) (h2 : x3 = x2) : x1 + 2 ≤ x3 := by omega
theorem om_d6bb448ea1 {x0 x1 x2 x3 : Int} (h0 : x0 = x1 + 1) (h1 : x2 = x0) (h2 : x3 = x2 - 1) : x3 = x1 := by omega
theorem om_b5d4ccd008 {x0 x1 x2 x3 x4 x5 x6 x7 x8 : Int} (h0 : x0 = x1) (h1 : x2 = x3) (h2 : x4 = x5 + 1) (h3 : x6 + x7 - 2 * x8 + (4) ≤ x2 + x0 - 2 * x4) : x6 + x7 - 2 * x8 + (2) ≤ x3 + x1 - 2 * x5 := by omega
theorem om_300badd5bd {x0 x1 x2 : Int} (h0 : x0 = x1 + 1) (h1 : x2 = x0) : x2 = x1 + 1 := by omega
theorem om_e1fba6fb3a {x0 x1 x2 x3 : Int} (h0 : 0 ≤ x0 ∧ x0 ≤ 1500) (h1 : x0 + 1 ≤ x1) (h2 : 0 ≤ x2 ∧ x2 ≤ 1500) (h3 : x2 = x1 + 1) (h4 : x3 = x2) : 0 ≤ x3 ∧ x3 ≤ 1500 := by omega
theorem om_09bf078d5c {x0 x1 x2 x3 x4 x5 x6 x7 x8 x9 x10 x11 : Int} (h0 : x0 + x1 - 2 * x2 + (2) ≤ x3 + x4 - 2 * x5) (h1 : x6 = x1) (h2 : x7 = x0) (h3 : x8 = x2 + 1) (h4 : x9 = x8) (h5 : x10 = x6) (h6 : x11 = x7) : x11 + x10 - 2 * x9 + (4) ≤ x3 + x4 - 2 * x5 := by omega
theorem om_83f52a6c4f {x0 x1 x2 x3 : Int} (h0 : x0 + 1 ≤ x1) (h1 : x2 = x1 + 1) (h2 : x3 = x2) : x0 + 2 ≤ x3 := by omega
theorem om_9173723a30 {x0 x1 x2 : Int} (h0 : 0 ≤ x0 ∧ x0 ≤ 1500) (h1 : x0 + 1 ≤ x1) (h2 : 0 ≤ x2 ∧ x2 ≤ 1500) (h3 : x2 = x1 + 1) : 0 ≤ x2 ∧ x2 ≤ 1500 := by omega
theorem om_455125c312 {x0 x1 x2 x3 x4 x5 x6 : Int} (h0 : 0 ≤ x0 ∧ x0 ≤ 420) (h1 : 0 ≤ x1 ∧ x1 ≤ 3008) (h2 : x1 + x0 - 2 * x2 ≤ 0) (h3 : 0 ≤ x3 ∧ x3 ≤ 1500) (h4 : x4 + x5 - 2 * x3 + (2) ≤ x1 + x0 - 2 * x2) (h5 : x5 = x0) (h6 : x4 = x1) (h7 : x6 = x4) : 0 ≤ x6 ∧ x6 ≤ 3008 := by omega
theorem om_0611dc1c8d {x0 x1 x2 x3 x4 x5 x6 x7 x8 : Int} (h0 : x0 + x1 - 2 * x2 ≤ 0) (h1 : x3 + x4 - 2 * x5 + (2) ≤ x0 + x1 - 2 * x2) (h2 : x6 = x4) (h3 : x7 = x3) (h4 : x8 = x5 + 1) : x7 + x6 - 2 * x8 ≤ 0 := by omega
theorem om_8d8f12efc9 {x0 x1 x2 x3 : Int} (h0 : 0 ≤ x0 ∧ x0 ≤ 40) (h1 : 0 ≤ x1 ∧ x1 ≤ 40) (h2 : x1 = x0 + 1) (h3 : x2 = x1) (h4 : x3 = x2) : 0 ≤ x3 ∧ x3 ≤ 40 := by omega
theorem om_81d6223137 {x0 x1 x2 x3 : Int} (h0 : x0 + 1 ≤ x1) (h1 : x2 = x1 + 1) (h2 : x2 + 2 ≤ x3) : x0 + 1 ≤ x3 := by omega
theorem om_4b6a512d1c {x0 x1 x2 x3 x4 x5 x6 x7 x8 x9 x10 x11 : Int} (h0 : x0 + x1 - 2 * x2 + (2) ≤ x3 + x4 - 2 * x5) (h1 : x6 = x1) (h2 : x7 = x0) (h3 : x8 = x2 + 1) (h4 : x9 + x10 - 2 * x11 + (4) ≤ x7 + x6 - 2 * x8) : x9 + x10 - 2 * x11 + (2) ≤ x3 + x4 - 2 * x5 := by omega
set_option maxHeartbeats 4000000 in
set_option maxRecDepth 100000 in
theorem c_x_X5_parameters (l : Launch) (dC : Nat → ClassId) (dI : Nat → Nat → Nat) (cI cB cZ cJ cR : ClassId) (tb : Nat → Nat) (sz : Nat) (ad : Nat → Nat) (pr : Int32 → Nat) (N : Nat) (L1 L2 : List Nat) (v : MS) (ps : Int32) (z304 : 0 ≤ (v.1 0 304).toInt ∧ (v.1 0 304).toInt ≤ 1503) (z305 : 0 ≤ (v.1 0 305).toInt ∧ (v.1 0 305).toInt ≤ 1500) (z306 : 0 ≤ (v.1 0 306).toInt ∧ (v.1 0 306).toInt ≤ 40) (z312 : 0 ≤ (v.1 0 312).toInt ∧ (v.1 0 312).toInt ≤ 500) (z326 : 0 ≤ (v.1 0 326).toInt ∧ (v.1 0 326).toInt ≤ 420) (z373 : 0 ≤ (v.1 0 373).toInt ∧ (v.1 0 373).toInt ≤ 4000) (z381 : 0 ≤ (v.1 0 381).toInt ∧ (v.1 0 381).toInt ≤ 3008) (hps : pr ps = ad 908) (es300 : (v.1 0 300) = ps) (hst : l.stackTraces = false) (zd : (v.1 0 381).toInt + (v.1 0 326).toInt - 2 * (v.1 0 305).toInt ≤ 0) : vx_Met l yX5_parameters (Cond.code yX5_parameters cX5_parameters 2 none :: tw_W) ({ frames := 10, cells := 1, slots := 6, locals := 166 }) (pc_ (dC, dI) (tyS cI cB cZ cJ cR) tb (cW ad pr N cI cR L1 L2 v) sz [.ref (ad 903)]) (qvz_ (dC, dI) (cW ad pr N cI cR L1 L2 v) sz (fun (u : MS) => FC [305, 306, 312, 315] [0, 311] v u ∧ (Q_x_X5_parameters L1 L2 v false u) ∧ (0 ≤ (u.1 0 305).toInt ∧ (u.1 0 305).toInt ≤ 1500) ∧ (0 ≤ (u.1 0 306).toInt ∧ (u.1 0 306).toInt ≤ 40) ∧ (0 ≤ (u.1 0 312).toInt ∧ (u.1 0 312).toInt ≤ 500) ∧ ((u.1 0 381).toInt + (u.1 0 326).toInt - 2 * (u.1 0 305).toInt + (4) ≤ (v.1 0 381).toInt + (v.1 0 326).toInt - 2 * (v.1 0 305).toInt) ∧ ((v.1 0 305).toInt + 2 ≤ (u.1 0 305).toInt) ∧ ((u.1 0 306).toInt = (v.1 0 306).toInt) ∧ (RS v u)) (fun (u : MS) => (cW ad pr N cI cR L1 L2 u))) (qxc (dC, dI) (cW ad pr N cI cR L1 L2 v) sz (fun (u : MS) => (cW ad pr N cI cR L1 L2 u)) (fun (u : MS) => FC xfl xal v u ∧ (u.1 0 308).toInt ≠ 0 ∧ (Q_x_X5_parameters L1 L2 v true u))) 1 6 (va_A (cW ad pr N cI cR L1 L2 v) sz) := by
  refine vx_ofW (cc := cX5_parameters) (maxL := 2) (ret := none) (by decide) rfl ?_
  intro p e s m args below meth c s₁ B hml hnt hv
  obtain ⟨rfl, hsz, hP, hKK, hD0, hFx⟩ := hv
  have hK := hKK.1
  have hx := B.exec
  have hb := B.bytes
  have hr := B.returns
  have ht : ∀ w ∈ tw_W, w.before _ s = true := fun w h => atoms_spec (ws := Cond.code yX5_parameters cX5_parameters 2 none :: tw_W) B.pre w (List.mem_cons_of_mem _ h)
  have hown : s.vm.findClass RX5 = some m.cls := findClass_of_methodNamed B.named
  have hlocks := B.notSynchronized
  subst hsz
  unfold qvz_ qxc
  have hD := hD0.self (sz := s.heap.size)
  generalize hAe : va_A (cW ad pr N cI cR L1 L2 v) s.heap.size = A at hD hFx ⊢
  have hA : ∀ q : Nat, s.heap.size ≤ q → A q := fun q h => by rw [← hAe]; exact Or.inr h
  have hS : va_S A s.heap s.heap [] := va_S.rf
  have hl := lv_entry ([.ref (ad 903)]) (n := 2) (Nat.le_of_ble_eq_true rfl)
  rw [lg_entry_eq]
  generalize (lg_sl ([.ref (ad 903)]) ++ List.replicate (2 - (lg_sl ([.ref (ad 903)])).length) Slot.unset).toArray = ls at hl ⊢
  have hl : lv_has ls 2 [(0, .ref (ad 903))] := hl
  refine lv_aload_n hx hb dX5_parameters_0 rfl (lv_at hl 0 rfl) ?_
  refine va_get (D := (dC, dI)) (ci := 8) (fs := oF_X5 ad pr v) (v := .ref (ad 900)) (C := RX5) (T := TX5) (N := 7) hx hb ht itX5 hown hK hP 3 rfl rfl 1 (by decide) (ht _ tw_571) (fun _ h9 => h9) rfl dX5_parameters_1 ?_
  refine W.sz (fun hz9 => ?_)
  refine czx_v (rx_Vk (n := 0) (As := []) (rest := []) hx hb hml hown ht hKK hFx hP hD hS hA (c_x_X9_open l dC dI cI cB cZ cJ cR tb s.heap.size ad pr N L1 L2 v ps (show 0 ≤ (v.1 0 304).toInt ∧ (v.1 0 304).toInt ≤ 1503 from (om_c99648273b z304)) (show 0 ≤ (v.1 0 305).toInt ∧ (v.1 0 305).toInt ≤ 1500 from (om_7897b4ccef z305)) (show 0 ≤ (v.1 0 306).toInt ∧ (v.1 0 306).toInt ≤ 40 from (om_7eaf33e007 z306)) (show 0 ≤ (v.1 0 373).toInt ∧ (v.1 0 373).toInt ≤ 4000 from (om_c74a68af25 z373)) (show pr ps = ad 908 from hps) (show (v.1 0 300) = ps from es300) (show l.stackTraces = false from hst)) tw_524 tw_593 (by decide +kernel) rfl rfl ⟨Nat.le_of_ble_eq_true rfl, Nat.le_of_ble_eq_true rfl⟩ (List.range (cW ad pr N cI cR L1 L2 v).length) (rg_map _) (nd_range _) 0 rfl rfl rfl rfl hl.1 rfl (Nat.le_of_ble_eq_true rfl) dX5_parameters_4 ⟨Nat.le_of_ble_eq_true rfl, Nat.le_of_ble_eq_true rfl⟩) hP hD hS hA (fun u9 ce9 q9 H locs hx9 hP hD hS hc9 hv9 hf9 => ?_) (fun u2 H locs hw1 hP hD hS hz8 => ?_)
  · exact vx_out (fun x h9 => (hnt x h9).elim) hlocks hc9 hv9 hf9 (fun t9 ht9 hv8 => ⟨u9, ⟨FC.tr (FC.rf _) hx9.1, hx9.2.1, ⟨z304, z305, z306, z312, z326, z373, z381, zd, (Or.inl ⟨u9, hx9.2.2, rfl, rfl⟩)⟩⟩, ⟨rfl, by rw [ht9]; exact hP, hD⟩, hS.F ht9⟩) hS.2.2 (Nat.le_refl _) (Nat.le_refl _)
  refine W.shrink (hz8.trans hz9) ?_
  obtain ⟨fr1, ex1, i3051, i3061, pj1, pt1, rs1⟩ := hw1
  refine lv_aload_n hx hb dX5_parameters_7 rfl (lv_at hl 0 rfl) ?_
  refine va_get (D := (dC, dI)) (ci := 8) (fs := oF_X5 ad pr u2) (v := .ref (ad 900)) (C := RX5) (T := TX5) (N := 7) hx hb ht itX5 hown hK hP 3 rfl rfl 1 (by decide) (ht _ tw_571) (fun _ h9 => h9) rfl dX5_parameters_8 ?_
  have q4 : (u2.1 0 304).toInt = (v.1 0 304).toInt := congrArg Int32.toInt ((fr1.2.1 304 (by decide)).trans (show v.1 0 304 = (v.1 0 304) by rfl))
  refine cu_i (rn_Vk (n := 0) (As := []) (rest := []) hx hb hml hown ht hKK hFx hP hD hS hA (c_x_X9_kind l dC dI cI cB cZ cJ cR tb H.size ad pr N L1 L2 u2  (show 0 ≤ (u2.1 0 304).toInt ∧ (u2.1 0 304).toInt ≤ 1503 from (om_73002589c1 z304 q4)) (show 0 ≤ (u2.1 0 305).toInt ∧ (u2.1 0 305).toInt ≤ 1500 from (om_89213937cb z305 i3051 pt1))) tw_455 tw_594 (by decide +kernel) rfl rfl ⟨Nat.le_of_ble_eq_true rfl, Nat.le_of_ble_eq_true rfl⟩ (List.range (cW ad pr N cI cR L1 L2 u2).length) (rg_map _) (nd_range _) 0 rfl rfl rfl rfl hl.1 rfl (Nat.le_of_ble_eq_true rfl) dX5_parameters_11 ⟨Nat.le_of_ble_eq_true rfl, Nat.le_of_ble_eq_true rfl⟩) hP hD hS hA (fun r7 u6 H locs hw5 hP hD hS => ?_)
  obtain ⟨rfl, ex5⟩ := hw5
  refine W.widen (k := 0) (n := 0) (Nat.le_refl _) (Nat.le_refl _) ?_
  refine lv_bipush (v := 31) hx hb dX5_parameters_14 (by decide) ?_
  refine lv_icmp_eq (tgt := 61) hx hb dX5_parameters_16 (by decide) (fun h8 => ?_) (fun h8 => ?_)
  · have z9 : r7.toInt = (31 : Int) := eq_z rfl (show (31 : Int32).toInt = (31 : Int) by decide) h8
    refine lv_aload_n hx hb dX5_parameters_61 rfl (lv_at hl 0 rfl) ?_
    refine va_get (D := (dC, dI)) (ci := 8) (fs := oF_X5 ad pr u2) (v := .ref (ad 900)) (C := RX5) (T := TX5) (N := 7) hx hb ht itX5 hown hK hP 3 rfl rfl 1 (by decide) (ht _ tw_571) (fun _ h9 => h9) rfl dX5_parameters_62 ?_
    refine lv_bipush (v := 31) hx hb dX5_parameters_65 (by decide) ?_
    have q10 : (u2.1 0 373).toInt = (v.1 0 373).toInt := congrArg Int32.toInt ((fr1.2.1 373 (by decide)).trans (show v.1 0 373 = (v.1 0 373) by rfl))
    refine W.sz (fun hz9 => ?_)
    refine czx_v (rx_Vk (n := 1) (As := [.int 31]) (rest := []) hx hb hml hown ht hKK hFx hP hD hS hA (c_x_X9_expect l dC dI cI cB cZ cJ cR tb H.size ad pr N L1 L2 u2 (31 : Int32) ps (show 0 ≤ (u2.1 0 304).toInt ∧ (u2.1 0 304).toInt ≤ 1503 from (om_73002589c1 z304 q4)) (show 0 ≤ (u2.1 0 305).toInt ∧ (u2.1 0 305).toInt ≤ 1500 from (om_89213937cb z305 i3051 pt1)) (show 0 ≤ (u2.1 0 373).toInt ∧ (u2.1 0 373).toInt ≤ 4000 from (om_9084c127ed z373 q10)) (show pr ps = ad 908 from hps) (show (u2.1 0 300) = ps from (Eq.trans (fr1.2.1 300 (by decide)) es300)) (show l.stackTraces = false from hst)) tw_526 tw_580 (by decide +kernel) rfl rfl ⟨Nat.le_of_ble_eq_true rfl, Nat.le_of_ble_eq_true rfl⟩ (List.range (cW ad pr N cI cR L1 L2 u2).length) (rg_map _) (nd_range _) 0 rfl rfl rfl rfl hl.1 rfl (Nat.le_of_ble_eq_true rfl) dX5_parameters_67 ⟨Nat.le_of_ble_eq_true rfl, Nat.le_of_ble_eq_true rfl⟩) hP hD hS hA (fun u9 ce9 q9 H locs hx9 hP hD hS hc9 hv9 hf9 => ?_) (fun u12 H locs hw11 hP hD hS hz8 => ?_)
    · exact vx_out (fun x h9 => (hnt x h9).elim) hlocks hc9 hv9 hf9 (fun t9 ht9 hv8 => ⟨u9, ⟨FC.tr (FC.tr (FC.rf _) (FC.up fr1 (by decide) (by decide))) hx9.1, hx9.2.1, ⟨z304, z305, z306, z312, z326, z373, z381, zd, (Or.inr (⟨u2, ex1, ⟨fr1, i3051, i3061, pj1, pt1, rs1⟩, r7, ex5, (Or.inl ⟨z9, (Or.inl ⟨u9, hx9.2.2, rfl, rfl⟩)⟩)⟩))⟩⟩, ⟨rfl, by rw [ht9]; exact hP, hD⟩, hS.F ht9⟩) hS.2.2 (Nat.le_refl _) (Nat.le_refl _)
    refine W.shrink (hz8.trans hz9) ?_
    obtain ⟨fr11, ex11, i30511, pt11, rs11⟩ := hw11
    have i30511 : 0 ≤ (u12.1 0 305).toInt ∧ (u12.1 0 305).toInt ≤ 1500 := i30511
    have pt11 : (u12.1 0 305).toInt = (u2.1 0 305).toInt + 1 := pt11
    have rs11 : RS u2 u12 := rs11
    refine lv_aload_n hx hb dX5_parameters_70 rfl (lv_at hl 0 rfl) ?_
    refine va_get (D := (dC, dI)) (ci := 8) (fs := oF_X5 ad pr u12) (v := .ref (ad 900)) (C := RX5) (T := TX5) (N := 7) hx hb ht itX5 hown hK hP 3 rfl rfl 1 (by decide) (ht _ tw_571) (fun _ h9 => h9) rfl dX5_parameters_71 ?_
    have q14 : (u12.1 0 306).toInt = (u2.1 0 306).toInt := congrArg Int32.toInt ((fr11.2.1 306 (by decide)).trans (show u2.1 0 306 = (u2.1 0 306) by rfl))
    refine cu_v (rn_Vk (n := 0) (As := []) (rest := []) hx hb hml hown ht hKK hFx hP hD hS hA (c_x_X9_close l dC dI cI cB cZ cJ cR tb H.size ad pr N L1 L2 u12  (show 0 ≤ (u12.1 0 306).toInt ∧ (u12.1 0 306).toInt ≤ 40 from (om_209fa13ef3 z306 i3061 pj1 q14)) (show 1 ≤ (u12.1 0 306).toInt from (om_bfd497b3b5 z306 pj1 q14))) tw_528 tw_595 (by decide +kernel) rfl rfl ⟨Nat.le_of_ble_eq_true rfl, Nat.le_of_ble_eq_true rfl⟩ (List.range (cW ad pr N cI cR L1 L2 u12).length) (rg_map _) (nd_range _) 0 rfl rfl rfl rfl hl.1 rfl (Nat.le_of_ble_eq_true rfl) dX5_parameters_74 ⟨Nat.le_of_ble_eq_true rfl, Nat.le_of_ble_eq_true rfl⟩) hP hD hS hA (fun u16 H locs hw15 hP hD hS => ?_)
    obtain ⟨fr15, ex15, i30615, pj15, rs15⟩ := hw15
    have i30615 : 0 ≤ (u16.1 0 306).toInt ∧ (u16.1 0 306).toInt ≤ 40 := i30615
    have pj15 : (u16.1 0 306).toInt = (u12.1 0 306).toInt - 1 := pj15
    have rs15 : RS u12 u16 := rs15
    refine W.widen (k := 0) (n := 0) (Nat.le_refl _) (Nat.le_refl _) ?_
    have q18 : (u16.1 0 305).toInt = (u12.1 0 305).toInt := congrArg Int32.toInt ((fr15.2.1 305 (by decide)).trans (show u12.1 0 305 = (u12.1 0 305) by rfl))
    have q19 : (u2.1 0 312).toInt = (v.1 0 312).toInt := congrArg Int32.toInt ((fr1.2.1 312 (by decide)).trans (show v.1 0 312 = (v.1 0 312) by rfl))
    have q20 : (u12.1 0 312).toInt = (u2.1 0 312).toInt := congrArg Int32.toInt ((fr11.2.1 312 (by decide)).trans (show u2.1 0 312 = (u2.1 0 312) by rfl))
    have q21 : (u16.1 0 312).toInt = (u12.1 0 312).toInt := congrArg Int32.toInt ((fr15.2.1 312 (by decide)).trans (show u12.1 0 312 = (u12.1 0 312) by rfl))
    have q22 : (u2.1 0 326).toInt = (v.1 0 326).toInt := congrArg Int32.toInt ((fr1.2.1 326 (by decide)).trans (show v.1 0 326 = (v.1 0 326) by rfl))
    have q23 : (u2.1 0 381).toInt = (v.1 0 381).toInt := congrArg Int32.toInt ((fr1.2.1 381 (by decide)).trans (show v.1 0 381 = (v.1 0 381) by rfl))
    have q24 : (u12.1 0 326).toInt = (u2.1 0 326).toInt := congrArg Int32.toInt ((fr11.2.1 326 (by decide)).trans (show u2.1 0 326 = (u2.1 0 326) by rfl))
    have q25 : (u12.1 0 381).toInt = (u2.1 0 381).toInt := congrArg Int32.toInt ((fr11.2.1 381 (by decide)).trans (show u2.1 0 381 = (u2.1 0 381) by rfl))
    have q26 : (u16.1 0 326).toInt = (u12.1 0 326).toInt := congrArg Int32.toInt ((fr15.2.1 326 (by decide)).trans (show u12.1 0 326 = (u12.1 0 326) by rfl))
    have q27 : (u16.1 0 381).toInt = (u12.1 0 381).toInt := congrArg Int32.toInt ((fr15.2.1 381 (by decide)).trans (show u12.1 0 381 = (u12.1 0 381) by rfl))
    refine W.sz (fun hz => ?_)
    refine vx_ret ?_
    refine W.widen (k := 1) (n := 6) (Nat.le_of_ble_eq_true rfl) (Nat.le_of_ble_eq_true rfl) ?_
    exact W.vret hx hb hr (fun t ht9 hW => ⟨⟨u16, rfl, ⟨(FC.tr (FC.tr (FC.tr (FC.rf _) (FC.up fr1 (by decide) (by decide))) (FC.up fr11 (by decide) (by decide))) (FC.up fr15 (by decide) (by decide))), ⟨z304, z305, z306, z312, z326, z373, z381, zd, (Or.inr (⟨u2, ex1, ⟨fr1, i3051, i3061, pj1, pt1, rs1⟩, r7, ex5, (Or.inl ⟨z9, (Or.inr (⟨u12, ex11, ⟨fr11, i30511, pt11, rs11⟩, u16, ex15, ⟨fr15, i30615, pj15, rs15⟩, rfl, rfl⟩))⟩)⟩))⟩, (show 0 ≤ (u16.1 0 305).toInt ∧ (u16.1 0 305).toInt ≤ 1500 from (om_20c483b4bf z305 pt1 i30511 pt11 q18)), (show 0 ≤ (u16.1 0 306).toInt ∧ (u16.1 0 306).toInt ≤ 40 from (om_7eaf33e007 i30615)), (show 0 ≤ (u16.1 0 312).toInt ∧ (u16.1 0 312).toInt ≤ 500 from (om_a369f3fea6 z312 q19 q20 q21)), (show (u16.1 0 381).toInt + (u16.1 0 326).toInt - 2 * (u16.1 0 305).toInt + (4) ≤ (v.1 0 381).toInt + (v.1 0 326).toInt - 2 * (v.1 0 305).toInt from (om_d6a9f0b24c q22 q23 pt1 q24 q25 pt11 q18 q26 q27)), (show (v.1 0 305).toInt + 2 ≤ (u16.1 0 305).toInt from (om_d04d6d3c50 pt1 pt11 q18)), (show (u16.1 0 306).toInt = (v.1 0 306).toInt from (om_d6bb448ea1 pj1 q14 pj15)), (RS.tr (RS.tr (RS.tr RS.rf rs1) rs11) rs15)⟩, ⟨by rw [ht9]; exact hP, hD⟩, by rw [ht9]; exact hz⟩, hS.F ht9⟩) hS.2.2 dX5_parameters_77
  · have z28 : r7.toInt ≠ (31 : Int) := ne_z rfl (show (31 : Int32).toInt = (31 : Int) by decide) h8
    refine lv_aload_n hx hb dX5_parameters_19 rfl (lv_at hl 0 rfl) ?_
    have q29 : (u2.1 0 312).toInt = (v.1 0 312).toInt := congrArg Int32.toInt ((fr1.2.1 312 (by decide)).trans (show v.1 0 312 = (v.1 0 312) by rfl))
    have q30 : (u2.1 0 326).toInt = (v.1 0 326).toInt := congrArg Int32.toInt ((fr1.2.1 326 (by decide)).trans (show v.1 0 326 = (v.1 0 326) by rfl))
    have q31 : (u2.1 0 373).toInt = (v.1 0 373).toInt := congrArg Int32.toInt ((fr1.2.1 373 (by decide)).trans (show v.1 0 373 = (v.1 0 373) by rfl))
    have q32 : (u2.1 0 381).toInt = (v.1 0 381).toInt := congrArg Int32.toInt ((fr1.2.1 381 (by decide)).trans (show v.1 0 381 = (v.1 0 381) by rfl))
    refine W.sz (fun hz9 => ?_)
    refine czx_v (rx_Vk (n := 0) (As := []) (rest := []) hx hb hml hown ht hKK hFx hP hD hS hA (c_x_X5_parameter l dC dI cI cB cZ cJ cR tb H.size ad pr N L1 L2 u2 ps (show 0 ≤ (u2.1 0 304).toInt ∧ (u2.1 0 304).toInt ≤ 1503 from (om_73002589c1 z304 q4)) (show 0 ≤ (u2.1 0 305).toInt ∧ (u2.1 0 305).toInt ≤ 1500 from (om_89213937cb z305 i3051 pt1)) (show 0 ≤ (u2.1 0 312).toInt ∧ (u2.1 0 312).toInt ≤ 500 from (om_f8376ff89c z312 q29)) (show 0 ≤ (u2.1 0 326).toInt ∧ (u2.1 0 326).toInt ≤ 420 from (om_8ed0dedb19 z326 q30)) (show 0 ≤ (u2.1 0 373).toInt ∧ (u2.1 0 373).toInt ≤ 4000 from (om_9084c127ed z373 q31)) (show 0 ≤ (u2.1 0 381).toInt ∧ (u2.1 0 381).toInt ≤ 3008 from (om_3d2979e731 z305 z326 z381 zd q32)) (show pr ps = ad 908 from hps) (show (u2.1 0 300) = ps from (Eq.trans (fr1.2.1 300 (by decide)) es300)) (show l.stackTraces = false from hst) (show (u2.1 0 381).toInt + (u2.1 0 326).toInt - 2 * (u2.1 0 305).toInt ≤ 0 from (om_27b720c3fb zd q30 q32 pt1))) tw_596 tw_597 (by decide +kernel) rfl rfl ⟨Nat.le_of_ble_eq_true rfl, Nat.le_of_ble_eq_true rfl⟩ (List.range (cW ad pr N cI cR L1 L2 u2).length) (rg_map _) (nd_range _) 3 rfl rfl rfl rfl hl.1 rfl (Nat.le_of_ble_eq_true rfl) dX5_parameters_20 ⟨Nat.le_of_ble_eq_true rfl, Nat.le_of_ble_eq_true rfl⟩) hP hD hS hA (fun u9 ce9 q9 H locs hx9 hP hD hS hc9 hv9 hf9 => ?_) (fun u34 H locs hw33 hP hD hS hz8 => ?_)
    · exact vx_out (fun x h9 => (hnt x h9).elim) hlocks hc9 hv9 hf9 (fun t9 ht9 hv8 => ⟨u9, ⟨FC.tr (FC.tr (FC.rf _) (FC.up fr1 (by decide) (by decide))) hx9.1, hx9.2.1, ⟨z304, z305, z306, z312, z326, z373, z381, zd, (Or.inr (⟨u2, ex1, ⟨fr1, i3051, i3061, pj1, pt1, rs1⟩, r7, ex5, (Or.inr (⟨z28, (Or.inl ⟨u9, hx9.2.2, rfl, rfl⟩)⟩))⟩))⟩⟩, ⟨rfl, by rw [ht9]; exact hP, hD⟩, hS.F ht9⟩) hS.2.2 (Nat.le_refl _) (Nat.le_refl _)
    refine W.shrink (hz8.trans hz9) ?_
    obtain ⟨fr33, ex33, i30533, i31233, pd33, pt33, rs33⟩ := hw33
    have i30533 : 0 ≤ (u34.1 0 305).toInt ∧ (u34.1 0 305).toInt ≤ 1500 := i30533
    have i31233 : 0 ≤ (u34.1 0 312).toInt ∧ (u34.1 0 312).toInt ≤ 500 := i31233
    have pd33 : (u34.1 0 381).toInt + (u34.1 0 326).toInt - 2 * (u34.1 0 305).toInt + (4) ≤ (u2.1 0 381).toInt + (u2.1 0 326).toInt - 2 * (u2.1 0 305).toInt := pd33
    have pt33 : (u2.1 0 305).toInt + 2 ≤ (u34.1 0 305).toInt := pt33
    have rs33 : RS u2 u34 := rs33
    refine lv_iconst (v := 0) hx hb dX5_parameters_23 (by decide) ?_
    refine lv_istore_n (lv' := [(1, .int 0), (0, .ref (ad 903))]) hx hb dX5_parameters_24 rfl hl (by decide) rfl (fun ls hl => ?_)
    have q36 : (u34.1 0 306).toInt = (u2.1 0 306).toInt := congrArg Int32.toInt ((fr33.2.1 306 (by decide)).trans (show u2.1 0 306 = (u2.1 0 306) by rfl))
    refine lpm_ (X := Int32 × MS) (P := (fun (x9 : Int32 × MS) (H : Heap) (locs : List Loc) (ls : Array Slot) => (FC [305, 306, 312, 315] [0, 311] v x9.2) ∧ (0 ≤ (x9.2.1 0 305).toInt ∧ (x9.2.1 0 305).toInt ≤ 1500) ∧ (0 ≤ (x9.2.1 0 306).toInt ∧ (x9.2.1 0 306).toInt ≤ 40) ∧ (0 ≤ (x9.2.1 0 312).toInt ∧ (x9.2.1 0 312).toInt ≤ 500) ∧ (0 ≤ x9.1.toInt ∧ x9.1.toInt ≤ 1500) ∧ (RS v x9.2) ∧ ((v.1 0 305).toInt + 1 ≤ (x9.2.1 0 305).toInt) ∧ ((x9.2.1 0 381).toInt + (x9.2.1 0 326).toInt - 2 * (x9.2.1 0 305).toInt + (2) ≤ (v.1 0 381).toInt + (v.1 0 326).toInt - 2 * (v.1 0 305).toInt) ∧ ((x9.2.1 0 306).toInt = (v.1 0 306).toInt + 1) ∧ (RT (Q_x_X5_parameters_L0 L1 L2 v) (0, u34) (x9.1, x9.2)) ∧ va_P (dC, dI) vwCl (cW ad pr N cI cR L1 L2 x9.2) H ∧ va_D A (cW ad pr N cI cR L1 L2 x9.2) ∧ va_S A s.heap H locs ∧ lv_has ls 2 [(1, .int x9.1), (0, .ref (ad 903))])) (fun x9 => (1500 - x9.1.toInt).toNat) 25 (fun x9 H locs ls hh ih25 => ?_) (0, u34) _ _ _ ⟨(show FC [305, 306, 312, 315] [0, 311] v u34 from (FC.tr (FC.tr (FC.rf _) (FC.up fr1 (by decide) (by decide))) (FC.up fr33 (by decide) (by decide)))), (show 0 ≤ (u34.1 0 305).toInt ∧ (u34.1 0 305).toInt ≤ 1500 from (om_26d9e457ca i3051 i30533 pt33)), (show 0 ≤ (u34.1 0 306).toInt ∧ (u34.1 0 306).toInt ≤ 40 from (om_209fa13ef3 z306 i3061 pj1 q36)), (show 0 ≤ (u34.1 0 312).toInt ∧ (u34.1 0 312).toInt ≤ 500 from (om_9861e69da5 i31233)), (show 0 ≤ (0 : Int) ∧ (0 : Int) ≤ 1500 from om_b1c23a1f42), (show RS v u34 from (RS.tr (RS.tr RS.rf rs1) rs33)), (show (v.1 0 305).toInt + 1 ≤ (u34.1 0 305).toInt from (om_999763a006 pt1 pt33)), (show (u34.1 0 381).toInt + (u34.1 0 326).toInt - 2 * (u34.1 0 305).toInt + (2) ≤ (v.1 0 381).toInt + (v.1 0 326).toInt - 2 * (v.1 0 305).toInt from (om_b5d4ccd008 q30 q32 pt1 pd33)), (show (u34.1 0 306).toInt = (v.1 0 306).toInt + 1 from (om_300badd5bd pj1 q36)), RT.rf, hP, hD, hS, lv_sub hl [0, 1] rfl⟩
    obtain ⟨ka, w25⟩ := x9
    obtain ⟨fwL25, i305L25, i306L25, i312L25, f1L25, rsL25, ptL25, pdL25, poL25, exL25, hP, hD, hS, hl⟩ := hh
    have fwL25 : FC [305, 306, 312, 315] [0, 311] v w25 := fwL25
    have i305L25 : 0 ≤ (w25.1 0 305).toInt ∧ (w25.1 0 305).toInt ≤ 1500 := i305L25
    have i306L25 : 0 ≤ (w25.1 0 306).toInt ∧ (w25.1 0 306).toInt ≤ 40 := i306L25
    have i312L25 : 0 ≤ (w25.1 0 312).toInt ∧ (w25.1 0 312).toInt ≤ 500 := i312L25
    have f1L25 : 0 ≤ ka.toInt ∧ ka.toInt ≤ 1500 := f1L25
    have rsL25 : RS v w25 := rsL25
    have ptL25 : (v.1 0 305).toInt + 1 ≤ (w25.1 0 305).toInt := ptL25
    have pdL25 : (w25.1 0 381).toInt + (w25.1 0 326).toInt - 2 * (w25.1 0 305).toInt + (2) ≤ (v.1 0 381).toInt + (v.1 0 326).toInt - 2 * (v.1 0 305).toInt := pdL25
    have poL25 : (w25.1 0 306).toInt = (v.1 0 306).toInt + 1 := poL25
    have hP : va_P (dC, dI) vwCl (cW ad pr N cI cR L1 L2 w25) H := hP
    have hD : va_D A (cW ad pr N cI cR L1 L2 w25) := hD
    have hl : lv_has ls 2 [(1, .int ka), (0, .ref (ad 903))] := hl
    refine lv_iload_n hx hb dX5_parameters_25 rfl (lv_at hl 0 rfl) ?_
    refine lv_sipush (v := 1500) hx hb dX5_parameters_26 (by decide) ?_
    refine lv_icmp_ge (tgt := 61) hx hb dX5_parameters_29 (by decide) (fun h37 => ?_) (fun h37 => ?_)
    · have z38 : (1500 : Int) ≤ ka.toInt := le_z (show (1500 : Int32).toInt = (1500 : Int) by decide) rfl h37
      refine lv_aload_n hx hb dX5_parameters_61 rfl (lv_at hl 1 rfl) ?_
      refine va_get (D := (dC, dI)) (ci := 8) (fs := oF_X5 ad pr w25) (v := .ref (ad 900)) (C := RX5) (T := TX5) (N := 7) hx hb ht itX5 hown hK hP 3 rfl rfl 1 (by decide) (ht _ tw_571) (fun _ h9 => h9) rfl dX5_parameters_62 ?_
      refine lv_bipush (v := 31) hx hb dX5_parameters_65 (by decide) ?_
      have q39 : (w25.1 0 304).toInt = (v.1 0 304).toInt := congrArg Int32.toInt ((fwL25.2.1 304 (by decide)).trans (show v.1 0 304 = (v.1 0 304) by rfl))
      have q40 : (w25.1 0 373).toInt = (v.1 0 373).toInt := congrArg Int32.toInt ((fwL25.2.1 373 (by decide)).trans (show v.1 0 373 = (v.1 0 373) by rfl))
      refine W.sz (fun hz9 => ?_)
      refine czx_v (rx_Vk (n := 1) (As := [.int 31]) (rest := []) hx hb hml hown ht hKK hFx hP hD hS hA (c_x_X9_expect l dC dI cI cB cZ cJ cR tb H.size ad pr N L1 L2 w25 (31 : Int32) ps (show 0 ≤ (w25.1 0 304).toInt ∧ (w25.1 0 304).toInt ≤ 1503 from (om_73002589c1 z304 q39)) (show 0 ≤ (w25.1 0 305).toInt ∧ (w25.1 0 305).toInt ≤ 1500 from (om_c55c38ddc1 z305 i305L25 ptL25)) (show 0 ≤ (w25.1 0 373).toInt ∧ (w25.1 0 373).toInt ≤ 4000 from (om_9084c127ed z373 q40)) (show pr ps = ad 908 from hps) (show (w25.1 0 300) = ps from (Eq.trans (fwL25.2.1 300 (by decide)) es300)) (show l.stackTraces = false from hst)) tw_526 tw_580 (by decide +kernel) rfl rfl ⟨Nat.le_of_ble_eq_true rfl, Nat.le_of_ble_eq_true rfl⟩ (List.range (cW ad pr N cI cR L1 L2 w25).length) (rg_map _) (nd_range _) 0 rfl rfl rfl rfl hl.1 rfl (Nat.le_of_ble_eq_true rfl) dX5_parameters_67 ⟨Nat.le_of_ble_eq_true rfl, Nat.le_of_ble_eq_true rfl⟩) hP hD hS hA (fun u9 ce9 q9 H locs hx9 hP hD hS hc9 hv9 hf9 => ?_) (fun u42 H locs hw41 hP hD hS hz8 => ?_)
      · exact vx_out (fun x h9 => (hnt x h9).elim) hlocks hc9 hv9 hf9 (fun t9 ht9 hv8 => ⟨u9, ⟨FC.tr (FC.tr (FC.rf _) (FC.up fwL25 (by decide) (by decide))) hx9.1, hx9.2.1, ⟨z304, z305, z306, z312, z326, z373, z381, zd, (Or.inr (⟨u2, ex1, ⟨fr1, i3051, i3061, pj1, pt1, rs1⟩, r7, ex5, (Or.inr (⟨z28, (Or.inr (⟨u34, ex33, ⟨fr33, i30533, i31233, pd33, pt33, rs33⟩, ka, w25, exL25, fwL25, i305L25, i306L25, i312L25, f1L25, rsL25, ptL25, pdL25, poL25, (Or.inl ⟨z38, (Or.inl ⟨u9, hx9.2.2, rfl, rfl⟩)⟩)⟩))⟩))⟩))⟩⟩, ⟨rfl, by rw [ht9]; exact hP, hD⟩, hS.F ht9⟩) hS.2.2 (Nat.le_refl _) (Nat.le_refl _)
      refine W.shrink (hz8.trans hz9) ?_
      obtain ⟨fr41, ex41, i30541, pt41, rs41⟩ := hw41
      have i30541 : 0 ≤ (u42.1 0 305).toInt ∧ (u42.1 0 305).toInt ≤ 1500 := i30541
      have pt41 : (u42.1 0 305).toInt = (w25.1 0 305).toInt + 1 := pt41
      have rs41 : RS w25 u42 := rs41
      refine lv_aload_n hx hb dX5_parameters_70 rfl (lv_at hl 1 rfl) ?_
      refine va_get (D := (dC, dI)) (ci := 8) (fs := oF_X5 ad pr u42) (v := .ref (ad 900)) (C := RX5) (T := TX5) (N := 7) hx hb ht itX5 hown hK hP 3 rfl rfl 1 (by decide) (ht _ tw_571) (fun _ h9 => h9) rfl dX5_parameters_71 ?_
      have q44 : (u42.1 0 306).toInt = (w25.1 0 306).toInt := congrArg Int32.toInt ((fr41.2.1 306 (by decide)).trans (show w25.1 0 306 = (w25.1 0 306) by rfl))
      refine cu_v (rn_Vk (n := 0) (As := []) (rest := []) hx hb hml hown ht hKK hFx hP hD hS hA (c_x_X9_close l dC dI cI cB cZ cJ cR tb H.size ad pr N L1 L2 u42  (show 0 ≤ (u42.1 0 306).toInt ∧ (u42.1 0 306).toInt ≤ 40 from (om_209fa13ef3 z306 i306L25 poL25 q44)) (show 1 ≤ (u42.1 0 306).toInt from (om_bfd497b3b5 z306 poL25 q44))) tw_528 tw_595 (by decide +kernel) rfl rfl ⟨Nat.le_of_ble_eq_true rfl, Nat.le_of_ble_eq_true rfl⟩ (List.range (cW ad pr N cI cR L1 L2 u42).length) (rg_map _) (nd_range _) 0 rfl rfl rfl rfl hl.1 rfl (Nat.le_of_ble_eq_true rfl) dX5_parameters_74 ⟨Nat.le_of_ble_eq_true rfl, Nat.le_of_ble_eq_true rfl⟩) hP hD hS hA (fun u46 H locs hw45 hP hD hS => ?_)
      obtain ⟨fr45, ex45, i30645, pj45, rs45⟩ := hw45
      have i30645 : 0 ≤ (u46.1 0 306).toInt ∧ (u46.1 0 306).toInt ≤ 40 := i30645
      have pj45 : (u46.1 0 306).toInt = (u42.1 0 306).toInt - 1 := pj45
      have rs45 : RS u42 u46 := rs45
      refine W.widen (k := 0) (n := 0) (Nat.le_refl _) (Nat.le_refl _) ?_
      have q48 : (u46.1 0 305).toInt = (u42.1 0 305).toInt := congrArg Int32.toInt ((fr45.2.1 305 (by decide)).trans (show u42.1 0 305 = (u42.1 0 305) by rfl))
      have q49 : (u42.1 0 312).toInt = (w25.1 0 312).toInt := congrArg Int32.toInt ((fr41.2.1 312 (by decide)).trans (show w25.1 0 312 = (w25.1 0 312) by rfl))
      have q50 : (u46.1 0 312).toInt = (u42.1 0 312).toInt := congrArg Int32.toInt ((fr45.2.1 312 (by decide)).trans (show u42.1 0 312 = (u42.1 0 312) by rfl))
      have q51 : (u42.1 0 326).toInt = (w25.1 0 326).toInt := congrArg Int32.toInt ((fr41.2.1 326 (by decide)).trans (show w25.1 0 326 = (w25.1 0 326) by rfl))
      have q52 : (u42.1 0 381).toInt = (w25.1 0 381).toInt := congrArg Int32.toInt ((fr41.2.1 381 (by decide)).trans (show w25.1 0 381 = (w25.1 0 381) by rfl))
      have q53 : (u46.1 0 326).toInt = (u42.1 0 326).toInt := congrArg Int32.toInt ((fr45.2.1 326 (by decide)).trans (show u42.1 0 326 = (u42.1 0 326) by rfl))
      have q54 : (u46.1 0 381).toInt = (u42.1 0 381).toInt := congrArg Int32.toInt ((fr45.2.1 381 (by decide)).trans (show u42.1 0 381 = (u42.1 0 381) by rfl))
      refine W.sz (fun hz => ?_)
      refine vx_ret ?_
      refine W.widen (k := 1) (n := 6) (Nat.le_of_ble_eq_true rfl) (Nat.le_of_ble_eq_true rfl) ?_
      exact W.vret hx hb hr (fun t ht9 hW => ⟨⟨u46, rfl, ⟨(FC.tr (FC.tr (FC.tr (FC.rf _) (FC.up fwL25 (by decide) (by decide))) (FC.up fr41 (by decide) (by decide))) (FC.up fr45 (by decide) (by decide))), ⟨z304, z305, z306, z312, z326, z373, z381, zd, (Or.inr (⟨u2, ex1, ⟨fr1, i3051, i3061, pj1, pt1, rs1⟩, r7, ex5, (Or.inr (⟨z28, (Or.inr (⟨u34, ex33, ⟨fr33, i30533, i31233, pd33, pt33, rs33⟩, ka, w25, exL25, fwL25, i305L25, i306L25, i312L25, f1L25, rsL25, ptL25, pdL25, poL25, (Or.inl ⟨z38, (Or.inr (⟨u42, ex41, ⟨fr41, i30541, pt41, rs41⟩, u46, ex45, ⟨fr45, i30645, pj45, rs45⟩, rfl, rfl⟩))⟩)⟩))⟩))⟩))⟩, (show 0 ≤ (u46.1 0 305).toInt ∧ (u46.1 0 305).toInt ≤ 1500 from (om_e1fba6fb3a z305 ptL25 i30541 pt41 q48)), (show 0 ≤ (u46.1 0 306).toInt ∧ (u46.1 0 306).toInt ≤ 40 from (om_7eaf33e007 i30645)), (show 0 ≤ (u46.1 0 312).toInt ∧ (u46.1 0 312).toInt ≤ 500 from (om_8a5975ec21 i312L25 q49 q50)), (show (u46.1 0 381).toInt + (u46.1 0 326).toInt - 2 * (u46.1 0 305).toInt + (4) ≤ (v.1 0 381).toInt + (v.1 0 326).toInt - 2 * (v.1 0 305).toInt from (om_09bf078d5c pdL25 q51 q52 pt41 q48 q53 q54)), (show (v.1 0 305).toInt + 2 ≤ (u46.1 0 305).toInt from (om_83f52a6c4f ptL25 pt41 q48)), (show (u46.1 0 306).toInt = (v.1 0 306).toInt from (om_d6bb448ea1 poL25 q44 pj45)), (RS.tr (RS.tr (RS.tr RS.rf rsL25) rs41) rs45)⟩, ⟨by rw [ht9]; exact hP, hD⟩, by rw [ht9]; exact hz⟩, hS.F ht9⟩) hS.2.2 dX5_parameters_77
    · have z55 : ka.toInt < (1500 : Int) := nle_z (show (1500 : Int32).toInt = (1500 : Int) by decide) rfl h37
      refine lv_aload_n hx hb dX5_parameters_32 rfl (lv_at hl 1 rfl) ?_
      refine va_get (D := (dC, dI)) (ci := 8) (fs := oF_X5 ad pr w25) (v := .ref (ad 900)) (C := RX5) (T := TX5) (N := 7) hx hb ht itX5 hown hK hP 3 rfl rfl 1 (by decide) (ht _ tw_571) (fun _ h9 => h9) rfl dX5_parameters_33 ?_
      have q56 : (w25.1 0 304).toInt = (v.1 0 304).toInt := congrArg Int32.toInt ((fwL25.2.1 304 (by decide)).trans (show v.1 0 304 = (v.1 0 304) by rfl))
      refine cu_i (rn_Vk (n := 0) (As := []) (rest := []) hx hb hml hown ht hKK hFx hP hD hS hA (c_x_X9_kind l dC dI cI cB cZ cJ cR tb H.size ad pr N L1 L2 w25  (show 0 ≤ (w25.1 0 304).toInt ∧ (w25.1 0 304).toInt ≤ 1503 from (om_73002589c1 z304 q56)) (show 0 ≤ (w25.1 0 305).toInt ∧ (w25.1 0 305).toInt ≤ 1500 from (om_c55c38ddc1 z305 i305L25 ptL25))) tw_455 tw_594 (by decide +kernel) rfl rfl ⟨Nat.le_of_ble_eq_true rfl, Nat.le_of_ble_eq_true rfl⟩ (List.range (cW ad pr N cI cR L1 L2 w25).length) (rg_map _) (nd_range _) 0 rfl rfl rfl rfl hl.1 rfl (Nat.le_of_ble_eq_true rfl) dX5_parameters_36 ⟨Nat.le_of_ble_eq_true rfl, Nat.le_of_ble_eq_true rfl⟩) hP hD hS hA (fun r59 u58 H locs hw57 hP hD hS => ?_)
      obtain ⟨rfl, ex57⟩ := hw57
      refine W.widen (k := 0) (n := 0) (Nat.le_refl _) (Nat.le_refl _) ?_
      refine lv_bipush (v := 37) hx hb dX5_parameters_39 (by decide) ?_
      refine lv_icmp_ne (tgt := 61) hx hb dX5_parameters_41 (by decide) (fun h60 => ?_) (fun h60 => ?_)
      · have z61 : r59.toInt ≠ (37 : Int) := ne_z rfl (show (37 : Int32).toInt = (37 : Int) by decide) h60
        refine lv_aload_n hx hb dX5_parameters_61 rfl (lv_at hl 1 rfl) ?_
        refine va_get (D := (dC, dI)) (ci := 8) (fs := oF_X5 ad pr w25) (v := .ref (ad 900)) (C := RX5) (T := TX5) (N := 7) hx hb ht itX5 hown hK hP 3 rfl rfl 1 (by decide) (ht _ tw_571) (fun _ h9 => h9) rfl dX5_parameters_62 ?_
        refine lv_bipush (v := 31) hx hb dX5_parameters_65 (by decide) ?_
        have q62 : (w25.1 0 373).toInt = (v.1 0 373).toInt := congrArg Int32.toInt ((fwL25.2.1 373 (by decide)).trans (show v.1 0 373 = (v.1 0 373) by rfl))
        refine W.sz (fun hz9 => ?_)
        refine czx_v (rx_Vk (n := 1) (As := [.int 31]) (rest := []) hx hb hml hown ht hKK hFx hP hD hS hA (c_x_X9_expect l dC dI cI cB cZ cJ cR tb H.size ad pr N L1 L2 w25 (31 : Int32) ps (show 0 ≤ (w25.1 0 304).toInt ∧ (w25.1 0 304).toInt ≤ 1503 from (om_73002589c1 z304 q56)) (show 0 ≤ (w25.1 0 305).toInt ∧ (w25.1 0 305).toInt ≤ 1500 from (om_c55c38ddc1 z305 i305L25 ptL25)) (show 0 ≤ (w25.1 0 373).toInt ∧ (w25.1 0 373).toInt ≤ 4000 from (om_9084c127ed z373 q62)) (show pr ps = ad 908 from hps) (show (w25.1 0 300) = ps from (Eq.trans (fwL25.2.1 300 (by decide)) es300)) (show l.stackTraces = false from hst)) tw_526 tw_580 (by decide +kernel) rfl rfl ⟨Nat.le_of_ble_eq_true rfl, Nat.le_of_ble_eq_true rfl⟩ (List.range (cW ad pr N cI cR L1 L2 w25).length) (rg_map _) (nd_range _) 0 rfl rfl rfl rfl hl.1 rfl (Nat.le_of_ble_eq_true rfl) dX5_parameters_67 ⟨Nat.le_of_ble_eq_true rfl, Nat.le_of_ble_eq_true rfl⟩) hP hD hS hA (fun u9 ce9 q9 H locs hx9 hP hD hS hc9 hv9 hf9 => ?_) (fun u64 H locs hw63 hP hD hS hz8 => ?_)
        · exact vx_out (fun x h9 => (hnt x h9).elim) hlocks hc9 hv9 hf9 (fun t9 ht9 hv8 => ⟨u9, ⟨FC.tr (FC.tr (FC.rf _) (FC.up fwL25 (by decide) (by decide))) hx9.1, hx9.2.1, ⟨z304, z305, z306, z312, z326, z373, z381, zd, (Or.inr (⟨u2, ex1, ⟨fr1, i3051, i3061, pj1, pt1, rs1⟩, r7, ex5, (Or.inr (⟨z28, (Or.inr (⟨u34, ex33, ⟨fr33, i30533, i31233, pd33, pt33, rs33⟩, ka, w25, exL25, fwL25, i305L25, i306L25, i312L25, f1L25, rsL25, ptL25, pdL25, poL25, (Or.inr (⟨z55, r59, ex57, (Or.inl ⟨z61, (Or.inl ⟨u9, hx9.2.2, rfl, rfl⟩)⟩)⟩))⟩))⟩))⟩))⟩⟩, ⟨rfl, by rw [ht9]; exact hP, hD⟩, hS.F ht9⟩) hS.2.2 (Nat.le_refl _) (Nat.le_refl _)
        refine W.shrink (hz8.trans hz9) ?_
        obtain ⟨fr63, ex63, i30563, pt63, rs63⟩ := hw63
        have i30563 : 0 ≤ (u64.1 0 305).toInt ∧ (u64.1 0 305).toInt ≤ 1500 := i30563
        have pt63 : (u64.1 0 305).toInt = (w25.1 0 305).toInt + 1 := pt63
        have rs63 : RS w25 u64 := rs63
        refine lv_aload_n hx hb dX5_parameters_70 rfl (lv_at hl 1 rfl) ?_
        refine va_get (D := (dC, dI)) (ci := 8) (fs := oF_X5 ad pr u64) (v := .ref (ad 900)) (C := RX5) (T := TX5) (N := 7) hx hb ht itX5 hown hK hP 3 rfl rfl 1 (by decide) (ht _ tw_571) (fun _ h9 => h9) rfl dX5_parameters_71 ?_
        have q66 : (u64.1 0 306).toInt = (w25.1 0 306).toInt := congrArg Int32.toInt ((fr63.2.1 306 (by decide)).trans (show w25.1 0 306 = (w25.1 0 306) by rfl))
        refine cu_v (rn_Vk (n := 0) (As := []) (rest := []) hx hb hml hown ht hKK hFx hP hD hS hA (c_x_X9_close l dC dI cI cB cZ cJ cR tb H.size ad pr N L1 L2 u64  (show 0 ≤ (u64.1 0 306).toInt ∧ (u64.1 0 306).toInt ≤ 40 from (om_209fa13ef3 z306 i306L25 poL25 q66)) (show 1 ≤ (u64.1 0 306).toInt from (om_bfd497b3b5 z306 poL25 q66))) tw_528 tw_595 (by decide +kernel) rfl rfl ⟨Nat.le_of_ble_eq_true rfl, Nat.le_of_ble_eq_true rfl⟩ (List.range (cW ad pr N cI cR L1 L2 u64).length) (rg_map _) (nd_range _) 0 rfl rfl rfl rfl hl.1 rfl (Nat.le_of_ble_eq_true rfl) dX5_parameters_74 ⟨Nat.le_of_ble_eq_true rfl, Nat.le_of_ble_eq_true rfl⟩) hP hD hS hA (fun u68 H locs hw67 hP hD hS => ?_)
        obtain ⟨fr67, ex67, i30667, pj67, rs67⟩ := hw67
        have i30667 : 0 ≤ (u68.1 0 306).toInt ∧ (u68.1 0 306).toInt ≤ 40 := i30667
        have pj67 : (u68.1 0 306).toInt = (u64.1 0 306).toInt - 1 := pj67
        have rs67 : RS u64 u68 := rs67
        refine W.widen (k := 0) (n := 0) (Nat.le_refl _) (Nat.le_refl _) ?_
        have q70 : (u68.1 0 305).toInt = (u64.1 0 305).toInt := congrArg Int32.toInt ((fr67.2.1 305 (by decide)).trans (show u64.1 0 305 = (u64.1 0 305) by rfl))
        have q71 : (u64.1 0 312).toInt = (w25.1 0 312).toInt := congrArg Int32.toInt ((fr63.2.1 312 (by decide)).trans (show w25.1 0 312 = (w25.1 0 312) by rfl))
        have q72 : (u68.1 0 312).toInt = (u64.1 0 312).toInt := congrArg Int32.toInt ((fr67.2.1 312 (by decide)).trans (show u64.1 0 312 = (u64.1 0 312) by rfl))
        have q73 : (u64.1 0 326).toInt = (w25.1 0 326).toInt := congrArg Int32.toInt ((fr63.2.1 326 (by decide)).trans (show w25.1 0 326 = (w25.1 0 326) by rfl))
        have q74 : (u64.1 0 381).toInt = (w25.1 0 381).toInt := congrArg Int32.toInt ((fr63.2.1 381 (by decide)).trans (show w25.1 0 381 = (w25.1 0 381) by rfl))
        have q75 : (u68.1 0 326).toInt = (u64.1 0 326).toInt := congrArg Int32.toInt ((fr67.2.1 326 (by decide)).trans (show u64.1 0 326 = (u64.1 0 326) by rfl))
        have q76 : (u68.1 0 381).toInt = (u64.1 0 381).toInt := congrArg Int32.toInt ((fr67.2.1 381 (by decide)).trans (show u64.1 0 381 = (u64.1 0 381) by rfl))
        refine W.sz (fun hz => ?_)
        refine vx_ret ?_
        refine W.widen (k := 1) (n := 6) (Nat.le_of_ble_eq_true rfl) (Nat.le_of_ble_eq_true rfl) ?_
        exact W.vret hx hb hr (fun t ht9 hW => ⟨⟨u68, rfl, ⟨(FC.tr (FC.tr (FC.tr (FC.rf _) (FC.up fwL25 (by decide) (by decide))) (FC.up fr63 (by decide) (by decide))) (FC.up fr67 (by decide) (by decide))), ⟨z304, z305, z306, z312, z326, z373, z381, zd, (Or.inr (⟨u2, ex1, ⟨fr1, i3051, i3061, pj1, pt1, rs1⟩, r7, ex5, (Or.inr (⟨z28, (Or.inr (⟨u34, ex33, ⟨fr33, i30533, i31233, pd33, pt33, rs33⟩, ka, w25, exL25, fwL25, i305L25, i306L25, i312L25, f1L25, rsL25, ptL25, pdL25, poL25, (Or.inr (⟨z55, r59, ex57, (Or.inl ⟨z61, (Or.inr (⟨u64, ex63, ⟨fr63, i30563, pt63, rs63⟩, u68, ex67, ⟨fr67, i30667, pj67, rs67⟩, rfl, rfl⟩))⟩)⟩))⟩))⟩))⟩))⟩, (show 0 ≤ (u68.1 0 305).toInt ∧ (u68.1 0 305).toInt ≤ 1500 from (om_e1fba6fb3a z305 ptL25 i30563 pt63 q70)), (show 0 ≤ (u68.1 0 306).toInt ∧ (u68.1 0 306).toInt ≤ 40 from (om_7eaf33e007 i30667)), (show 0 ≤ (u68.1 0 312).toInt ∧ (u68.1 0 312).toInt ≤ 500 from (om_8a5975ec21 i312L25 q71 q72)), (show (u68.1 0 381).toInt + (u68.1 0 326).toInt - 2 * (u68.1 0 305).toInt + (4) ≤ (v.1 0 381).toInt + (v.1 0 326).toInt - 2 * (v.1 0 305).toInt from (om_09bf078d5c pdL25 q73 q74 pt63 q70 q75 q76)), (show (v.1 0 305).toInt + 2 ≤ (u68.1 0 305).toInt from (om_83f52a6c4f ptL25 pt63 q70)), (show (u68.1 0 306).toInt = (v.1 0 306).toInt from (om_d6bb448ea1 poL25 q66 pj67)), (RS.tr (RS.tr (RS.tr RS.rf rsL25) rs63) rs67)⟩, ⟨by rw [ht9]; exact hP, hD⟩, by rw [ht9]; exact hz⟩, hS.F ht9⟩) hS.2.2 dX5_parameters_77
      · have z77 : r59.toInt = (37 : Int) := eq_z rfl (show (37 : Int32).toInt = (37 : Int) by decide) h60
        refine lv_aload_n hx hb dX5_parameters_44 rfl (lv_at hl 1 rfl) ?_
        refine va_get (D := (dC, dI)) (ci := 8) (fs := oF_X5 ad pr w25) (v := .ref (ad 900)) (C := RX5) (T := TX5) (N := 7) hx hb ht itX5 hown hK hP 3 rfl rfl 1 (by decide) (ht _ tw_571) (fun _ h9 => h9) rfl dX5_parameters_45 ?_
        have q78 : (w25.1 0 373).toInt = (v.1 0 373).toInt := congrArg Int32.toInt ((fwL25.2.1 373 (by decide)).trans (show v.1 0 373 = (v.1 0 373) by rfl))
        refine W.sz (fun hz9 => ?_)
        refine czx_v (rx_Vk (n := 0) (As := []) (rest := []) hx hb hml hown ht hKK hFx hP hD hS hA (c_x_X9_take l dC dI cI cB cZ cJ cR tb H.size ad pr N L1 L2 w25 ps (show 0 ≤ (w25.1 0 304).toInt ∧ (w25.1 0 304).toInt ≤ 1503 from (om_73002589c1 z304 q56)) (show 0 ≤ (w25.1 0 305).toInt ∧ (w25.1 0 305).toInt ≤ 1500 from (om_c55c38ddc1 z305 i305L25 ptL25)) (show 0 ≤ (w25.1 0 373).toInt ∧ (w25.1 0 373).toInt ≤ 4000 from (om_9084c127ed z373 q78)) (show pr ps = ad 908 from hps) (show (w25.1 0 300) = ps from (Eq.trans (fwL25.2.1 300 (by decide)) es300)) (show l.stackTraces = false from hst)) tw_539 tw_585 (by decide +kernel) rfl rfl ⟨Nat.le_of_ble_eq_true rfl, Nat.le_of_ble_eq_true rfl⟩ (List.range (cW ad pr N cI cR L1 L2 w25).length) (rg_map _) (nd_range _) 0 rfl rfl rfl rfl hl.1 rfl (Nat.le_of_ble_eq_true rfl) dX5_parameters_48 ⟨Nat.le_of_ble_eq_true rfl, Nat.le_of_ble_eq_true rfl⟩) hP hD hS hA (fun u9 ce9 q9 H locs hx9 hP hD hS hc9 hv9 hf9 => ?_) (fun u80 H locs hw79 hP hD hS hz8 => ?_)
        · exact vx_out (fun x h9 => (hnt x h9).elim) hlocks hc9 hv9 hf9 (fun t9 ht9 hv8 => ⟨u9, ⟨FC.tr (FC.tr (FC.rf _) (FC.up fwL25 (by decide) (by decide))) hx9.1, hx9.2.1, ⟨z304, z305, z306, z312, z326, z373, z381, zd, (Or.inr (⟨u2, ex1, ⟨fr1, i3051, i3061, pj1, pt1, rs1⟩, r7, ex5, (Or.inr (⟨z28, (Or.inr (⟨u34, ex33, ⟨fr33, i30533, i31233, pd33, pt33, rs33⟩, ka, w25, exL25, fwL25, i305L25, i306L25, i312L25, f1L25, rsL25, ptL25, pdL25, poL25, (Or.inr (⟨z55, r59, ex57, (Or.inr (⟨z77, (Or.inl ⟨u9, hx9.2.2, rfl, rfl⟩)⟩))⟩))⟩))⟩))⟩))⟩⟩, ⟨rfl, by rw [ht9]; exact hP, hD⟩, hS.F ht9⟩) hS.2.2 (Nat.le_refl _) (Nat.le_refl _)
        refine W.shrink (hz8.trans hz9) ?_
        obtain ⟨fr79, ex79, i30579, pt79, rs79⟩ := hw79
        have i30579 : 0 ≤ (u80.1 0 305).toInt ∧ (u80.1 0 305).toInt ≤ 1500 := i30579
        have pt79 : (u80.1 0 305).toInt = (w25.1 0 305).toInt + 1 := pt79
        have rs79 : RS w25 u80 := rs79
        refine lv_aload_n hx hb dX5_parameters_51 rfl (lv_at hl 1 rfl) ?_
        have q82 : (u80.1 0 304).toInt = (w25.1 0 304).toInt := congrArg Int32.toInt ((fr79.2.1 304 (by decide)).trans (show w25.1 0 304 = (w25.1 0 304) by rfl))
        have q83 : (u80.1 0 312).toInt = (w25.1 0 312).toInt := congrArg Int32.toInt ((fr79.2.1 312 (by decide)).trans (show w25.1 0 312 = (w25.1 0 312) by rfl))
        have q84 : (w25.1 0 326).toInt = (v.1 0 326).toInt := congrArg Int32.toInt ((fwL25.2.1 326 (by decide)).trans (show v.1 0 326 = (v.1 0 326) by rfl))
        have q85 : (u80.1 0 326).toInt = (w25.1 0 326).toInt := congrArg Int32.toInt ((fr79.2.1 326 (by decide)).trans (show w25.1 0 326 = (w25.1 0 326) by rfl))
        have q86 : (u80.1 0 373).toInt = (w25.1 0 373).toInt := congrArg Int32.toInt ((fr79.2.1 373 (by decide)).trans (show w25.1 0 373 = (w25.1 0 373) by rfl))
        have q87 : (w25.1 0 381).toInt = (v.1 0 381).toInt := congrArg Int32.toInt ((fwL25.2.1 381 (by decide)).trans (show v.1 0 381 = (v.1 0 381) by rfl))
        have q88 : (u80.1 0 381).toInt = (w25.1 0 381).toInt := congrArg Int32.toInt ((fr79.2.1 381 (by decide)).trans (show w25.1 0 381 = (w25.1 0 381) by rfl))
        refine W.sz (fun hz9 => ?_)
        refine czx_v (rx_Vk (n := 0) (As := []) (rest := []) hx hb hml hown ht hKK hFx hP hD hS hA (c_x_X5_parameter l dC dI cI cB cZ cJ cR tb H.size ad pr N L1 L2 u80 ps (show 0 ≤ (u80.1 0 304).toInt ∧ (u80.1 0 304).toInt ≤ 1503 from (om_dd87ee851a z304 q56 q82)) (show 0 ≤ (u80.1 0 305).toInt ∧ (u80.1 0 305).toInt ≤ 1500 from (om_9173723a30 z305 ptL25 i30579 pt79)) (show 0 ≤ (u80.1 0 312).toInt ∧ (u80.1 0 312).toInt ≤ 500 from (om_f8376ff89c i312L25 q83)) (show 0 ≤ (u80.1 0 326).toInt ∧ (u80.1 0 326).toInt ≤ 420 from (om_9591dea625 z326 q84 q85)) (show 0 ≤ (u80.1 0 373).toInt ∧ (u80.1 0 373).toInt ≤ 4000 from (om_03cd8767ac z373 q78 q86)) (show 0 ≤ (u80.1 0 381).toInt ∧ (u80.1 0 381).toInt ≤ 3008 from (om_455125c312 z326 z381 zd i305L25 pdL25 q84 q87 q88)) (show pr ps = ad 908 from hps) (show (u80.1 0 300) = ps from (Eq.trans (fr79.2.1 300 (by decide)) (Eq.trans (fwL25.2.1 300 (by decide)) es300))) (show l.stackTraces = false from hst) (show (u80.1 0 381).toInt + (u80.1 0 326).toInt - 2 * (u80.1 0 305).toInt ≤ 0 from (om_0611dc1c8d zd pdL25 q85 q88 pt79))) tw_596 tw_597 (by decide +kernel) rfl rfl ⟨Nat.le_of_ble_eq_true rfl, Nat.le_of_ble_eq_true rfl⟩ (List.range (cW ad pr N cI cR L1 L2 u80).length) (rg_map _) (nd_range _) 3 rfl rfl rfl rfl hl.1 rfl (Nat.le_of_ble_eq_true rfl) dX5_parameters_52 ⟨Nat.le_of_ble_eq_true rfl, Nat.le_of_ble_eq_true rfl⟩) hP hD hS hA (fun u9 ce9 q9 H locs hx9 hP hD hS hc9 hv9 hf9 => ?_) (fun u90 H locs hw89 hP hD hS hz8 => ?_)
        · exact vx_out (fun x h9 => (hnt x h9).elim) hlocks hc9 hv9 hf9 (fun t9 ht9 hv8 => ⟨u9, ⟨FC.tr (FC.tr (FC.tr (FC.rf _) (FC.up fwL25 (by decide) (by decide))) (FC.up fr79 (by decide) (by decide))) hx9.1, hx9.2.1, ⟨z304, z305, z306, z312, z326, z373, z381, zd, (Or.inr (⟨u2, ex1, ⟨fr1, i3051, i3061, pj1, pt1, rs1⟩, r7, ex5, (Or.inr (⟨z28, (Or.inr (⟨u34, ex33, ⟨fr33, i30533, i31233, pd33, pt33, rs33⟩, ka, w25, exL25, fwL25, i305L25, i306L25, i312L25, f1L25, rsL25, ptL25, pdL25, poL25, (Or.inr (⟨z55, r59, ex57, (Or.inr (⟨z77, (Or.inr (⟨u80, ex79, ⟨fr79, i30579, pt79, rs79⟩, u9, hx9.2.2, rfl, rfl⟩))⟩))⟩))⟩))⟩))⟩))⟩⟩, ⟨rfl, by rw [ht9]; exact hP, hD⟩, hS.F ht9⟩) hS.2.2 (Nat.le_refl _) (Nat.le_refl _)
        refine W.shrink (hz8.trans hz9) ?_
        obtain ⟨fr89, ex89, i30589, i31289, pd89, pt89, rs89⟩ := hw89
        have i30589 : 0 ≤ (u90.1 0 305).toInt ∧ (u90.1 0 305).toInt ≤ 1500 := i30589
        have i31289 : 0 ≤ (u90.1 0 312).toInt ∧ (u90.1 0 312).toInt ≤ 500 := i31289
        have pd89 : (u90.1 0 381).toInt + (u90.1 0 326).toInt - 2 * (u90.1 0 305).toInt + (4) ≤ (u80.1 0 381).toInt + (u80.1 0 326).toInt - 2 * (u80.1 0 305).toInt := pd89
        have pt89 : (u80.1 0 305).toInt + 2 ≤ (u90.1 0 305).toInt := pt89
        have rs89 : RS u80 u90 := rs89
        refine lv_iinc (v := (ka + (1 : Int32))) (lv' := [(1, .int (ka + (1 : Int32))), (0, .ref (ad 903))]) hx hb dX5_parameters_55 hl (k := 0) rfl (rfl) (by decide) rfl (fun ls hl => ?_)
        have z92 : (ka + (1 : Int32)).toInt = ka.toInt + (1 : Int) := add_z rfl (show (1 : Int32).toInt = (1 : Int) by decide) (om_8a2b73c54c f1L25) (om_3176a8b66b f1L25)
        refine lv_goto (tgt := 25) hx hb dX5_parameters_58 (by decide) ?_
        have q93 : (u80.1 0 306).toInt = (w25.1 0 306).toInt := congrArg Int32.toInt ((fr79.2.1 306 (by decide)).trans (show w25.1 0 306 = (w25.1 0 306) by rfl))
        have q94 : (u90.1 0 306).toInt = (u80.1 0 306).toInt := congrArg Int32.toInt ((fr89.2.1 306 (by decide)).trans (show u80.1 0 306 = (u80.1 0 306) by rfl))
        exact ih25 ((ka + (1 : Int32)), u90) _ _ _ (show (1500 - (ka + (1 : Int32)).toInt).toNat < (1500 - ka.toInt).toNat from tn_z (om_f107c3c51d z92) (om_1cb5cb4f43 z55)) ⟨(show FC [305, 306, 312, 315] [0, 311] v u90 from (FC.tr (FC.tr (FC.tr (FC.rf _) (FC.up fwL25 (by decide) (by decide))) (FC.up fr79 (by decide) (by decide))) (FC.up fr89 (by decide) (by decide)))), (show 0 ≤ (u90.1 0 305).toInt ∧ (u90.1 0 305).toInt ≤ 1500 from (om_26d9e457ca i30579 i30589 pt89)), (show 0 ≤ (u90.1 0 306).toInt ∧ (u90.1 0 306).toInt ≤ 40 from (om_8d8f12efc9 z306 i306L25 poL25 q93 q94)), (show 0 ≤ (u90.1 0 312).toInt ∧ (u90.1 0 312).toInt ≤ 500 from (om_9861e69da5 i31289)), (show 0 ≤ (ka + (1 : Int32)).toInt ∧ (ka + (1 : Int32)).toInt ≤ 1500 from (om_46db715386 f1L25 z55 z92)), (show RS v u90 from (RS.tr (RS.tr (RS.tr RS.rf rsL25) rs79) rs89)), (show (v.1 0 305).toInt + 1 ≤ (u90.1 0 305).toInt from (om_81d6223137 ptL25 pt79 pt89)), (show (u90.1 0 381).toInt + (u90.1 0 326).toInt - 2 * (u90.1 0 305).toInt + (2) ≤ (v.1 0 381).toInt + (v.1 0 326).toInt - 2 * (v.1 0 305).toInt from (om_4b6a512d1c pdL25 q85 q88 pt79 pd89)), (show (u90.1 0 306).toInt = (v.1 0 306).toInt + 1 from (om_c1f65cf568 poL25 q93 q94)), (RT.st exL25 ⟨fwL25, i305L25, i306L25, i312L25, f1L25, rsL25, ptL25, pdL25, poL25, z55, r59, ex57, z77, u80, ex79, ⟨fr79, i30579, pt79, rs79⟩, u90, ex89, ⟨fr89, i30589, i31289, pd89, pt89, rs89⟩, rfl⟩), hP, hD, hS, lv_sub hl [0, 1] rfl⟩
theorem om_020c78c161 {x0 x1 x2 x3 x4 : Int} (h0 : 0 ≤ x0 ∧ x0 ≤ 40) (h1 : 0 ≤ x1 ∧ x1 ≤ 40) (h2 : x1 = x0 + 1) (h3 : x2 = x1) (h4 : x3 = x2) (h5 : x4 = x3) : 0 ≤ x4 ∧ x4 ≤ 40 := by omega
theorem om_b444a9632b {x0 x1 x2 x3 x4 : Int} (h0 : 0 ≤ x0 ∧ x0 ≤ 40) (h1 : x1 = x0 + 1) (h2 : x2 = x1) (h3 : x3 = x2) (h4 : x4 = x3) : 1 ≤ x4 := by omega
theorem om_adc5322c08 {x0 x1 x2 x3 x4 x5 : Int} (h0 : 0 ≤ x0 ∧ x0 ≤ 1500) (h1 : x1 = x0 + 1) (h2 : x2 = x1) (h3 : x3 = x2 + 1) (h4 : 0 ≤ x4 ∧ x4 ≤ 1500) (h5 : x4 = x3 + 1) (h6 : x5 = x4) : 0 ≤ x5 ∧ x5 ≤ 1500 := by omega
theorem om_b71634050f {x0 : Int} (h0 : (1 : Int) ≤ x0) (h1 : x0 ≤ (1000 : Int)) : 1 ≤ x0 ∧ x0 ≤ 1000 := by omega
theorem om_7515e983a8 {x0 x1 x2 x3 x4 x5 x6 x7 x8 x9 x10 x11 x12 x13 x14 x15 x16 x17 : Int} (h0 : x0 = x1) (h1 : x2 = x3) (h2 : x4 = x5 + 1) (h3 : x6 = x4) (h4 : x7 = x0) (h5 : x8 = x2) (h6 : x9 = x7) (h7 : x10 = x8) (h8 : x11 = x6 + 1) (h9 : x12 = x9) (h10 : x13 = x10) (h11 : x14 = x11 + 1) (h12 : x15 = x14) (h13 : x16 = x12) (h14 : x17 = x13) : x17 + x16 - 2 * x15 + (6) ≤ x3 + x1 - 2 * x5 := by omega
theorem om_06fe4e7d3f {x0 x1 x2 x3 x4 x5 : Int} (h0 : x0 = x1 + 1) (h1 : x2 = x0) (h2 : x3 = x2 + 1) (h3 : x4 = x3 + 1) (h4 : x5 = x4) : x1 + 3 ≤ x5 := by omega
theorem om_46a3fd6db8 {x0 x1 x2 x3 x4 x5 : Int} (h0 : x0 = x1 + 1) (h1 : x2 = x0) (h2 : x3 = x2) (h3 : x4 = x3) (h4 : x5 = x4 - 1) : x5 = x1 := by omega
set_option maxHeartbeats 4000000 in
set_option maxRecDepth 100000 in
theorem c_x_X5_rowSize (l : Launch) (dC : Nat → ClassId) (dI : Nat → Nat → Nat) (cI cB cZ cJ cR : ClassId) (tb : Nat → Nat) (sz : Nat) (ad : Nat → Nat) (pr : Int32 → Nat) (N : Nat) (L1 L2 : List Nat) (v : MS) (ps : Int32) (z304 : 0 ≤ (v.1 0 304).toInt ∧ (v.1 0 304).toInt ≤ 1503) (z305 : 0 ≤ (v.1 0 305).toInt ∧ (v.1 0 305).toInt ≤ 1500) (z306 : 0 ≤ (v.1 0 306).toInt ∧ (v.1 0 306).toInt ≤ 40) (z326 : 0 ≤ (v.1 0 326).toInt ∧ (v.1 0 326).toInt ≤ 420) (z373 : 0 ≤ (v.1 0 373).toInt ∧ (v.1 0 373).toInt ≤ 4000) (z381 : 0 ≤ (v.1 0 381).toInt ∧ (v.1 0 381).toInt ≤ 3008) (hps : pr ps = ad 908) (es300 : (v.1 0 300) = ps) (hst : l.stackTraces = false) (zd : (v.1 0 381).toInt + (v.1 0 326).toInt - 2 * (v.1 0 305).toInt ≤ 0) : vx_Met l yX5_rowSize (Cond.code yX5_rowSize cX5_rowSize 3 (some .int) :: tw_W) ({ frames := 8, cells := 1, slots := 6, locals := 125 }) (pc_ (dC, dI) (tyS cI cB cZ cJ cR) tb (cW ad pr N cI cR L1 L2 v) sz [.ref (ad 903)]) (qiz_ (dC, dI) (cW ad pr N cI cR L1 L2 v) sz (fun (r : Int32) (u : MS) => FC [305, 306] [0] v u ∧ (Q_x_X5_rowSize L1 L2 v false r u) ∧ (0 ≤ (u.1 0 305).toInt ∧ (u.1 0 305).toInt ≤ 1500) ∧ (0 ≤ (u.1 0 306).toInt ∧ (u.1 0 306).toInt ≤ 40) ∧ (1 ≤ r.toInt ∧ r.toInt ≤ 1000) ∧ ((u.1 0 381).toInt + (u.1 0 326).toInt - 2 * (u.1 0 305).toInt + (6) ≤ (v.1 0 381).toInt + (v.1 0 326).toInt - 2 * (v.1 0 305).toInt) ∧ ((v.1 0 305).toInt + 3 ≤ (u.1 0 305).toInt) ∧ ((u.1 0 306).toInt = (v.1 0 306).toInt) ∧ (RS v u)) (fun (u : MS) => (cW ad pr N cI cR L1 L2 u))) (qxc (dC, dI) (cW ad pr N cI cR L1 L2 v) sz (fun (u : MS) => (cW ad pr N cI cR L1 L2 u)) (fun (u : MS) => FC xfl xal v u ∧ (u.1 0 308).toInt ≠ 0 ∧ (Q_x_X5_rowSize L1 L2 v true 0 u))) 1 6 (va_A (cW ad pr N cI cR L1 L2 v) sz) := by
  refine vx_ofW (cc := cX5_rowSize) (maxL := 3) (ret := (some .int)) (by decide) rfl ?_
  intro p e s m args below meth c s₁ B hml hnt hv
  obtain ⟨rfl, hsz, hP, hKK, hD0, hFx⟩ := hv
  have hK := hKK.1
  have hx := B.exec
  have hb := B.bytes
  have hr := B.returns
  have ht : ∀ w ∈ tw_W, w.before _ s = true := fun w h => atoms_spec (ws := Cond.code yX5_rowSize cX5_rowSize 3 (some .int) :: tw_W) B.pre w (List.mem_cons_of_mem _ h)
  have hown : s.vm.findClass RX5 = some m.cls := findClass_of_methodNamed B.named
  have hlocks := B.notSynchronized
  subst hsz
  unfold qiz_ qxc
  have hD := hD0.self (sz := s.heap.size)
  generalize hAe : va_A (cW ad pr N cI cR L1 L2 v) s.heap.size = A at hD hFx ⊢
  have hA : ∀ q : Nat, s.heap.size ≤ q → A q := fun q h => by rw [← hAe]; exact Or.inr h
  have hS : va_S A s.heap s.heap [] := va_S.rf
  have hl := lv_entry ([.ref (ad 903)]) (n := 3) (Nat.le_of_ble_eq_true rfl)
  rw [lg_entry_eq]
  generalize (lg_sl ([.ref (ad 903)]) ++ List.replicate (3 - (lg_sl ([.ref (ad 903)])).length) Slot.unset).toArray = ls at hl ⊢
  have hl : lv_has ls 3 [(0, .ref (ad 903))] := hl
  refine lv_aload_n hx hb dX5_rowSize_0 rfl (lv_at hl 0 rfl) ?_
  refine va_get (D := (dC, dI)) (ci := 8) (fs := oF_X5 ad pr v) (v := .ref (ad 900)) (C := RX5) (T := TX5) (N := 7) hx hb ht itX5 hown hK hP 3 rfl rfl 1 (by decide) (ht _ tw_571) (fun _ h9 => h9) rfl dX5_rowSize_1 ?_
  refine W.sz (fun hz9 => ?_)
  refine czx_v (rx_Vk (n := 0) (As := []) (rest := []) hx hb hml hown ht hKK hFx hP hD hS hA (c_x_X9_open l dC dI cI cB cZ cJ cR tb s.heap.size ad pr N L1 L2 v ps (show 0 ≤ (v.1 0 304).toInt ∧ (v.1 0 304).toInt ≤ 1503 from (om_c99648273b z304)) (show 0 ≤ (v.1 0 305).toInt ∧ (v.1 0 305).toInt ≤ 1500 from (om_7897b4ccef z305)) (show 0 ≤ (v.1 0 306).toInt ∧ (v.1 0 306).toInt ≤ 40 from (om_7eaf33e007 z306)) (show 0 ≤ (v.1 0 373).toInt ∧ (v.1 0 373).toInt ≤ 4000 from (om_c74a68af25 z373)) (show pr ps = ad 908 from hps) (show (v.1 0 300) = ps from es300) (show l.stackTraces = false from hst)) tw_524 tw_593 (by decide +kernel) rfl rfl ⟨Nat.le_of_ble_eq_true rfl, Nat.le_of_ble_eq_true rfl⟩ (List.range (cW ad pr N cI cR L1 L2 v).length) (rg_map _) (nd_range _) 0 rfl rfl rfl rfl hl.1 rfl (Nat.le_of_ble_eq_true rfl) dX5_rowSize_4 ⟨Nat.le_of_ble_eq_true rfl, Nat.le_of_ble_eq_true rfl⟩) hP hD hS hA (fun u9 ce9 q9 H locs hx9 hP hD hS hc9 hv9 hf9 => ?_) (fun u2 H locs hw1 hP hD hS hz8 => ?_)
  · exact vx_out (fun x h9 => (hnt x h9).elim) hlocks hc9 hv9 hf9 (fun t9 ht9 hv8 => ⟨u9, ⟨FC.tr (FC.rf _) hx9.1, hx9.2.1, ⟨z304, z305, z306, z326, z373, z381, zd, (Or.inl ⟨u9, hx9.2.2, rfl, rfl, rfl⟩)⟩⟩, ⟨rfl, by rw [ht9]; exact hP, hD⟩, hS.F ht9⟩) hS.2.2 (Nat.le_refl _) (Nat.le_refl _)
  refine W.shrink (hz8.trans hz9) ?_
  obtain ⟨fr1, ex1, i3051, i3061, pj1, pt1, rs1⟩ := hw1
  refine lv_aload_n hx hb dX5_rowSize_7 rfl (lv_at hl 0 rfl) ?_
  refine va_get (D := (dC, dI)) (ci := 8) (fs := oF_X5 ad pr u2) (v := .ref (ad 900)) (C := RX5) (T := TX5) (N := 7) hx hb ht itX5 hown hK hP 3 rfl rfl 1 (by decide) (ht _ tw_571) (fun _ h9 => h9) rfl dX5_rowSize_8 ?_
  have q4 : (u2.1 0 304).toInt = (v.1 0 304).toInt := congrArg Int32.toInt ((fr1.2.1 304 (by decide)).trans (show v.1 0 304 = (v.1 0 304) by rfl))
  refine cu_i (rn_Vk (n := 0) (As := []) (rest := []) hx hb hml hown ht hKK hFx hP hD hS hA (c_x_X9_kind l dC dI cI cB cZ cJ cR tb H.size ad pr N L1 L2 u2  (show 0 ≤ (u2.1 0 304).toInt ∧ (u2.1 0 304).toInt ≤ 1503 from (om_73002589c1 z304 q4)) (show 0 ≤ (u2.1 0 305).toInt ∧ (u2.1 0 305).toInt ≤ 1500 from (om_89213937cb z305 i3051 pt1))) tw_455 tw_594 (by decide +kernel) rfl rfl ⟨Nat.le_of_ble_eq_true rfl, Nat.le_of_ble_eq_true rfl⟩ (List.range (cW ad pr N cI cR L1 L2 u2).length) (rg_map _) (nd_range _) 0 rfl rfl rfl rfl hl.1 rfl (Nat.le_of_ble_eq_true rfl) dX5_rowSize_11 ⟨Nat.le_of_ble_eq_true rfl, Nat.le_of_ble_eq_true rfl⟩) hP hD hS hA (fun r7 u6 H locs hw5 hP hD hS => ?_)
  obtain ⟨rfl, ex5⟩ := hw5
  refine W.widen (k := 0) (n := 0) (Nat.le_refl _) (Nat.le_refl _) ?_
  refine lv_iconst (v := 4) hx hb dX5_rowSize_14 (by decide) ?_
  refine lv_icmp_ne (tgt := 22) hx hb dX5_rowSize_15 (by decide) (fun h8 => ?_) (fun h8 => ?_)
  · have z9 : r7.toInt ≠ (4 : Int) := ne_z rfl (show (4 : Int32).toInt = (4 : Int) by decide) h8
    refine lv_iconst (v := 0) hx hb dX5_rowSize_22 (by decide) ?_
    refine lv_istore_n (lv' := [(1, .int 0), (0, .ref (ad 903))]) hx hb dX5_rowSize_23 rfl hl (by decide) rfl (fun ls hl => ?_)
    refine lv_iload_n hx hb dX5_rowSize_24 rfl (lv_at hl 0 rfl) ?_
    refine lv_if_ne (tgt := 36) hx hb dX5_rowSize_25 (by decide) (fun k10 => absurd k10 (by decide)) (fun _ => ?_)
    refine lv_aload_n hx hb dX5_rowSize_28 rfl (lv_at hl 1 rfl) ?_
    refine va_get (D := (dC, dI)) (ci := 8) (fs := oF_X5 ad pr u2) (v := .ref (ad 900)) (C := RX5) (T := TX5) (N := 7) hx hb ht itX5 hown hK hP 3 rfl rfl 1 (by decide) (ht _ tw_571) (fun _ h9 => h9) rfl dX5_rowSize_29 ?_
    refine lv_iconst (v := 3) hx hb dX5_rowSize_32 (by decide) ?_
    have q11 : (u2.1 0 373).toInt = (v.1 0 373).toInt := congrArg Int32.toInt ((fr1.2.1 373 (by decide)).trans (show v.1 0 373 = (v.1 0 373) by rfl))
    refine W.sz (fun hz9 => ?_)
    refine czx_v (rx_Vk (n := 1) (As := [.int 3]) (rest := []) hx hb hml hown ht hKK hFx hP hD hS hA (c_x_X9_need l dC dI cI cB cZ cJ cR tb H.size ad pr N L1 L2 u2 (3 : Int32) ps (show 0 ≤ (u2.1 0 304).toInt ∧ (u2.1 0 304).toInt ≤ 1503 from (om_73002589c1 z304 q4)) (show 0 ≤ (u2.1 0 305).toInt ∧ (u2.1 0 305).toInt ≤ 1500 from (om_89213937cb z305 i3051 pt1)) (show 0 ≤ (u2.1 0 373).toInt ∧ (u2.1 0 373).toInt ≤ 4000 from (om_9084c127ed z373 q11)) (show pr ps = ad 908 from hps) (show (u2.1 0 300) = ps from (Eq.trans (fr1.2.1 300 (by decide)) es300)) (show l.stackTraces = false from hst)) tw_559 tw_572 (by decide +kernel) rfl rfl ⟨Nat.le_of_ble_eq_true rfl, Nat.le_of_ble_eq_true rfl⟩ (List.range (cW ad pr N cI cR L1 L2 u2).length) (rg_map _) (nd_range _) 0 rfl rfl rfl rfl hl.1 rfl (Nat.le_of_ble_eq_true rfl) dX5_rowSize_33 ⟨Nat.le_of_ble_eq_true rfl, Nat.le_of_ble_eq_true rfl⟩) hP hD hS hA (fun u9 ce9 q9 H locs hx9 hP hD hS hc9 hv9 hf9 => ?_) (fun u13 H locs hw12 hP hD hS hz8 => ?_)
    · exact vx_out (fun x h9 => (hnt x h9).elim) hlocks hc9 hv9 hf9 (fun t9 ht9 hv8 => ⟨u9, ⟨FC.tr (FC.tr (FC.rf _) (FC.up fr1 (by decide) (by decide))) hx9.1, hx9.2.1, ⟨z304, z305, z306, z326, z373, z381, zd, (Or.inr (⟨u2, ex1, ⟨fr1, i3051, i3061, pj1, pt1, rs1⟩, r7, ex5, (Or.inl ⟨z9, (Or.inl ⟨u9, hx9.2.2, rfl, rfl, rfl⟩)⟩)⟩))⟩⟩, ⟨rfl, by rw [ht9]; exact hP, hD⟩, hS.F ht9⟩) hS.2.2 (Nat.le_refl _) (Nat.le_refl _)
    refine W.shrink (hz8.trans hz9) ?_
    obtain ⟨fr12, ex12, rs12⟩ := hw12
    have rs12 : RS u2 u13 := rs12
    refine lv_aload_n hx hb dX5_rowSize_36 rfl (lv_at hl 1 rfl) ?_
    refine va_get (D := (dC, dI)) (ci := 8) (fs := oF_X5 ad pr u13) (v := .ref (ad 900)) (C := RX5) (T := TX5) (N := 7) hx hb ht itX5 hown hK hP 3 rfl rfl 1 (by decide) (ht _ tw_571) (fun _ h9 => h9) rfl dX5_rowSize_37 ?_
    have q15 : (u13.1 0 304).toInt = (u2.1 0 304).toInt := congrArg Int32.toInt ((fr12.2.1 304 (by decide)).trans (show u2.1 0 304 = (u2.1 0 304) by rfl))
    have q16 : (u13.1 0 305).toInt = (u2.1 0 305).toInt := congrArg Int32.toInt ((fr12.2.1 305 (by decide)).trans (show u2.1 0 305 = (u2.1 0 305) by rfl))
    refine cu_i (rn_Vk (n := 0) (As := []) (rest := []) hx hb hml hown ht hKK hFx hP hD hS hA (c_x_X9_value l dC dI cI cB cZ cJ cR tb H.size ad pr N L1 L2 u13  (show 0 ≤ (u13.1 0 304).toInt ∧ (u13.1 0 304).toInt ≤ 1503 from (om_dd87ee851a z304 q4 q15)) (show 0 ≤ (u13.1 0 305).toInt ∧ (u13.1 0 305).toInt ≤ 1500 from (om_570f2378f1 z305 i3051 pt1 q16))) tw_535 tw_574 (by decide +kernel) rfl rfl ⟨Nat.le_of_ble_eq_true rfl, Nat.le_of_ble_eq_true rfl⟩ (List.range (cW ad pr N cI cR L1 L2 u13).length) (rg_map _) (nd_range _) 0 rfl rfl rfl rfl hl.1 rfl (Nat.le_of_ble_eq_true rfl) dX5_rowSize_40 ⟨Nat.le_of_ble_eq_true rfl, Nat.le_of_ble_eq_true rfl⟩) hP hD hS hA (fun r19 u18 H locs hw17 hP hD hS => ?_)
    obtain ⟨rfl, ex17⟩ := hw17
    refine W.widen (k := 0) (n := 0) (Nat.le_refl _) (Nat.le_refl _) ?_
    refine lv_istore_n (lv' := [(2, .int r19), (1, .int 0), (0, .ref (ad 903))]) hx hb dX5_rowSize_43 rfl hl (by decide) rfl (fun ls hl => ?_)
    refine lv_iload_n hx hb dX5_rowSize_44 rfl (lv_at hl 1 rfl) ?_
    refine lv_if_ne (tgt := 60) hx hb dX5_rowSize_45 (by decide) (fun k20 => absurd k20 (by decide)) (fun _ => ?_)
    refine lv_iload_n hx hb dX5_rowSize_48 rfl (lv_at hl 0 rfl) ?_
    refine lv_iconst (v := 1) hx hb dX5_rowSize_49 (by decide) ?_
    refine lv_icmp_lt (tgt := 60) hx hb dX5_rowSize_50 (by decide) (fun h21 => ?_) (fun h21 => ?_)
    · have z22 : r19.toInt < (1 : Int) := lt_z rfl (show (1 : Int32).toInt = (1 : Int) by decide) h21
      refine lv_aload_n hx hb dX5_rowSize_60 rfl (lv_at hl 2 rfl) ?_
      refine va_get (D := (dC, dI)) (ci := 8) (fs := oF_X5 ad pr u13) (v := .ref (ad 900)) (C := RX5) (T := TX5) (N := 7) hx hb ht itX5 hown hK hP 3 rfl rfl 1 (by decide) (ht _ tw_571) (fun _ h9 => h9) rfl dX5_rowSize_61 ?_
      refine lv_iconst (v := 5) hx hb dX5_rowSize_64 (by decide) ?_
      refine lv_aload_n hx hb dX5_rowSize_65 rfl (lv_at hl 2 rfl) ?_
      refine va_get (D := (dC, dI)) (ci := 8) (fs := oF_X5 ad pr u13) (v := .ref (ad 900)) (C := RX5) (T := TX5) (N := 7) hx hb ht itX5 hown hK hP 3 rfl rfl 1 (by decide) (ht _ tw_571) (fun _ h9 => h9) rfl dX5_rowSize_66 ?_
      have q23 : (u13.1 0 373).toInt = (u2.1 0 373).toInt := congrArg Int32.toInt ((fr12.2.1 373 (by decide)).trans (show u2.1 0 373 = (u2.1 0 373) by rfl))
      refine cu_i (rn_Vk (n := 0) (As := []) (rest := [.int 5, .ref (ad 900)]) hx hb hml hown ht hKK hFx hP hD hS hA (c_x_X9_place l dC dI cI cB cZ cJ cR tb H.size ad pr N L1 L2 u13 ps (show 0 ≤ (u13.1 0 304).toInt ∧ (u13.1 0 304).toInt ≤ 1503 from (om_dd87ee851a z304 q4 q15)) (show 0 ≤ (u13.1 0 305).toInt ∧ (u13.1 0 305).toInt ≤ 1500 from (om_570f2378f1 z305 i3051 pt1 q16)) (show 0 ≤ (u13.1 0 373).toInt ∧ (u13.1 0 373).toInt ≤ 4000 from (om_03cd8767ac z373 q11 q23)) (show pr ps = ad 908 from hps) (show (u13.1 0 300) = ps from (Eq.trans (fr12.2.1 300 (by decide)) (Eq.trans (fr1.2.1 300 (by decide)) es300)))) tw_457 tw_577 (by decide +kernel) rfl rfl ⟨Nat.le_of_ble_eq_true rfl, Nat.le_of_ble_eq_true rfl⟩ (List.range (cW ad pr N cI cR L1 L2 u13).length) (rg_map _) (nd_range _) 0 rfl rfl rfl rfl hl.1 rfl (Nat.le_of_ble_eq_true rfl) dX5_rowSize_69 ⟨Nat.le_of_ble_eq_true rfl, Nat.le_of_ble_eq_true rfl⟩) hP hD hS hA (fun r26 u25 H locs hw24 hP hD hS => ?_)
      obtain ⟨rfl, ex24⟩ := hw24
      refine W.widen (k := 0) (n := 0) (Nat.le_refl _) (Nat.le_refl _) ?_
      refine W.sz (fun hz9 => ?_)
      refine czx_v (rx_Vk (n := 2) (As := [.int 5, .int r26]) (rest := []) hx hb hml hown ht hKK hFx hP hD hS hA (c_x_X9_refuse l dC dI cI cB cZ cJ cR tb H.size ad pr N L1 L2 u13 (5 : Int32) r26 (show l.stackTraces = false from hst) (show (5 : Int) ≠ 0 from om_5e02973d50)) tw_459 tw_578 (by decide +kernel) rfl rfl ⟨Nat.le_of_ble_eq_true rfl, Nat.le_of_ble_eq_true rfl⟩ (List.range (cW ad pr N cI cR L1 L2 u13).length) (rg_map _) (nd_range _) 0 rfl rfl rfl rfl hl.1 rfl (Nat.le_of_ble_eq_true rfl) dX5_rowSize_72 ⟨Nat.le_of_ble_eq_true rfl, Nat.le_of_ble_eq_true rfl⟩) hP hD hS hA (fun u9 ce9 q9 H locs hx9 hP hD hS hc9 hv9 hf9 => ?_) (fun u28 H locs hw27 hP hD hS hz8 => ?_)
      · exact vx_out (fun x h9 => (hnt x h9).elim) hlocks hc9 hv9 hf9 (fun t9 ht9 hv8 => ⟨u9, ⟨FC.tr (FC.tr (FC.tr (FC.rf _) (FC.up fr1 (by decide) (by decide))) (FC.up fr12 (by decide) (by decide))) hx9.1, hx9.2.1, ⟨z304, z305, z306, z326, z373, z381, zd, (Or.inr (⟨u2, ex1, ⟨fr1, i3051, i3061, pj1, pt1, rs1⟩, r7, ex5, (Or.inl ⟨z9, (Or.inr (⟨u13, ex12, ⟨fr12, rs12⟩, r19, ex17, (Or.inl ⟨z22, r26, ex24, u9, hx9.2.2, rfl, rfl, rfl⟩)⟩))⟩)⟩))⟩⟩, ⟨rfl, by rw [ht9]; exact hP, hD⟩, hS.F ht9⟩) hS.2.2 (Nat.le_refl _) (Nat.le_refl _)
      refine W.shrink (hz8.trans hz9) ?_
      obtain ⟨fr27, ex27, no27, rs27⟩ := hw27
      have no27 : False := no27
      have rs27 : RS u13 u28 := rs27
      exact no27.elim
    · have z30 : (1 : Int) ≤ r19.toInt := nlt_z rfl (show (1 : Int32).toInt = (1 : Int) by decide) h21
      refine lv_iload_n hx hb dX5_rowSize_53 rfl (lv_at hl 0 rfl) ?_
      refine lv_sipush (v := 1000) hx hb dX5_rowSize_54 (by decide) ?_
      refine lv_icmp_le (tgt := 75) hx hb dX5_rowSize_57 (by decide) (fun h31 => ?_) (fun h31 => ?_)
      · have z32 : r19.toInt ≤ (1000 : Int) := le_z rfl (show (1000 : Int32).toInt = (1000 : Int) by decide) h31
        refine lv_aload_n hx hb dX5_rowSize_75 rfl (lv_at hl 2 rfl) ?_
        refine va_get (D := (dC, dI)) (ci := 8) (fs := oF_X5 ad pr u13) (v := .ref (ad 900)) (C := RX5) (T := TX5) (N := 7) hx hb ht itX5 hown hK hP 3 rfl rfl 1 (by decide) (ht _ tw_571) (fun _ h9 => h9) rfl dX5_rowSize_76 ?_
        have q33 : (u13.1 0 373).toInt = (u2.1 0 373).toInt := congrArg Int32.toInt ((fr12.2.1 373 (by decide)).trans (show u2.1 0 373 = (u2.1 0 373) by rfl))
        refine W.sz (fun hz9 => ?_)
        refine czx_v (rx_Vk (n := 0) (As := []) (rest := []) hx hb hml hown ht hKK hFx hP hD hS hA (c_x_X9_take l dC dI cI cB cZ cJ cR tb H.size ad pr N L1 L2 u13 ps (show 0 ≤ (u13.1 0 304).toInt ∧ (u13.1 0 304).toInt ≤ 1503 from (om_dd87ee851a z304 q4 q15)) (show 0 ≤ (u13.1 0 305).toInt ∧ (u13.1 0 305).toInt ≤ 1500 from (om_570f2378f1 z305 i3051 pt1 q16)) (show 0 ≤ (u13.1 0 373).toInt ∧ (u13.1 0 373).toInt ≤ 4000 from (om_03cd8767ac z373 q11 q33)) (show pr ps = ad 908 from hps) (show (u13.1 0 300) = ps from (Eq.trans (fr12.2.1 300 (by decide)) (Eq.trans (fr1.2.1 300 (by decide)) es300))) (show l.stackTraces = false from hst)) tw_539 tw_585 (by decide +kernel) rfl rfl ⟨Nat.le_of_ble_eq_true rfl, Nat.le_of_ble_eq_true rfl⟩ (List.range (cW ad pr N cI cR L1 L2 u13).length) (rg_map _) (nd_range _) 0 rfl rfl rfl rfl hl.1 rfl (Nat.le_of_ble_eq_true rfl) dX5_rowSize_79 ⟨Nat.le_of_ble_eq_true rfl, Nat.le_of_ble_eq_true rfl⟩) hP hD hS hA (fun u9 ce9 q9 H locs hx9 hP hD hS hc9 hv9 hf9 => ?_) (fun u35 H locs hw34 hP hD hS hz8 => ?_)
        · exact vx_out (fun x h9 => (hnt x h9).elim) hlocks hc9 hv9 hf9 (fun t9 ht9 hv8 => ⟨u9, ⟨FC.tr (FC.tr (FC.tr (FC.rf _) (FC.up fr1 (by decide) (by decide))) (FC.up fr12 (by decide) (by decide))) hx9.1, hx9.2.1, ⟨z304, z305, z306, z326, z373, z381, zd, (Or.inr (⟨u2, ex1, ⟨fr1, i3051, i3061, pj1, pt1, rs1⟩, r7, ex5, (Or.inl ⟨z9, (Or.inr (⟨u13, ex12, ⟨fr12, rs12⟩, r19, ex17, (Or.inr (⟨z30, (Or.inl ⟨z32, (Or.inl ⟨u9, hx9.2.2, rfl, rfl, rfl⟩)⟩)⟩))⟩))⟩)⟩))⟩⟩, ⟨rfl, by rw [ht9]; exact hP, hD⟩, hS.F ht9⟩) hS.2.2 (Nat.le_refl _) (Nat.le_refl _)
        refine W.shrink (hz8.trans hz9) ?_
        obtain ⟨fr34, ex34, i30534, pt34, rs34⟩ := hw34
        have i30534 : 0 ≤ (u35.1 0 305).toInt ∧ (u35.1 0 305).toInt ≤ 1500 := i30534
        have pt34 : (u35.1 0 305).toInt = (u13.1 0 305).toInt + 1 := pt34
        have rs34 : RS u13 u35 := rs34
        refine lv_aload_n hx hb dX5_rowSize_82 rfl (lv_at hl 2 rfl) ?_
        refine va_get (D := (dC, dI)) (ci := 8) (fs := oF_X5 ad pr u35) (v := .ref (ad 900)) (C := RX5) (T := TX5) (N := 7) hx hb ht itX5 hown hK hP 3 rfl rfl 1 (by decide) (ht _ tw_571) (fun _ h9 => h9) rfl dX5_rowSize_83 ?_
        refine lv_bipush (v := 35) hx hb dX5_rowSize_86 (by decide) ?_
        have q37 : (u35.1 0 304).toInt = (u13.1 0 304).toInt := congrArg Int32.toInt ((fr34.2.1 304 (by decide)).trans (show u13.1 0 304 = (u13.1 0 304) by rfl))
        have q38 : (u35.1 0 373).toInt = (u13.1 0 373).toInt := congrArg Int32.toInt ((fr34.2.1 373 (by decide)).trans (show u13.1 0 373 = (u13.1 0 373) by rfl))
        refine W.sz (fun hz9 => ?_)
        refine czx_v (rx_Vk (n := 1) (As := [.int 35]) (rest := []) hx hb hml hown ht hKK hFx hP hD hS hA (c_x_X9_expect l dC dI cI cB cZ cJ cR tb H.size ad pr N L1 L2 u35 (35 : Int32) ps (show 0 ≤ (u35.1 0 304).toInt ∧ (u35.1 0 304).toInt ≤ 1503 from (om_57e3d9ffbd z304 q4 q15 q37)) (show 0 ≤ (u35.1 0 305).toInt ∧ (u35.1 0 305).toInt ≤ 1500 from (om_7897b4ccef i30534)) (show 0 ≤ (u35.1 0 373).toInt ∧ (u35.1 0 373).toInt ≤ 4000 from (om_282c7f458f z373 q11 q33 q38)) (show pr ps = ad 908 from hps) (show (u35.1 0 300) = ps from (Eq.trans (fr34.2.1 300 (by decide)) (Eq.trans (fr12.2.1 300 (by decide)) (Eq.trans (fr1.2.1 300 (by decide)) es300)))) (show l.stackTraces = false from hst)) tw_526 tw_580 (by decide +kernel) rfl rfl ⟨Nat.le_of_ble_eq_true rfl, Nat.le_of_ble_eq_true rfl⟩ (List.range (cW ad pr N cI cR L1 L2 u35).length) (rg_map _) (nd_range _) 0 rfl rfl rfl rfl hl.1 rfl (Nat.le_of_ble_eq_true rfl) dX5_rowSize_88 ⟨Nat.le_of_ble_eq_true rfl, Nat.le_of_ble_eq_true rfl⟩) hP hD hS hA (fun u9 ce9 q9 H locs hx9 hP hD hS hc9 hv9 hf9 => ?_) (fun u40 H locs hw39 hP hD hS hz8 => ?_)
        · exact vx_out (fun x h9 => (hnt x h9).elim) hlocks hc9 hv9 hf9 (fun t9 ht9 hv8 => ⟨u9, ⟨FC.tr (FC.tr (FC.tr (FC.tr (FC.rf _) (FC.up fr1 (by decide) (by decide))) (FC.up fr12 (by decide) (by decide))) (FC.up fr34 (by decide) (by decide))) hx9.1, hx9.2.1, ⟨z304, z305, z306, z326, z373, z381, zd, (Or.inr (⟨u2, ex1, ⟨fr1, i3051, i3061, pj1, pt1, rs1⟩, r7, ex5, (Or.inl ⟨z9, (Or.inr (⟨u13, ex12, ⟨fr12, rs12⟩, r19, ex17, (Or.inr (⟨z30, (Or.inl ⟨z32, (Or.inr (⟨u35, ex34, ⟨fr34, i30534, pt34, rs34⟩, (Or.inl ⟨u9, hx9.2.2, rfl, rfl, rfl⟩)⟩))⟩)⟩))⟩))⟩)⟩))⟩⟩, ⟨rfl, by rw [ht9]; exact hP, hD⟩, hS.F ht9⟩) hS.2.2 (Nat.le_refl _) (Nat.le_refl _)
        refine W.shrink (hz8.trans hz9) ?_
        obtain ⟨fr39, ex39, i30539, pt39, rs39⟩ := hw39
        have i30539 : 0 ≤ (u40.1 0 305).toInt ∧ (u40.1 0 305).toInt ≤ 1500 := i30539
        have pt39 : (u40.1 0 305).toInt = (u35.1 0 305).toInt + 1 := pt39
        have rs39 : RS u35 u40 := rs39
        refine lv_aload_n hx hb dX5_rowSize_91 rfl (lv_at hl 2 rfl) ?_
        refine va_get (D := (dC, dI)) (ci := 8) (fs := oF_X5 ad pr u40) (v := .ref (ad 900)) (C := RX5) (T := TX5) (N := 7) hx hb ht itX5 hown hK hP 3 rfl rfl 1 (by decide) (ht _ tw_571) (fun _ h9 => h9) rfl dX5_rowSize_92 ?_
        have q42 : (u13.1 0 306).toInt = (u2.1 0 306).toInt := congrArg Int32.toInt ((fr12.2.1 306 (by decide)).trans (show u2.1 0 306 = (u2.1 0 306) by rfl))
        have q43 : (u35.1 0 306).toInt = (u13.1 0 306).toInt := congrArg Int32.toInt ((fr34.2.1 306 (by decide)).trans (show u13.1 0 306 = (u13.1 0 306) by rfl))
        have q44 : (u40.1 0 306).toInt = (u35.1 0 306).toInt := congrArg Int32.toInt ((fr39.2.1 306 (by decide)).trans (show u35.1 0 306 = (u35.1 0 306) by rfl))
        refine cu_v (rn_Vk (n := 0) (As := []) (rest := []) hx hb hml hown ht hKK hFx hP hD hS hA (c_x_X9_close l dC dI cI cB cZ cJ cR tb H.size ad pr N L1 L2 u40  (show 0 ≤ (u40.1 0 306).toInt ∧ (u40.1 0 306).toInt ≤ 40 from (om_020c78c161 z306 i3061 pj1 q42 q43 q44)) (show 1 ≤ (u40.1 0 306).toInt from (om_b444a9632b z306 pj1 q42 q43 q44))) tw_528 tw_595 (by decide +kernel) rfl rfl ⟨Nat.le_of_ble_eq_true rfl, Nat.le_of_ble_eq_true rfl⟩ (List.range (cW ad pr N cI cR L1 L2 u40).length) (rg_map _) (nd_range _) 0 rfl rfl rfl rfl hl.1 rfl (Nat.le_of_ble_eq_true rfl) dX5_rowSize_95 ⟨Nat.le_of_ble_eq_true rfl, Nat.le_of_ble_eq_true rfl⟩) hP hD hS hA (fun u46 H locs hw45 hP hD hS => ?_)
        obtain ⟨fr45, ex45, i30645, pj45, rs45⟩ := hw45
        have i30645 : 0 ≤ (u46.1 0 306).toInt ∧ (u46.1 0 306).toInt ≤ 40 := i30645
        have pj45 : (u46.1 0 306).toInt = (u40.1 0 306).toInt - 1 := pj45
        have rs45 : RS u40 u46 := rs45
        refine W.widen (k := 0) (n := 0) (Nat.le_refl _) (Nat.le_refl _) ?_
        refine lv_iload_n hx hb dX5_rowSize_98 rfl (lv_at hl 0 rfl) ?_
        have q48 : (u46.1 0 305).toInt = (u40.1 0 305).toInt := congrArg Int32.toInt ((fr45.2.1 305 (by decide)).trans (show u40.1 0 305 = (u40.1 0 305) by rfl))
        have q49 : (u2.1 0 326).toInt = (v.1 0 326).toInt := congrArg Int32.toInt ((fr1.2.1 326 (by decide)).trans (show v.1 0 326 = (v.1 0 326) by rfl))
        have q50 : (u2.1 0 381).toInt = (v.1 0 381).toInt := congrArg Int32.toInt ((fr1.2.1 381 (by decide)).trans (show v.1 0 381 = (v.1 0 381) by rfl))
        have q51 : (u13.1 0 326).toInt = (u2.1 0 326).toInt := congrArg Int32.toInt ((fr12.2.1 326 (by decide)).trans (show u2.1 0 326 = (u2.1 0 326) by rfl))
        have q52 : (u13.1 0 381).toInt = (u2.1 0 381).toInt := congrArg Int32.toInt ((fr12.2.1 381 (by decide)).trans (show u2.1 0 381 = (u2.1 0 381) by rfl))
        have q53 : (u35.1 0 326).toInt = (u13.1 0 326).toInt := congrArg Int32.toInt ((fr34.2.1 326 (by decide)).trans (show u13.1 0 326 = (u13.1 0 326) by rfl))
        have q54 : (u35.1 0 381).toInt = (u13.1 0 381).toInt := congrArg Int32.toInt ((fr34.2.1 381 (by decide)).trans (show u13.1 0 381 = (u13.1 0 381) by rfl))
        have q55 : (u40.1 0 326).toInt = (u35.1 0 326).toInt := congrArg Int32.toInt ((fr39.2.1 326 (by decide)).trans (show u35.1 0 326 = (u35.1 0 326) by rfl))
        have q56 : (u40.1 0 381).toInt = (u35.1 0 381).toInt := congrArg Int32.toInt ((fr39.2.1 381 (by decide)).trans (show u35.1 0 381 = (u35.1 0 381) by rfl))
        have q57 : (u46.1 0 326).toInt = (u40.1 0 326).toInt := congrArg Int32.toInt ((fr45.2.1 326 (by decide)).trans (show u40.1 0 326 = (u40.1 0 326) by rfl))
        have q58 : (u46.1 0 381).toInt = (u40.1 0 381).toInt := congrArg Int32.toInt ((fr45.2.1 381 (by decide)).trans (show u40.1 0 381 = (u40.1 0 381) by rfl))
        refine W.sz (fun hz => ?_)
        refine vx_ret ?_
        refine W.widen (k := 1) (n := 6) (Nat.le_of_ble_eq_true rfl) (Nat.le_of_ble_eq_true rfl) ?_
        exact W.iret (v := r19) hx hb hr (fun t ht9 hW => ⟨⟨r19, u46, rfl, ⟨(FC.tr (FC.tr (FC.tr (FC.tr (FC.tr (FC.rf _) (FC.up fr1 (by decide) (by decide))) (FC.up fr12 (by decide) (by decide))) (FC.up fr34 (by decide) (by decide))) (FC.up fr39 (by decide) (by decide))) (FC.up fr45 (by decide) (by decide))), ⟨z304, z305, z306, z326, z373, z381, zd, (Or.inr (⟨u2, ex1, ⟨fr1, i3051, i3061, pj1, pt1, rs1⟩, r7, ex5, (Or.inl ⟨z9, (Or.inr (⟨u13, ex12, ⟨fr12, rs12⟩, r19, ex17, (Or.inr (⟨z30, (Or.inl ⟨z32, (Or.inr (⟨u35, ex34, ⟨fr34, i30534, pt34, rs34⟩, (Or.inr (⟨u40, ex39, ⟨fr39, i30539, pt39, rs39⟩, u46, ex45, ⟨fr45, i30645, pj45, rs45⟩, rfl, rfl, rfl⟩))⟩))⟩)⟩))⟩))⟩)⟩))⟩, (show 0 ≤ (u46.1 0 305).toInt ∧ (u46.1 0 305).toInt ≤ 1500 from (om_adc5322c08 z305 pt1 q16 pt34 i30539 pt39 q48)), (show 0 ≤ (u46.1 0 306).toInt ∧ (u46.1 0 306).toInt ≤ 40 from (om_7eaf33e007 i30645)), (show 1 ≤ r19.toInt ∧ r19.toInt ≤ 1000 from (om_b71634050f z30 z32)), (show (u46.1 0 381).toInt + (u46.1 0 326).toInt - 2 * (u46.1 0 305).toInt + (6) ≤ (v.1 0 381).toInt + (v.1 0 326).toInt - 2 * (v.1 0 305).toInt from (om_7515e983a8 q49 q50 pt1 q16 q51 q52 q53 q54 pt34 q55 q56 pt39 q48 q57 q58)), (show (v.1 0 305).toInt + 3 ≤ (u46.1 0 305).toInt from (om_06fe4e7d3f pt1 q16 pt34 pt39 q48)), (show (u46.1 0 306).toInt = (v.1 0 306).toInt from (om_46a3fd6db8 pj1 q42 q43 q44 pj45)), (RS.tr (RS.tr (RS.tr (RS.tr (RS.tr RS.rf rs1) rs12) rs34) rs39) rs45)⟩, ⟨by rw [ht9]; exact hP, hD⟩, by rw [ht9]; exact hz⟩, hS.F ht9⟩) hS.2.2 dX5_rowSize_99
      · have z59 : (1000 : Int) < r19.toInt := nle_z rfl (show (1000 : Int32).toInt = (1000 : Int) by decide) h31
        refine lv_aload_n hx hb dX5_rowSize_60 rfl (lv_at hl 2 rfl) ?_
        refine va_get (D := (dC, dI)) (ci := 8) (fs := oF_X5 ad pr u13) (v := .ref (ad 900)) (C := RX5) (T := TX5) (N := 7) hx hb ht itX5 hown hK hP 3 rfl rfl 1 (by decide) (ht _ tw_571) (fun _ h9 => h9) rfl dX5_rowSize_61 ?_
        refine lv_iconst (v := 5) hx hb dX5_rowSize_64 (by decide) ?_
        refine lv_aload_n hx hb dX5_rowSize_65 rfl (lv_at hl 2 rfl) ?_
        refine va_get (D := (dC, dI)) (ci := 8) (fs := oF_X5 ad pr u13) (v := .ref (ad 900)) (C := RX5) (T := TX5) (N := 7) hx hb ht itX5 hown hK hP 3 rfl rfl 1 (by decide) (ht _ tw_571) (fun _ h9 => h9) rfl dX5_rowSize_66 ?_
        have q60 : (u13.1 0 373).toInt = (u2.1 0 373).toInt := congrArg Int32.toInt ((fr12.2.1 373 (by decide)).trans (show u2.1 0 373 = (u2.1 0 373) by rfl))
        refine cu_i (rn_Vk (n := 0) (As := []) (rest := [.int 5, .ref (ad 900)]) hx hb hml hown ht hKK hFx hP hD hS hA (c_x_X9_place l dC dI cI cB cZ cJ cR tb H.size ad pr N L1 L2 u13 ps (show 0 ≤ (u13.1 0 304).toInt ∧ (u13.1 0 304).toInt ≤ 1503 from (om_dd87ee851a z304 q4 q15)) (show 0 ≤ (u13.1 0 305).toInt ∧ (u13.1 0 305).toInt ≤ 1500 from (om_570f2378f1 z305 i3051 pt1 q16)) (show 0 ≤ (u13.1 0 373).toInt ∧ (u13.1 0 373).toInt ≤ 4000 from (om_03cd8767ac z373 q11 q60)) (show pr ps = ad 908 from hps) (show (u13.1 0 300) = ps from (Eq.trans (fr12.2.1 300 (by decide)) (Eq.trans (fr1.2.1 300 (by decide)) es300)))) tw_457 tw_577 (by decide +kernel) rfl rfl ⟨Nat.le_of_ble_eq_true rfl, Nat.le_of_ble_eq_true rfl⟩ (List.range (cW ad pr N cI cR L1 L2 u13).length) (rg_map _) (nd_range _) 0 rfl rfl rfl rfl hl.1 rfl (Nat.le_of_ble_eq_true rfl) dX5_rowSize_69 ⟨Nat.le_of_ble_eq_true rfl, Nat.le_of_ble_eq_true rfl⟩) hP hD hS hA (fun r63 u62 H locs hw61 hP hD hS => ?_)
        obtain ⟨rfl, ex61⟩ := hw61
        refine W.widen (k := 0) (n := 0) (Nat.le_refl _) (Nat.le_refl _) ?_
        refine W.sz (fun hz9 => ?_)
        refine czx_v (rx_Vk (n := 2) (As := [.int 5, .int r63]) (rest := []) hx hb hml hown ht hKK hFx hP hD hS hA (c_x_X9_refuse l dC dI cI cB cZ cJ cR tb H.size ad pr N L1 L2 u13 (5 : Int32) r63 (show l.stackTraces = false from hst) (show (5 : Int) ≠ 0 from om_5e02973d50)) tw_459 tw_578 (by decide +kernel) rfl rfl ⟨Nat.le_of_ble_eq_true rfl, Nat.le_of_ble_eq_true rfl⟩ (List.range (cW ad pr N cI cR L1 L2 u13).length) (rg_map _) (nd_range _) 0 rfl rfl rfl rfl hl.1 rfl (Nat.le_of_ble_eq_true rfl) dX5_rowSize_72 ⟨Nat.le_of_ble_eq_true rfl, Nat.le_of_ble_eq_true rfl⟩) hP hD hS hA (fun u9 ce9 q9 H locs hx9 hP hD hS hc9 hv9 hf9 => ?_) (fun u65 H locs hw64 hP hD hS hz8 => ?_)
        · exact vx_out (fun x h9 => (hnt x h9).elim) hlocks hc9 hv9 hf9 (fun t9 ht9 hv8 => ⟨u9, ⟨FC.tr (FC.tr (FC.tr (FC.rf _) (FC.up fr1 (by decide) (by decide))) (FC.up fr12 (by decide) (by decide))) hx9.1, hx9.2.1, ⟨z304, z305, z306, z326, z373, z381, zd, (Or.inr (⟨u2, ex1, ⟨fr1, i3051, i3061, pj1, pt1, rs1⟩, r7, ex5, (Or.inl ⟨z9, (Or.inr (⟨u13, ex12, ⟨fr12, rs12⟩, r19, ex17, (Or.inr (⟨z30, (Or.inr (⟨z59, r63, ex61, u9, hx9.2.2, rfl, rfl, rfl⟩))⟩))⟩))⟩)⟩))⟩⟩, ⟨rfl, by rw [ht9]; exact hP, hD⟩, hS.F ht9⟩) hS.2.2 (Nat.le_refl _) (Nat.le_refl _)
        refine W.shrink (hz8.trans hz9) ?_
        obtain ⟨fr64, ex64, no64, rs64⟩ := hw64
        have no64 : False := no64
        have rs64 : RS u13 u65 := rs64
        exact no64.elim
  · have z67 : r7.toInt = (4 : Int) := eq_z rfl (show (4 : Int32).toInt = (4 : Int) by decide) h8
    refine lv_iconst (v := 1) hx hb dX5_rowSize_18 (by decide) ?_
    refine lv_goto (tgt := 23) hx hb dX5_rowSize_19 (by decide) ?_
    refine lv_istore_n (lv' := [(1, .int 1), (0, .ref (ad 903))]) hx hb dX5_rowSize_23 rfl hl (by decide) rfl (fun ls hl => ?_)
    refine lv_iload_n hx hb dX5_rowSize_24 rfl (lv_at hl 0 rfl) ?_
    refine lv_if_ne (tgt := 36) hx hb dX5_rowSize_25 (by decide) (fun _ => ?_) (fun k68 => absurd k68 (by decide))
    refine lv_aload_n hx hb dX5_rowSize_36 rfl (lv_at hl 1 rfl) ?_
    refine va_get (D := (dC, dI)) (ci := 8) (fs := oF_X5 ad pr u2) (v := .ref (ad 900)) (C := RX5) (T := TX5) (N := 7) hx hb ht itX5 hown hK hP 3 rfl rfl 1 (by decide) (ht _ tw_571) (fun _ h9 => h9) rfl dX5_rowSize_37 ?_
    refine cu_i (rn_Vk (n := 0) (As := []) (rest := []) hx hb hml hown ht hKK hFx hP hD hS hA (c_x_X9_value l dC dI cI cB cZ cJ cR tb H.size ad pr N L1 L2 u2  (show 0 ≤ (u2.1 0 304).toInt ∧ (u2.1 0 304).toInt ≤ 1503 from (om_73002589c1 z304 q4)) (show 0 ≤ (u2.1 0 305).toInt ∧ (u2.1 0 305).toInt ≤ 1500 from (om_89213937cb z305 i3051 pt1))) tw_535 tw_574 (by decide +kernel) rfl rfl ⟨Nat.le_of_ble_eq_true rfl, Nat.le_of_ble_eq_true rfl⟩ (List.range (cW ad pr N cI cR L1 L2 u2).length) (rg_map _) (nd_range _) 0 rfl rfl rfl rfl hl.1 rfl (Nat.le_of_ble_eq_true rfl) dX5_rowSize_40 ⟨Nat.le_of_ble_eq_true rfl, Nat.le_of_ble_eq_true rfl⟩) hP hD hS hA (fun r71 u70 H locs hw69 hP hD hS => ?_)
    obtain ⟨rfl, ex69⟩ := hw69
    refine W.widen (k := 0) (n := 0) (Nat.le_refl _) (Nat.le_refl _) ?_
    refine lv_istore_n (lv' := [(2, .int r71), (1, .int 1), (0, .ref (ad 903))]) hx hb dX5_rowSize_43 rfl hl (by decide) rfl (fun ls hl => ?_)
    refine lv_iload_n hx hb dX5_rowSize_44 rfl (lv_at hl 1 rfl) ?_
    refine lv_if_ne (tgt := 60) hx hb dX5_rowSize_45 (by decide) (fun _ => ?_) (fun k72 => absurd k72 (by decide))
    refine lv_aload_n hx hb dX5_rowSize_60 rfl (lv_at hl 2 rfl) ?_
    refine va_get (D := (dC, dI)) (ci := 8) (fs := oF_X5 ad pr u2) (v := .ref (ad 900)) (C := RX5) (T := TX5) (N := 7) hx hb ht itX5 hown hK hP 3 rfl rfl 1 (by decide) (ht _ tw_571) (fun _ h9 => h9) rfl dX5_rowSize_61 ?_
    refine lv_iconst (v := 5) hx hb dX5_rowSize_64 (by decide) ?_
    refine lv_aload_n hx hb dX5_rowSize_65 rfl (lv_at hl 2 rfl) ?_
    refine va_get (D := (dC, dI)) (ci := 8) (fs := oF_X5 ad pr u2) (v := .ref (ad 900)) (C := RX5) (T := TX5) (N := 7) hx hb ht itX5 hown hK hP 3 rfl rfl 1 (by decide) (ht _ tw_571) (fun _ h9 => h9) rfl dX5_rowSize_66 ?_
    have q73 : (u2.1 0 373).toInt = (v.1 0 373).toInt := congrArg Int32.toInt ((fr1.2.1 373 (by decide)).trans (show v.1 0 373 = (v.1 0 373) by rfl))
    refine cu_i (rn_Vk (n := 0) (As := []) (rest := [.int 5, .ref (ad 900)]) hx hb hml hown ht hKK hFx hP hD hS hA (c_x_X9_place l dC dI cI cB cZ cJ cR tb H.size ad pr N L1 L2 u2 ps (show 0 ≤ (u2.1 0 304).toInt ∧ (u2.1 0 304).toInt ≤ 1503 from (om_73002589c1 z304 q4)) (show 0 ≤ (u2.1 0 305).toInt ∧ (u2.1 0 305).toInt ≤ 1500 from (om_89213937cb z305 i3051 pt1)) (show 0 ≤ (u2.1 0 373).toInt ∧ (u2.1 0 373).toInt ≤ 4000 from (om_9084c127ed z373 q73)) (show pr ps = ad 908 from hps) (show (u2.1 0 300) = ps from (Eq.trans (fr1.2.1 300 (by decide)) es300))) tw_457 tw_577 (by decide +kernel) rfl rfl ⟨Nat.le_of_ble_eq_true rfl, Nat.le_of_ble_eq_true rfl⟩ (List.range (cW ad pr N cI cR L1 L2 u2).length) (rg_map _) (nd_range _) 0 rfl rfl rfl rfl hl.1 rfl (Nat.le_of_ble_eq_true rfl) dX5_rowSize_69 ⟨Nat.le_of_ble_eq_true rfl, Nat.le_of_ble_eq_true rfl⟩) hP hD hS hA (fun r76 u75 H locs hw74 hP hD hS => ?_)
    obtain ⟨rfl, ex74⟩ := hw74
    refine W.widen (k := 0) (n := 0) (Nat.le_refl _) (Nat.le_refl _) ?_
    refine W.sz (fun hz9 => ?_)
    refine czx_v (rx_Vk (n := 2) (As := [.int 5, .int r76]) (rest := []) hx hb hml hown ht hKK hFx hP hD hS hA (c_x_X9_refuse l dC dI cI cB cZ cJ cR tb H.size ad pr N L1 L2 u2 (5 : Int32) r76 (show l.stackTraces = false from hst) (show (5 : Int) ≠ 0 from om_5e02973d50)) tw_459 tw_578 (by decide +kernel) rfl rfl ⟨Nat.le_of_ble_eq_true rfl, Nat.le_of_ble_eq_true rfl⟩ (List.range (cW ad pr N cI cR L1 L2 u2).length) (rg_map _) (nd_range _) 0 rfl rfl rfl rfl hl.1 rfl (Nat.le_of_ble_eq_true rfl) dX5_rowSize_72 ⟨Nat.le_of_ble_eq_true rfl, Nat.le_of_ble_eq_true rfl⟩) hP hD hS hA (fun u9 ce9 q9 H locs hx9 hP hD hS hc9 hv9 hf9 => ?_) (fun u78 H locs hw77 hP hD hS hz8 => ?_)
    · exact vx_out (fun x h9 => (hnt x h9).elim) hlocks hc9 hv9 hf9 (fun t9 ht9 hv8 => ⟨u9, ⟨FC.tr (FC.tr (FC.rf _) (FC.up fr1 (by decide) (by decide))) hx9.1, hx9.2.1, ⟨z304, z305, z306, z326, z373, z381, zd, (Or.inr (⟨u2, ex1, ⟨fr1, i3051, i3061, pj1, pt1, rs1⟩, r7, ex5, (Or.inr (⟨z67, r71, ex69, r76, ex74, u9, hx9.2.2, rfl, rfl, rfl⟩))⟩))⟩⟩, ⟨rfl, by rw [ht9]; exact hP, hD⟩, hS.F ht9⟩) hS.2.2 (Nat.le_refl _) (Nat.le_refl _)
    refine W.shrink (hz8.trans hz9) ?_
    obtain ⟨fr77, ex77, no77, rs77⟩ := hw77
    have no77 : False := no77
    have rs77 : RS u2 u78 := rs77
    exact no77.elim
theorem om_24e1f2eced {x0 : Int} : (4 : Int) ≠ 0 ∨ x0 ≤ 1000 := by omega
theorem om_4550d86e9b {x0 : Int} : (3 : Int) ≠ 0 ∨ x0 ≤ 1000 := by omega
theorem om_52043010a0 : (2 : Int) ≠ 0 ∨ (0 : Int) ≤ 1000 := by omega
theorem om_5a4c72df4e : (0 : Int) ≠ 0 ∨ (1 : Int) ≤ 1000 := by omega
theorem om_bd68b03a15 {x0 x1 x2 x3 x4 x5 : Int} (h0 : 0 ≤ x0 ∧ x0 ≤ 1500) (h1 : x1 = x0) (h2 : x2 = x1) (h3 : 0 ≤ x3 ∧ x3 ≤ 1500) (h4 : x3 = x2 + 1) (h5 : x4 = x3) (h6 : x5 = x4) : 0 ≤ x5 ∧ x5 ≤ 1500 := by omega
theorem om_a4a88028d4 {x0 x1 x2 x3 x4 x5 x6 : Int} (h0 : 0 ≤ x0 ∧ x0 ≤ 40) (h1 : x1 = x0) (h2 : x2 = x1) (h3 : x3 = x2) (h4 : x4 = x3) (h5 : x5 = x4) (h6 : x6 = x5) : 0 ≤ x6 ∧ x6 ≤ 40 := by omega
theorem om_a1f9aa06b6 {x0 x1 x2 x3 x4 x5 x6 x7 x8 x9 x10 x11 x12 x13 x14 x15 x16 x17 x18 x19 x20 : Int} (h0 : x0 = x1) (h1 : x2 = x3) (h2 : x4 = x5) (h3 : x6 = x0) (h4 : x7 = x2) (h5 : x8 = x4) (h6 : x9 = x7) (h7 : x10 = x8) (h8 : x11 = x6 + 1) (h9 : x12 = x11) (h10 : x13 = x9) (h11 : x14 = x10) (h12 : x15 = x12) (h13 : x16 = x13) (h14 : x17 = x14) (h15 : x18 = x16) (h16 : x19 = x17) (h17 : x20 = x15 + 1) : x19 + x18 - 2 * x20 + (4) ≤ x5 + x3 - 2 * x1 := by omega
theorem om_4964cd314e {x0 x1 x2 x3 x4 x5 x6 : Int} (h0 : x0 = x1) (h1 : x2 = x0) (h2 : x3 = x2 + 1) (h3 : x4 = x3) (h4 : x5 = x4) (h5 : x6 = x5 + 1) : x1 + 2 ≤ x6 := by omega
theorem om_df9b2185da : (2 : Int) ≠ 0 ∨ (1 : Int) ≤ 1000 := by omega
theorem om_ca678151ea {x0 x1 x2 x3 x4 : Int} (h0 : 0 ≤ x0 ∧ x0 ≤ 40) (h1 : x1 = x0) (h2 : x2 = x1) (h3 : x3 = x2) (h4 : x4 = x3) : 0 ≤ x4 ∧ x4 ≤ 40 := by omega
theorem om_28255ebb1a {x0 x1 x2 x3 x4 x5 x6 : Int} (h0 : 0 ≤ x0 ∧ x0 ≤ 1500) (h1 : 0 ≤ x1 ∧ x1 ≤ 420) (h2 : 0 ≤ x2 ∧ x2 ≤ 3008) (h3 : x2 + x1 - 2 * x0 ≤ 0) (h4 : x3 = x2) (h5 : x4 = x3) (h6 : x5 = x4) (h7 : x6 = x5) : 0 ≤ x6 ∧ x6 ≤ 3008 := by omega
theorem om_d3b245f864 {x0 x1 x2 x3 x4 x5 x6 x7 x8 x9 x10 x11 x12 x13 x14 : Int} (h0 : x0 + x1 - 2 * x2 ≤ 0) (h1 : x3 = x2) (h2 : x4 = x1) (h3 : x5 = x0) (h4 : x6 = x3) (h5 : x7 = x4) (h6 : x8 = x5) (h7 : x9 = x7) (h8 : x10 = x8) (h9 : x11 = x6 + 1) (h10 : x12 = x11) (h11 : x13 = x9) (h12 : x14 = x10) : x14 + x13 - 2 * x12 ≤ 0 := by omega
theorem om_ffc4732c03 {x0 : Int} (h0 : 1 ≤ x0 ∧ x0 ≤ 1000) : (0 : Int) ≠ 0 ∨ x0 ≤ 1000 := by omega
theorem om_1a945f4049 {x0 x1 x2 x3 x4 x5 x6 : Int} (h0 : 0 ≤ x0 ∧ x0 ≤ 1503) (h1 : x1 = x0) (h2 : x2 = x1) (h3 : x3 = x2) (h4 : x4 = x3) (h5 : x5 = x4) (h6 : x6 = x5) : 0 ≤ x6 ∧ x6 ≤ 1503 := by omega
theorem om_c64f374c9c {x0 x1 x2 x3 : Int} (h0 : 0 ≤ x0 ∧ x0 ≤ 1500) (h1 : x1 = x0) (h2 : 0 ≤ x2 ∧ x2 ≤ 1500) (h3 : x1 + 3 ≤ x2) (h4 : x3 = x2) : 0 ≤ x3 ∧ x3 ≤ 1500 := by omega
theorem om_1de556205c {x0 x1 x2 x3 x4 x5 x6 : Int} (h0 : 0 ≤ x0 ∧ x0 ≤ 4000) (h1 : x1 = x0) (h2 : x2 = x1) (h3 : x3 = x2) (h4 : x4 = x3) (h5 : x5 = x4) (h6 : x6 = x5) : 0 ≤ x6 ∧ x6 ≤ 4000 := by omega
theorem om_e3ebb2953f {x0 x1 x2 x3 x4 : Int} (h0 : 0 ≤ x0 ∧ x0 ≤ 1500) (h1 : x1 = x0) (h2 : x1 + 3 ≤ x2) (h3 : x3 = x2) (h4 : 0 ≤ x4 ∧ x4 ≤ 1500) (h5 : x4 = x3 + 1) : 0 ≤ x4 ∧ x4 ≤ 1500 := by omega
theorem om_ad75ee460c {x0 x1 x2 x3 x4 x5 x6 x7 x8 x9 x10 x11 x12 x13 x14 x15 x16 x17 x18 x19 x20 x21 x22 x23 : Int} (h0 : x0 = x1) (h1 : x2 = x3) (h2 : x4 = x5) (h3 : x6 = x0) (h4 : x7 = x2) (h5 : x8 = x4) (h6 : x9 = x7) (h7 : x10 = x8) (h8 : x11 = x6 + 1) (h9 : x12 = x11) (h10 : x13 = x9) (h11 : x14 = x10) (h12 : x15 + x16 - 2 * x17 + (6) ≤ x14 + x13 - 2 * x12) (h13 : x18 = x17) (h14 : x19 = x16) (h15 : x20 = x15) (h16 : x21 = x19) (h17 : x22 = x20) (h18 : x23 = x18 + 1) : x22 + x21 - 2 * x23 + (4) ≤ x5 + x3 - 2 * x1 := by omega
theorem om_077c03820e {x0 x1 x2 x3 x4 x5 x6 x7 : Int} (h0 : x0 = x1) (h1 : x2 = x0) (h2 : x3 = x2 + 1) (h3 : x4 = x3) (h4 : x4 + 3 ≤ x5) (h5 : x6 = x5) (h6 : x7 = x6 + 1) : x1 + 2 ≤ x7 := by omega
set_option maxHeartbeats 4000000 in
set_option maxRecDepth 100000 in
theorem c_x_X5_globalItem (l : Launch) (dC : Nat → ClassId) (dI : Nat → Nat → Nat) (cI cB cZ cJ cR : ClassId) (tb : Nat → Nat) (sz : Nat) (ad : Nat → Nat) (pr : Int32 → Nat) (N : Nat) (L1 L2 : List Nat) (v : MS) (pa : Int32) (ps : Int32) (z304 : 0 ≤ (v.1 0 304).toInt ∧ (v.1 0 304).toInt ≤ 1503) (z305 : 0 ≤ (v.1 0 305).toInt ∧ (v.1 0 305).toInt ≤ 1500) (z306 : 0 ≤ (v.1 0 306).toInt ∧ (v.1 0 306).toInt ≤ 40) (z326 : 0 ≤ (v.1 0 326).toInt ∧ (v.1 0 326).toInt ≤ 420) (z373 : 0 ≤ (v.1 0 373).toInt ∧ (v.1 0 373).toInt ≤ 4000) (z381 : 0 ≤ (v.1 0 381).toInt ∧ (v.1 0 381).toInt ≤ 3008) (hL1 : L1.length = 40) (hL2 : L2.length = 60) (rp : RP v) (hps : pr ps = ad 908) (es300 : (v.1 0 300) = ps) (es327 : (v.1 0 327) = ps) (hst : l.stackTraces = false) (zd : (v.1 0 381).toInt + (v.1 0 326).toInt - 2 * (v.1 0 305).toInt ≤ 0) : vx_Met l yX5_globalItem (Cond.code yX5_globalItem cX5_globalItem 5 none :: tw_W) ({ frames := 9, cells := 1, slots := 6, locals := 147 }) (pc_ (dC, dI) (tyS cI cB cZ cJ cR) tb (cW ad pr N cI cR L1 L2 v) sz [.ref (ad 903), .int pa]) (qvz_ (dC, dI) (cW ad pr N cI cR L1 L2 v) sz (fun (u : MS) => FC [305, 306, 377] [0] v u ∧ (Q_x_X5_globalItem L1 L2 v pa false u) ∧ (0 ≤ (u.1 0 305).toInt ∧ (u.1 0 305).toInt ≤ 1500) ∧ (0 ≤ (u.1 0 306).toInt ∧ (u.1 0 306).toInt ≤ 40) ∧ ((u.1 0 381).toInt + (u.1 0 326).toInt - 2 * (u.1 0 305).toInt + (4) ≤ (v.1 0 381).toInt + (v.1 0 326).toInt - 2 * (v.1 0 305).toInt) ∧ ((v.1 0 305).toInt + 2 ≤ (u.1 0 305).toInt)) (fun (u : MS) => (cW ad pr N cI cR L1 L2 u))) (qxc (dC, dI) (cW ad pr N cI cR L1 L2 v) sz (fun (u : MS) => (cW ad pr N cI cR L1 L2 u)) (fun (u : MS) => FC xfl xal v u ∧ (u.1 0 308).toInt ≠ 0 ∧ (Q_x_X5_globalItem L1 L2 v pa true u))) 1 6 (va_A (cW ad pr N cI cR L1 L2 v) sz) := by
  refine vx_ofW (cc := cX5_globalItem) (maxL := 5) (ret := none) (by decide) rfl ?_
  intro p e s m args below meth c s₁ B hml hnt hv
  obtain ⟨rfl, hsz, hP, hKK, hD0, hFx⟩ := hv
  have hK := hKK.1
  have hx := B.exec
  have hb := B.bytes
  have hr := B.returns
  have ht : ∀ w ∈ tw_W, w.before _ s = true := fun w h => atoms_spec (ws := Cond.code yX5_globalItem cX5_globalItem 5 none :: tw_W) B.pre w (List.mem_cons_of_mem _ h)
  have hown : s.vm.findClass RX5 = some m.cls := findClass_of_methodNamed B.named
  have hlocks := B.notSynchronized
  subst hsz
  unfold qvz_ qxc
  have hD := hD0.self (sz := s.heap.size)
  generalize hAe : va_A (cW ad pr N cI cR L1 L2 v) s.heap.size = A at hD hFx ⊢
  have hA : ∀ q : Nat, s.heap.size ≤ q → A q := fun q h => by rw [← hAe]; exact Or.inr h
  have hS : va_S A s.heap s.heap [] := va_S.rf
  have hl := lv_entry ([.ref (ad 903), .int pa]) (n := 5) (Nat.le_of_ble_eq_true rfl)
  rw [lg_entry_eq]
  generalize (lg_sl ([.ref (ad 903), .int pa]) ++ List.replicate (5 - (lg_sl ([.ref (ad 903), .int pa])).length) Slot.unset).toArray = ls at hl ⊢
  have hl : lv_has ls 5 [(0, .ref (ad 903)), (1, .int pa)] := hl
  refine lv_aload_n hx hb dX5_globalItem_0 rfl (lv_at hl 0 rfl) ?_
  refine va_get (D := (dC, dI)) (ci := 8) (fs := oF_X5 ad pr v) (v := .ref (pr (v.1 0 327))) (C := RX5) (T := TX5) (N := 7) hx hb ht itX5 hown hK hP 3 rfl rfl 0 (by decide) (ht _ tw_588) (fun _ h9 => h9) rfl dX5_globalItem_1 ?_
  refine W.eq (g2 := F0 m 4 ls [.ref (ad 908)]) (by rw [show pr (v.1 0 327) = (ad 908) from (by rw [show (v.1 0 327) = ps from es327]; exact hps)]) ?_
  refine va_get (D := (dC, dI)) (ci := 10) (fs := oF_X7 ad pr v) (v := .int (v.1 0 377)) (C := RX7) (T := TX7) (N := 13) hx hb ht itX7 hown hK hP 8 rfl rfl 5 (by decide) (ht _ tw_598) (fun _ h9 => h9) rfl dX5_globalItem_4 ?_
  refine lv_istore_n (lv' := [(2, .int (v.1 0 377)), (0, .ref (ad 903)), (1, .int pa)]) hx hb dX5_globalItem_7 rfl hl (by decide) rfl (fun ls hl => ?_)
  refine lv_iload_n hx hb dX5_globalItem_8 rfl (lv_at hl 2 rfl) ?_
  refine lv_bipush (v := 34) hx hb dX5_globalItem_9 (by decide) ?_
  refine lv_icmp_ne (tgt := 18) hx hb dX5_globalItem_11 (by decide) (fun h1 => ?_) (fun h1 => ?_)
  · have z2 : pa.toInt ≠ (34 : Int) := ne_z rfl (show (34 : Int32).toInt = (34 : Int) by decide) h1
    refine lv_iconst (v := 0) hx hb dX5_globalItem_18 (by decide) ?_
    refine lv_istore_n (lv' := [(3, .int 0), (2, .int (v.1 0 377)), (0, .ref (ad 903)), (1, .int pa)]) hx hb dX5_globalItem_19 rfl hl (by decide) rfl (fun ls hl => ?_)
    refine lv_iload_n hx hb dX5_globalItem_20 rfl (lv_at hl 0 rfl) ?_
    refine lv_if_ne (tgt := 30) hx hb dX5_globalItem_21 (by decide) (fun k3 => absurd k3 (by decide)) (fun _ => ?_)
    refine lv_iload_n hx hb dX5_globalItem_24 rfl (lv_at hl 3 rfl) ?_
    refine lv_bipush (v := 36) hx hb dX5_globalItem_25 (by decide) ?_
    refine lv_icmp_ne (tgt := 34) hx hb dX5_globalItem_27 (by decide) (fun h4 => ?_) (fun h4 => ?_)
    · have z5 : pa.toInt ≠ (36 : Int) := ne_z rfl (show (36 : Int32).toInt = (36 : Int) by decide) h4
      refine lv_iconst (v := 0) hx hb dX5_globalItem_34 (by decide) ?_
      refine lv_istore (lv' := [(4, .int 0), (3, .int 0), (2, .int (v.1 0 377)), (0, .ref (ad 903)), (1, .int pa)]) hx hb dX5_globalItem_35 hl (by decide) rfl (fun ls hl => ?_)
      refine lv_iload hx hb dX5_globalItem_37 (lv_at hl 0 rfl) ?_
      refine lv_if_eq (tgt := 63) hx hb dX5_globalItem_39 (by decide) (fun _ => ?_) (fun k6 => absurd k6 (by decide))
      refine lv_aload_n hx hb dX5_globalItem_63 rfl (lv_at hl 3 rfl) ?_
      refine va_get (D := (dC, dI)) (ci := 8) (fs := oF_X5 ad pr v) (v := .ref (pr (v.1 0 327))) (C := RX5) (T := TX5) (N := 7) hx hb ht itX5 hown hK hP 3 rfl rfl 0 (by decide) (ht _ tw_588) (fun _ h9 => h9) rfl dX5_globalItem_64 ?_
      refine lv_iload_n hx hb dX5_globalItem_67 rfl (lv_at hl 2 rfl) ?_
      refine lv_iconst (v := 4) hx hb dX5_globalItem_68 (by decide) ?_
      refine lv_aload_n hx hb dX5_globalItem_69 rfl (lv_at hl 3 rfl) ?_
      refine va_get (D := (dC, dI)) (ci := 8) (fs := oF_X5 ad pr v) (v := .ref (ad 900)) (C := RX5) (T := TX5) (N := 7) hx hb ht itX5 hown hK hP 3 rfl rfl 1 (by decide) (ht _ tw_571) (fun _ h9 => h9) rfl dX5_globalItem_70 ?_
      refine cu_i (rn_Vk (n := 0) (As := []) (rest := [.int 4, .int (v.1 0 377), .ref (pr (v.1 0 327))]) hx hb hml hown ht hKK hFx hP hD hS hA (c_x_X9_value l dC dI cI cB cZ cJ cR tb s.heap.size ad pr N L1 L2 v  (show 0 ≤ (v.1 0 304).toInt ∧ (v.1 0 304).toInt ≤ 1503 from (om_c99648273b z304)) (show 0 ≤ (v.1 0 305).toInt ∧ (v.1 0 305).toInt ≤ 1500 from (om_7897b4ccef z305))) tw_535 tw_574 (by decide +kernel) rfl rfl ⟨Nat.le_of_ble_eq_true rfl, Nat.le_of_ble_eq_true rfl⟩ (List.range (cW ad pr N cI cR L1 L2 v).length) (rg_map _) (nd_range _) 0 rfl rfl rfl rfl hl.1 rfl (Nat.le_of_ble_eq_true rfl) dX5_globalItem_73 ⟨Nat.le_of_ble_eq_true rfl, Nat.le_of_ble_eq_true rfl⟩) hP hD hS hA (fun r9 u8 H locs hw7 hP hD hS => ?_)
      obtain ⟨rfl, ex7⟩ := hw7
      refine W.widen (k := 0) (n := 0) (Nat.le_refl _) (Nat.le_refl _) ?_
      refine W.eq (g2 := F0 m 76 ls [.int r9, .int 4, .int (v.1 0 377), .ref (ad 908)]) (by rw [show pr (v.1 0 327) = (ad 908) from (by rw [show (v.1 0 327) = ps from es327]; exact hps)]) ?_
      refine cu_v (rn_Vk (n := 3) (As := [.int (v.1 0 377), .int 4, .int r9]) (rest := []) hx hb hml hown ht hKK hFx hP hD hS hA (c_x_X7_changeGlobal l dC dI cI cB cZ cJ cR tb H.size ad pr N L1 L2 v (v.1 0 377) (4 : Int32) r9 (show L1.length = 40 from hL1) (show L2.length = 60 from hL2) (show RP v from rp) (show (4 : Int) ≠ 0 ∨ r9.toInt ≤ 1000 from om_24e1f2eced)) tw_599 tw_600 (by decide +kernel) rfl rfl ⟨Nat.le_of_ble_eq_true rfl, Nat.le_of_ble_eq_true rfl⟩ (List.range (cW ad pr N cI cR L1 L2 v).length) (rg_map _) (nd_range _) 8 rfl rfl rfl rfl hl.1 rfl (Nat.le_of_ble_eq_true rfl) dX5_globalItem_76 ⟨Nat.le_of_ble_eq_true rfl, Nat.le_of_ble_eq_true rfl⟩) hP hD hS hA (fun u11 H locs hw10 hP hD hS => ?_)
      obtain ⟨fr10, ex10⟩ := hw10
      refine W.widen (k := 0) (n := 0) (Nat.le_refl _) (Nat.le_refl _) ?_
      refine lv_aload_n hx hb dX5_globalItem_79 rfl (lv_at hl 3 rfl) ?_
      refine va_get (D := (dC, dI)) (ci := 8) (fs := oF_X5 ad pr u11) (v := .ref (pr (u11.1 0 327))) (C := RX5) (T := TX5) (N := 7) hx hb ht itX5 hown hK hP 3 rfl rfl 0 (by decide) (ht _ tw_588) (fun _ h9 => h9) rfl dX5_globalItem_80 ?_
      refine lv_iload_n hx hb dX5_globalItem_83 rfl (lv_at hl 2 rfl) ?_
      refine lv_iconst (v := 3) hx hb dX5_globalItem_84 (by decide) ?_
      refine lv_aload_n hx hb dX5_globalItem_85 rfl (lv_at hl 3 rfl) ?_
      refine va_get (D := (dC, dI)) (ci := 8) (fs := oF_X5 ad pr u11) (v := .ref (ad 900)) (C := RX5) (T := TX5) (N := 7) hx hb ht itX5 hown hK hP 3 rfl rfl 1 (by decide) (ht _ tw_571) (fun _ h9 => h9) rfl dX5_globalItem_86 ?_
      have q13 : (u11.1 0 304).toInt = (v.1 0 304).toInt := congrArg Int32.toInt ((fr10.2.1 304 (by decide)).trans (show v.1 0 304 = (v.1 0 304) by rfl))
      have q14 : (u11.1 0 305).toInt = (v.1 0 305).toInt := congrArg Int32.toInt ((fr10.2.1 305 (by decide)).trans (show v.1 0 305 = (v.1 0 305) by rfl))
      have q15 : (u11.1 0 373).toInt = (v.1 0 373).toInt := congrArg Int32.toInt ((fr10.2.1 373 (by decide)).trans (show v.1 0 373 = (v.1 0 373) by rfl))
      refine cu_i (rn_Vk (n := 0) (As := []) (rest := [.int 3, .int (v.1 0 377), .ref (pr (u11.1 0 327))]) hx hb hml hown ht hKK hFx hP hD hS hA (c_x_X9_place l dC dI cI cB cZ cJ cR tb H.size ad pr N L1 L2 u11 ps (show 0 ≤ (u11.1 0 304).toInt ∧ (u11.1 0 304).toInt ≤ 1503 from (om_73002589c1 z304 q13)) (show 0 ≤ (u11.1 0 305).toInt ∧ (u11.1 0 305).toInt ≤ 1500 from (om_c93ca3468d z305 q14)) (show 0 ≤ (u11.1 0 373).toInt ∧ (u11.1 0 373).toInt ≤ 4000 from (om_9084c127ed z373 q15)) (show pr ps = ad 908 from hps) (show (u11.1 0 300) = ps from (Eq.trans (fr10.2.1 300 (by decide)) es300))) tw_457 tw_577 (by decide +kernel) rfl rfl ⟨Nat.le_of_ble_eq_true rfl, Nat.le_of_ble_eq_true rfl⟩ (List.range (cW ad pr N cI cR L1 L2 u11).length) (rg_map _) (nd_range _) 0 rfl rfl rfl rfl hl.1 rfl (Nat.le_of_ble_eq_true rfl) dX5_globalItem_89 ⟨Nat.le_of_ble_eq_true rfl, Nat.le_of_ble_eq_true rfl⟩) hP hD hS hA (fun r18 u17 H locs hw16 hP hD hS => ?_)
      obtain ⟨rfl, ex16⟩ := hw16
      refine W.widen (k := 0) (n := 0) (Nat.le_refl _) (Nat.le_refl _) ?_
      refine W.eq (g2 := F0 m 92 ls [.int r18, .int 3, .int (v.1 0 377), .ref (ad 908)]) (by rw [show pr (u11.1 0 327) = (ad 908) from (by rw [show (u11.1 0 327) = ps from (Eq.trans (fr10.2.1 327 (by decide)) es327)]; exact hps)]) ?_
      refine cu_v (rn_Vk (n := 3) (As := [.int (v.1 0 377), .int 3, .int r18]) (rest := []) hx hb hml hown ht hKK hFx hP hD hS hA (c_x_X7_changeGlobal l dC dI cI cB cZ cJ cR tb H.size ad pr N L1 L2 u11 (v.1 0 377) (3 : Int32) r18 (show L1.length = 40 from hL1) (show L2.length = 60 from hL2) (show RP u11 from ((show FC [305, 306, 377] [0] v u11 from (FC.tr (FC.rf _) (FC.up fr10 (by decide) (by decide)))).1 rp)) (show (3 : Int) ≠ 0 ∨ r18.toInt ≤ 1000 from om_4550d86e9b)) tw_599 tw_600 (by decide +kernel) rfl rfl ⟨Nat.le_of_ble_eq_true rfl, Nat.le_of_ble_eq_true rfl⟩ (List.range (cW ad pr N cI cR L1 L2 u11).length) (rg_map _) (nd_range _) 8 rfl rfl rfl rfl hl.1 rfl (Nat.le_of_ble_eq_true rfl) dX5_globalItem_92 ⟨Nat.le_of_ble_eq_true rfl, Nat.le_of_ble_eq_true rfl⟩) hP hD hS hA (fun u20 H locs hw19 hP hD hS => ?_)
      obtain ⟨fr19, ex19⟩ := hw19
      refine W.widen (k := 0) (n := 0) (Nat.le_refl _) (Nat.le_refl _) ?_
      refine lv_aload_n hx hb dX5_globalItem_95 rfl (lv_at hl 3 rfl) ?_
      refine va_get (D := (dC, dI)) (ci := 8) (fs := oF_X5 ad pr u20) (v := .ref (ad 900)) (C := RX5) (T := TX5) (N := 7) hx hb ht itX5 hown hK hP 3 rfl rfl 1 (by decide) (ht _ tw_571) (fun _ h9 => h9) rfl dX5_globalItem_96 ?_
      have q22 : (u20.1 0 304).toInt = (u11.1 0 304).toInt := congrArg Int32.toInt ((fr19.2.1 304 (by decide)).trans (show u11.1 0 304 = (u11.1 0 304) by rfl))
      have q23 : (u20.1 0 305).toInt = (u11.1 0 305).toInt := congrArg Int32.toInt ((fr19.2.1 305 (by decide)).trans (show u11.1 0 305 = (u11.1 0 305) by rfl))
      have q24 : (u20.1 0 373).toInt = (u11.1 0 373).toInt := congrArg Int32.toInt ((fr19.2.1 373 (by decide)).trans (show u11.1 0 373 = (u11.1 0 373) by rfl))
      refine W.sz (fun hz9 => ?_)
      refine czx_v (rx_Vk (n := 0) (As := []) (rest := []) hx hb hml hown ht hKK hFx hP hD hS hA (c_x_X9_take l dC dI cI cB cZ cJ cR tb H.size ad pr N L1 L2 u20 ps (show 0 ≤ (u20.1 0 304).toInt ∧ (u20.1 0 304).toInt ≤ 1503 from (om_dd87ee851a z304 q13 q22)) (show 0 ≤ (u20.1 0 305).toInt ∧ (u20.1 0 305).toInt ≤ 1500 from (om_15548f2e10 z305 q14 q23)) (show 0 ≤ (u20.1 0 373).toInt ∧ (u20.1 0 373).toInt ≤ 4000 from (om_03cd8767ac z373 q15 q24)) (show pr ps = ad 908 from hps) (show (u20.1 0 300) = ps from (Eq.trans (fr19.2.1 300 (by decide)) (Eq.trans (fr10.2.1 300 (by decide)) es300))) (show l.stackTraces = false from hst)) tw_539 tw_585 (by decide +kernel) rfl rfl ⟨Nat.le_of_ble_eq_true rfl, Nat.le_of_ble_eq_true rfl⟩ (List.range (cW ad pr N cI cR L1 L2 u20).length) (rg_map _) (nd_range _) 0 rfl rfl rfl rfl hl.1 rfl (Nat.le_of_ble_eq_true rfl) dX5_globalItem_99 ⟨Nat.le_of_ble_eq_true rfl, Nat.le_of_ble_eq_true rfl⟩) hP hD hS hA (fun u9 ce9 q9 H locs hx9 hP hD hS hc9 hv9 hf9 => ?_) (fun u26 H locs hw25 hP hD hS hz8 => ?_)
      · exact vx_out (fun x h9 => (hnt x h9).elim) hlocks hc9 hv9 hf9 (fun t9 ht9 hv8 => ⟨u9, ⟨FC.tr (FC.tr (FC.tr (FC.rf _) (FC.up fr10 (by decide) (by decide))) (FC.up fr19 (by decide) (by decide))) hx9.1, hx9.2.1, ⟨z304, z305, z306, z326, z373, z381, zd, (Or.inl ⟨z2, (Or.inl ⟨z5, r9, ex7, u11, ex10, fr10, r18, ex16, u20, ex19, fr19, (Or.inl ⟨u9, hx9.2.2, rfl, rfl⟩)⟩)⟩)⟩⟩, ⟨rfl, by rw [ht9]; exact hP, hD⟩, hS.F ht9⟩) hS.2.2 (Nat.le_refl _) (Nat.le_refl _)
      refine W.shrink (hz8.trans hz9) ?_
      obtain ⟨fr25, ex25, i30525, pt25, rs25⟩ := hw25
      have i30525 : 0 ≤ (u26.1 0 305).toInt ∧ (u26.1 0 305).toInt ≤ 1500 := i30525
      have pt25 : (u26.1 0 305).toInt = (u20.1 0 305).toInt + 1 := pt25
      have rs25 : RS u20 u26 := rs25
      refine lv_aload_n hx hb dX5_globalItem_102 rfl (lv_at hl 3 rfl) ?_
      refine va_get (D := (dC, dI)) (ci := 8) (fs := oF_X5 ad pr u26) (v := .ref (pr (u26.1 0 327))) (C := RX5) (T := TX5) (N := 7) hx hb ht itX5 hown hK hP 3 rfl rfl 0 (by decide) (ht _ tw_588) (fun _ h9 => h9) rfl dX5_globalItem_103 ?_
      refine lv_iload_n hx hb dX5_globalItem_106 rfl (lv_at hl 2 rfl) ?_
      refine lv_iconst (v := 2) hx hb dX5_globalItem_107 (by decide) ?_
      refine lv_iload_n hx hb dX5_globalItem_108 rfl (lv_at hl 1 rfl) ?_
      refine lv_if_eq (tgt := 116) hx hb dX5_globalItem_109 (by decide) (fun _ => ?_) (fun k28 => absurd k28 (by decide))
      refine lv_iconst (v := 0) hx hb dX5_globalItem_116 (by decide) ?_
      refine W.eq (g2 := F0 m 117 ls [.int 0, .int 2, .int (v.1 0 377), .ref (ad 908)]) (by rw [show pr (u26.1 0 327) = (ad 908) from (by rw [show (u26.1 0 327) = ps from (Eq.trans (fr25.2.1 327 (by decide)) (Eq.trans (fr19.2.1 327 (by decide)) (Eq.trans (fr10.2.1 327 (by decide)) es327)))]; exact hps)]) ?_
      refine cu_v (rn_Vk (n := 3) (As := [.int (v.1 0 377), .int 2, .int 0]) (rest := []) hx hb hml hown ht hKK hFx hP hD hS hA (c_x_X7_changeGlobal l dC dI cI cB cZ cJ cR tb H.size ad pr N L1 L2 u26 (v.1 0 377) (2 : Int32) (0 : Int32) (show L1.length = 40 from hL1) (show L2.length = 60 from hL2) (show RP u26 from ((show FC [305, 306, 377] [0] v u26 from (FC.tr (FC.tr (FC.tr (FC.rf _) (FC.up fr10 (by decide) (by decide))) (FC.up fr19 (by decide) (by decide))) (FC.up fr25 (by decide) (by decide)))).1 rp)) (show (2 : Int) ≠ 0 ∨ (0 : Int) ≤ 1000 from om_52043010a0)) tw_599 tw_600 (by decide +kernel) rfl rfl ⟨Nat.le_of_ble_eq_true rfl, Nat.le_of_ble_eq_true rfl⟩ (List.range (cW ad pr N cI cR L1 L2 u26).length) (rg_map _) (nd_range _) 8 rfl rfl rfl rfl hl.1 rfl (Nat.le_of_ble_eq_true rfl) dX5_globalItem_117 ⟨Nat.le_of_ble_eq_true rfl, Nat.le_of_ble_eq_true rfl⟩) hP hD hS hA (fun u30 H locs hw29 hP hD hS => ?_)
      obtain ⟨fr29, ex29⟩ := hw29
      refine W.widen (k := 0) (n := 0) (Nat.le_refl _) (Nat.le_refl _) ?_
      refine lv_aload_n hx hb dX5_globalItem_120 rfl (lv_at hl 3 rfl) ?_
      refine va_get (D := (dC, dI)) (ci := 8) (fs := oF_X5 ad pr u30) (v := .ref (pr (u30.1 0 327))) (C := RX5) (T := TX5) (N := 7) hx hb ht itX5 hown hK hP 3 rfl rfl 0 (by decide) (ht _ tw_588) (fun _ h9 => h9) rfl dX5_globalItem_121 ?_
      refine lv_iload_n hx hb dX5_globalItem_124 rfl (lv_at hl 2 rfl) ?_
      refine lv_iconst (v := 0) hx hb dX5_globalItem_125 (by decide) ?_
      refine lv_iload_n hx hb dX5_globalItem_126 rfl (lv_at hl 1 rfl) ?_
      refine lv_if_eq (tgt := 137) hx hb dX5_globalItem_127 (by decide) (fun _ => ?_) (fun k32 => absurd k32 (by decide))
      refine lv_iconst (v := 1) hx hb dX5_globalItem_137 (by decide) ?_
      refine W.eq (g2 := F0 m 138 ls [.int 1, .int 0, .int (v.1 0 377), .ref (ad 908)]) (by rw [show pr (u30.1 0 327) = (ad 908) from (by rw [show (u30.1 0 327) = ps from (Eq.trans (fr29.2.1 327 (by decide)) (Eq.trans (fr25.2.1 327 (by decide)) (Eq.trans (fr19.2.1 327 (by decide)) (Eq.trans (fr10.2.1 327 (by decide)) es327))))]; exact hps)]) ?_
      refine cu_v (rn_Vk (n := 3) (As := [.int (v.1 0 377), .int 0, .int 1]) (rest := []) hx hb hml hown ht hKK hFx hP hD hS hA (c_x_X7_changeGlobal l dC dI cI cB cZ cJ cR tb H.size ad pr N L1 L2 u30 (v.1 0 377) (0 : Int32) (1 : Int32) (show L1.length = 40 from hL1) (show L2.length = 60 from hL2) (show RP u30 from ((show FC [305, 306, 377] [0] v u30 from (FC.tr (FC.tr (FC.tr (FC.tr (FC.rf _) (FC.up fr10 (by decide) (by decide))) (FC.up fr19 (by decide) (by decide))) (FC.up fr25 (by decide) (by decide))) (FC.up fr29 (by decide) (by decide)))).1 rp)) (show (0 : Int) ≠ 0 ∨ (1 : Int) ≤ 1000 from om_5a4c72df4e)) tw_599 tw_600 (by decide +kernel) rfl rfl ⟨Nat.le_of_ble_eq_true rfl, Nat.le_of_ble_eq_true rfl⟩ (List.range (cW ad pr N cI cR L1 L2 u30).length) (rg_map _) (nd_range _) 8 rfl rfl rfl rfl hl.1 rfl (Nat.le_of_ble_eq_true rfl) dX5_globalItem_138 ⟨Nat.le_of_ble_eq_true rfl, Nat.le_of_ble_eq_true rfl⟩) hP hD hS hA (fun u34 H locs hw33 hP hD hS => ?_)
      obtain ⟨fr33, ex33⟩ := hw33
      refine W.widen (k := 0) (n := 0) (Nat.le_refl _) (Nat.le_refl _) ?_
      refine lv_aload_n hx hb dX5_globalItem_141 rfl (lv_at hl 3 rfl) ?_
      refine va_get (D := (dC, dI)) (ci := 8) (fs := oF_X5 ad pr u34) (v := .ref (ad 900)) (C := RX5) (T := TX5) (N := 7) hx hb ht itX5 hown hK hP 3 rfl rfl 1 (by decide) (ht _ tw_571) (fun _ h9 => h9) rfl dX5_globalItem_142 ?_
      refine lv_bipush (v := 36) hx hb dX5_globalItem_145 (by decide) ?_
      have q36 : (u26.1 0 304).toInt = (u20.1 0 304).toInt := congrArg Int32.toInt ((fr25.2.1 304 (by decide)).trans (show u20.1 0 304 = (u20.1 0 304) by rfl))
      have q37 : (u30.1 0 304).toInt = (u26.1 0 304).toInt := congrArg Int32.toInt ((fr29.2.1 304 (by decide)).trans (show u26.1 0 304 = (u26.1 0 304) by rfl))
      have q38 : (u34.1 0 304).toInt = (u30.1 0 304).toInt := congrArg Int32.toInt ((fr33.2.1 304 (by decide)).trans (show u30.1 0 304 = (u30.1 0 304) by rfl))
      have q39 : (u30.1 0 305).toInt = (u26.1 0 305).toInt := congrArg Int32.toInt ((fr29.2.1 305 (by decide)).trans (show u26.1 0 305 = (u26.1 0 305) by rfl))
      have q40 : (u34.1 0 305).toInt = (u30.1 0 305).toInt := congrArg Int32.toInt ((fr33.2.1 305 (by decide)).trans (show u30.1 0 305 = (u30.1 0 305) by rfl))
      have q41 : (u26.1 0 373).toInt = (u20.1 0 373).toInt := congrArg Int32.toInt ((fr25.2.1 373 (by decide)).trans (show u20.1 0 373 = (u20.1 0 373) by rfl))
      have q42 : (u30.1 0 373).toInt = (u26.1 0 373).toInt := congrArg Int32.toInt ((fr29.2.1 373 (by decide)).trans (show u26.1 0 373 = (u26.1 0 373) by rfl))
      have q43 : (u34.1 0 373).toInt = (u30.1 0 373).toInt := congrArg Int32.toInt ((fr33.2.1 373 (by decide)).trans (show u30.1 0 373 = (u30.1 0 373) by rfl))
      refine W.sz (fun hz9 => ?_)
      refine czx_v (rx_Vk (n := 1) (As := [.int 36]) (rest := []) hx hb hml hown ht hKK hFx hP hD hS hA (c_x_X9_expect l dC dI cI cB cZ cJ cR tb H.size ad pr N L1 L2 u34 (36 : Int32) ps (show 0 ≤ (u34.1 0 304).toInt ∧ (u34.1 0 304).toInt ≤ 1503 from (om_303b0e9f26 z304 q13 q22 q36 q37 q38)) (show 0 ≤ (u34.1 0 305).toInt ∧ (u34.1 0 305).toInt ≤ 1500 from (om_bd68b03a15 z305 q14 q23 i30525 pt25 q39 q40)) (show 0 ≤ (u34.1 0 373).toInt ∧ (u34.1 0 373).toInt ≤ 4000 from (om_d59e6e0f1e z373 q15 q24 q41 q42 q43)) (show pr ps = ad 908 from hps) (show (u34.1 0 300) = ps from (Eq.trans (fr33.2.1 300 (by decide)) (Eq.trans (fr29.2.1 300 (by decide)) (Eq.trans (fr25.2.1 300 (by decide)) (Eq.trans (fr19.2.1 300 (by decide)) (Eq.trans (fr10.2.1 300 (by decide)) es300)))))) (show l.stackTraces = false from hst)) tw_526 tw_580 (by decide +kernel) rfl rfl ⟨Nat.le_of_ble_eq_true rfl, Nat.le_of_ble_eq_true rfl⟩ (List.range (cW ad pr N cI cR L1 L2 u34).length) (rg_map _) (nd_range _) 0 rfl rfl rfl rfl hl.1 rfl (Nat.le_of_ble_eq_true rfl) dX5_globalItem_147 ⟨Nat.le_of_ble_eq_true rfl, Nat.le_of_ble_eq_true rfl⟩) hP hD hS hA (fun u9 ce9 q9 H locs hx9 hP hD hS hc9 hv9 hf9 => ?_) (fun u45 H locs hw44 hP hD hS hz8 => ?_)
      · exact vx_out (fun x h9 => (hnt x h9).elim) hlocks hc9 hv9 hf9 (fun t9 ht9 hv8 => ⟨u9, ⟨FC.tr (FC.tr (FC.tr (FC.tr (FC.tr (FC.tr (FC.rf _) (FC.up fr10 (by decide) (by decide))) (FC.up fr19 (by decide) (by decide))) (FC.up fr25 (by decide) (by decide))) (FC.up fr29 (by decide) (by decide))) (FC.up fr33 (by decide) (by decide))) hx9.1, hx9.2.1, ⟨z304, z305, z306, z326, z373, z381, zd, (Or.inl ⟨z2, (Or.inl ⟨z5, r9, ex7, u11, ex10, fr10, r18, ex16, u20, ex19, fr19, (Or.inr (⟨u26, ex25, ⟨fr25, i30525, pt25, rs25⟩, u30, ex29, fr29, u34, ex33, fr33, (Or.inl ⟨u9, hx9.2.2, rfl, rfl⟩)⟩))⟩)⟩)⟩⟩, ⟨rfl, by rw [ht9]; exact hP, hD⟩, hS.F ht9⟩) hS.2.2 (Nat.le_refl _) (Nat.le_refl _)
      refine W.shrink (hz8.trans hz9) ?_
      obtain ⟨fr44, ex44, i30544, pt44, rs44⟩ := hw44
      have i30544 : 0 ≤ (u45.1 0 305).toInt ∧ (u45.1 0 305).toInt ≤ 1500 := i30544
      have pt44 : (u45.1 0 305).toInt = (u34.1 0 305).toInt + 1 := pt44
      have rs44 : RS u34 u45 := rs44
      refine lv_aload_n hx hb dX5_globalItem_150 rfl (lv_at hl 3 rfl) ?_
      refine va_get (D := (dC, dI)) (ci := 8) (fs := oF_X5 ad pr u45) (v := .ref (pr (u45.1 0 327))) (C := RX5) (T := TX5) (N := 7) hx hb ht itX5 hown hK hP 3 rfl rfl 0 (by decide) (ht _ tw_588) (fun _ h9 => h9) rfl dX5_globalItem_151 ?_
      refine lv_iload_n hx hb dX5_globalItem_154 rfl (lv_at hl 2 rfl) ?_
      refine lv_iconst (v := 1) hx hb dX5_globalItem_155 (by decide) ?_
      refine lv_iadd hx hb dX5_globalItem_156 ?_
      refine W.eq (g2 := F0 m 157 ls [.int ((v.1 0 377) + (1 : Int32)), .ref (ad 908)]) (by rw [show pr (u45.1 0 327) = (ad 908) from (by rw [show (u45.1 0 327) = ps from (Eq.trans (fr44.2.1 327 (by decide)) (Eq.trans (fr33.2.1 327 (by decide)) (Eq.trans (fr29.2.1 327 (by decide)) (Eq.trans (fr25.2.1 327 (by decide)) (Eq.trans (fr19.2.1 327 (by decide)) (Eq.trans (fr10.2.1 327 (by decide)) es327))))))]; exact hps)]) ?_
      refine va_put (D := (dC, dI)) (ci := 10) (fs := oF_X7 ad pr u45) (v := .int ((v.1 0 377) + (1 : Int32))) (ty := .int) (C := RX7) (T := TX7) (N := 13) hx hb ht itX7 tyX7 tyX7_ok nmX7 hown hK hP hD hS 8 rfl rfl 5 (by decide) (ht _ tw_598) (fun _ h9 => h9) rfl (by decide +kernel) rfl rfl (Nat.le_of_ble_eq_true rfl) dX5_globalItem_157 (fun H locs hP hD hS => ?_)
      have hP := cP_ (cw_377 ad pr N cI cR L1 L2 u45 ((v.1 0 377) + (1 : Int32))) hP
      have hD := cD_ (cw_377 ad pr N cI cR L1 L2 u45 ((v.1 0 377) + (1 : Int32))) hD
      have q47 : (u11.1 0 306).toInt = (v.1 0 306).toInt := congrArg Int32.toInt ((fr10.2.1 306 (by decide)).trans (show v.1 0 306 = (v.1 0 306) by rfl))
      have q48 : (u20.1 0 306).toInt = (u11.1 0 306).toInt := congrArg Int32.toInt ((fr19.2.1 306 (by decide)).trans (show u11.1 0 306 = (u11.1 0 306) by rfl))
      have q49 : (u26.1 0 306).toInt = (u20.1 0 306).toInt := congrArg Int32.toInt ((fr25.2.1 306 (by decide)).trans (show u20.1 0 306 = (u20.1 0 306) by rfl))
      have q50 : (u30.1 0 306).toInt = (u26.1 0 306).toInt := congrArg Int32.toInt ((fr29.2.1 306 (by decide)).trans (show u26.1 0 306 = (u26.1 0 306) by rfl))
      have q51 : (u34.1 0 306).toInt = (u30.1 0 306).toInt := congrArg Int32.toInt ((fr33.2.1 306 (by decide)).trans (show u30.1 0 306 = (u30.1 0 306) by rfl))
      have q52 : (u45.1 0 306).toInt = (u34.1 0 306).toInt := congrArg Int32.toInt ((fr44.2.1 306 (by decide)).trans (show u34.1 0 306 = (u34.1 0 306) by rfl))
      have q53 : (u11.1 0 326).toInt = (v.1 0 326).toInt := congrArg Int32.toInt ((fr10.2.1 326 (by decide)).trans (show v.1 0 326 = (v.1 0 326) by rfl))
      have q54 : (u11.1 0 381).toInt = (v.1 0 381).toInt := congrArg Int32.toInt ((fr10.2.1 381 (by decide)).trans (show v.1 0 381 = (v.1 0 381) by rfl))
      have q55 : (u20.1 0 326).toInt = (u11.1 0 326).toInt := congrArg Int32.toInt ((fr19.2.1 326 (by decide)).trans (show u11.1 0 326 = (u11.1 0 326) by rfl))
      have q56 : (u20.1 0 381).toInt = (u11.1 0 381).toInt := congrArg Int32.toInt ((fr19.2.1 381 (by decide)).trans (show u11.1 0 381 = (u11.1 0 381) by rfl))
      have q57 : (u26.1 0 326).toInt = (u20.1 0 326).toInt := congrArg Int32.toInt ((fr25.2.1 326 (by decide)).trans (show u20.1 0 326 = (u20.1 0 326) by rfl))
      have q58 : (u26.1 0 381).toInt = (u20.1 0 381).toInt := congrArg Int32.toInt ((fr25.2.1 381 (by decide)).trans (show u20.1 0 381 = (u20.1 0 381) by rfl))
      have q59 : (u30.1 0 326).toInt = (u26.1 0 326).toInt := congrArg Int32.toInt ((fr29.2.1 326 (by decide)).trans (show u26.1 0 326 = (u26.1 0 326) by rfl))
      have q60 : (u30.1 0 381).toInt = (u26.1 0 381).toInt := congrArg Int32.toInt ((fr29.2.1 381 (by decide)).trans (show u26.1 0 381 = (u26.1 0 381) by rfl))
      have q61 : (u34.1 0 326).toInt = (u30.1 0 326).toInt := congrArg Int32.toInt ((fr33.2.1 326 (by decide)).trans (show u30.1 0 326 = (u30.1 0 326) by rfl))
      have q62 : (u34.1 0 381).toInt = (u30.1 0 381).toInt := congrArg Int32.toInt ((fr33.2.1 381 (by decide)).trans (show u30.1 0 381 = (u30.1 0 381) by rfl))
      have q63 : (u45.1 0 326).toInt = (u34.1 0 326).toInt := congrArg Int32.toInt ((fr44.2.1 326 (by decide)).trans (show u34.1 0 326 = (u34.1 0 326) by rfl))
      have q64 : (u45.1 0 381).toInt = (u34.1 0 381).toInt := congrArg Int32.toInt ((fr44.2.1 381 (by decide)).trans (show u34.1 0 381 = (u34.1 0 381) by rfl))
      refine W.sz (fun hz => ?_)
      refine vx_ret ?_
      refine W.widen (k := 1) (n := 6) (Nat.le_of_ble_eq_true rfl) (Nat.le_of_ble_eq_true rfl) ?_
      exact W.vret hx hb hr (fun t ht9 hW => ⟨⟨(wA u45 0 377 ((v.1 0 377) + (1 : Int32))), rfl, ⟨(FC.f (FC.tr (FC.tr (FC.tr (FC.tr (FC.tr (FC.tr (FC.rf _) (FC.up fr10 (by decide) (by decide))) (FC.up fr19 (by decide) (by decide))) (FC.up fr25 (by decide) (by decide))) (FC.up fr29 (by decide) (by decide))) (FC.up fr33 (by decide) (by decide))) (FC.up fr44 (by decide) (by decide))) ((v.1 0 377) + (1 : Int32)) (by decide)), ⟨z304, z305, z306, z326, z373, z381, zd, (Or.inl ⟨z2, (Or.inl ⟨z5, r9, ex7, u11, ex10, fr10, r18, ex16, u20, ex19, fr19, (Or.inr (⟨u26, ex25, ⟨fr25, i30525, pt25, rs25⟩, u30, ex29, fr29, u34, ex33, fr33, (Or.inr (⟨u45, ex44, ⟨fr44, i30544, pt44, rs44⟩, rfl, rfl⟩))⟩))⟩)⟩)⟩, (show 0 ≤ (u45.1 0 305).toInt ∧ (u45.1 0 305).toInt ≤ 1500 from (om_7897b4ccef i30544)), (show 0 ≤ (u45.1 0 306).toInt ∧ (u45.1 0 306).toInt ≤ 40 from (om_a4a88028d4 z306 q47 q48 q49 q50 q51 q52)), (show (u45.1 0 381).toInt + (u45.1 0 326).toInt - 2 * (u45.1 0 305).toInt + (4) ≤ (v.1 0 381).toInt + (v.1 0 326).toInt - 2 * (v.1 0 305).toInt from (om_a1f9aa06b6 q14 q53 q54 q23 q55 q56 q57 q58 pt25 q39 q59 q60 q40 q61 q62 q63 q64 pt44)), (show (v.1 0 305).toInt + 2 ≤ (u45.1 0 305).toInt from (om_4964cd314e q14 q23 pt25 q39 q40 pt44))⟩, ⟨by rw [ht9]; exact hP, hD⟩, by rw [ht9]; exact hz⟩, hS.F ht9⟩) hS.2.2 dX5_globalItem_160
    · have z65 : pa.toInt = (36 : Int) := eq_z rfl (show (36 : Int32).toInt = (36 : Int) by decide) h4
      refine lv_iconst (v := 1) hx hb dX5_globalItem_30 (by decide) ?_
      refine lv_goto (tgt := 35) hx hb dX5_globalItem_31 (by decide) ?_
      refine lv_istore (lv' := [(4, .int 1), (3, .int 0), (2, .int (v.1 0 377)), (0, .ref (ad 903)), (1, .int pa)]) hx hb dX5_globalItem_35 hl (by decide) rfl (fun ls hl => ?_)
      refine lv_iload hx hb dX5_globalItem_37 (lv_at hl 0 rfl) ?_
      refine lv_if_eq (tgt := 63) hx hb dX5_globalItem_39 (by decide) (fun k66 => absurd k66 (by decide)) (fun _ => ?_)
      refine lv_iload_n hx hb dX5_globalItem_42 rfl (lv_at hl 2 rfl) ?_
      refine lv_bipush (v := 60) hx hb dX5_globalItem_43 (by decide) ?_
      refine lv_icmp_lt (tgt := 63) hx hb dX5_globalItem_45 (by decide) (fun h67 => ?_) (fun h67 => ?_)
      · have z68 : (v.1 0 377).toInt < (60 : Int) := lt_z rfl (show (60 : Int32).toInt = (60 : Int) by decide) h67
        refine lv_aload_n hx hb dX5_globalItem_63 rfl (lv_at hl 3 rfl) ?_
        refine va_get (D := (dC, dI)) (ci := 8) (fs := oF_X5 ad pr v) (v := .ref (pr (v.1 0 327))) (C := RX5) (T := TX5) (N := 7) hx hb ht itX5 hown hK hP 3 rfl rfl 0 (by decide) (ht _ tw_588) (fun _ h9 => h9) rfl dX5_globalItem_64 ?_
        refine lv_iload_n hx hb dX5_globalItem_67 rfl (lv_at hl 2 rfl) ?_
        refine lv_iconst (v := 4) hx hb dX5_globalItem_68 (by decide) ?_
        refine lv_aload_n hx hb dX5_globalItem_69 rfl (lv_at hl 3 rfl) ?_
        refine va_get (D := (dC, dI)) (ci := 8) (fs := oF_X5 ad pr v) (v := .ref (ad 900)) (C := RX5) (T := TX5) (N := 7) hx hb ht itX5 hown hK hP 3 rfl rfl 1 (by decide) (ht _ tw_571) (fun _ h9 => h9) rfl dX5_globalItem_70 ?_
        refine cu_i (rn_Vk (n := 0) (As := []) (rest := [.int 4, .int (v.1 0 377), .ref (pr (v.1 0 327))]) hx hb hml hown ht hKK hFx hP hD hS hA (c_x_X9_value l dC dI cI cB cZ cJ cR tb s.heap.size ad pr N L1 L2 v  (show 0 ≤ (v.1 0 304).toInt ∧ (v.1 0 304).toInt ≤ 1503 from (om_c99648273b z304)) (show 0 ≤ (v.1 0 305).toInt ∧ (v.1 0 305).toInt ≤ 1500 from (om_7897b4ccef z305))) tw_535 tw_574 (by decide +kernel) rfl rfl ⟨Nat.le_of_ble_eq_true rfl, Nat.le_of_ble_eq_true rfl⟩ (List.range (cW ad pr N cI cR L1 L2 v).length) (rg_map _) (nd_range _) 0 rfl rfl rfl rfl hl.1 rfl (Nat.le_of_ble_eq_true rfl) dX5_globalItem_73 ⟨Nat.le_of_ble_eq_true rfl, Nat.le_of_ble_eq_true rfl⟩) hP hD hS hA (fun r71 u70 H locs hw69 hP hD hS => ?_)
        obtain ⟨rfl, ex69⟩ := hw69
        refine W.widen (k := 0) (n := 0) (Nat.le_refl _) (Nat.le_refl _) ?_
        refine W.eq (g2 := F0 m 76 ls [.int r71, .int 4, .int (v.1 0 377), .ref (ad 908)]) (by rw [show pr (v.1 0 327) = (ad 908) from (by rw [show (v.1 0 327) = ps from es327]; exact hps)]) ?_
        refine cu_v (rn_Vk (n := 3) (As := [.int (v.1 0 377), .int 4, .int r71]) (rest := []) hx hb hml hown ht hKK hFx hP hD hS hA (c_x_X7_changeGlobal l dC dI cI cB cZ cJ cR tb H.size ad pr N L1 L2 v (v.1 0 377) (4 : Int32) r71 (show L1.length = 40 from hL1) (show L2.length = 60 from hL2) (show RP v from rp) (show (4 : Int) ≠ 0 ∨ r71.toInt ≤ 1000 from om_24e1f2eced)) tw_599 tw_600 (by decide +kernel) rfl rfl ⟨Nat.le_of_ble_eq_true rfl, Nat.le_of_ble_eq_true rfl⟩ (List.range (cW ad pr N cI cR L1 L2 v).length) (rg_map _) (nd_range _) 8 rfl rfl rfl rfl hl.1 rfl (Nat.le_of_ble_eq_true rfl) dX5_globalItem_76 ⟨Nat.le_of_ble_eq_true rfl, Nat.le_of_ble_eq_true rfl⟩) hP hD hS hA (fun u73 H locs hw72 hP hD hS => ?_)
        obtain ⟨fr72, ex72⟩ := hw72
        refine W.widen (k := 0) (n := 0) (Nat.le_refl _) (Nat.le_refl _) ?_
        refine lv_aload_n hx hb dX5_globalItem_79 rfl (lv_at hl 3 rfl) ?_
        refine va_get (D := (dC, dI)) (ci := 8) (fs := oF_X5 ad pr u73) (v := .ref (pr (u73.1 0 327))) (C := RX5) (T := TX5) (N := 7) hx hb ht itX5 hown hK hP 3 rfl rfl 0 (by decide) (ht _ tw_588) (fun _ h9 => h9) rfl dX5_globalItem_80 ?_
        refine lv_iload_n hx hb dX5_globalItem_83 rfl (lv_at hl 2 rfl) ?_
        refine lv_iconst (v := 3) hx hb dX5_globalItem_84 (by decide) ?_
        refine lv_aload_n hx hb dX5_globalItem_85 rfl (lv_at hl 3 rfl) ?_
        refine va_get (D := (dC, dI)) (ci := 8) (fs := oF_X5 ad pr u73) (v := .ref (ad 900)) (C := RX5) (T := TX5) (N := 7) hx hb ht itX5 hown hK hP 3 rfl rfl 1 (by decide) (ht _ tw_571) (fun _ h9 => h9) rfl dX5_globalItem_86 ?_
        have q75 : (u73.1 0 304).toInt = (v.1 0 304).toInt := congrArg Int32.toInt ((fr72.2.1 304 (by decide)).trans (show v.1 0 304 = (v.1 0 304) by rfl))
        have q76 : (u73.1 0 305).toInt = (v.1 0 305).toInt := congrArg Int32.toInt ((fr72.2.1 305 (by decide)).trans (show v.1 0 305 = (v.1 0 305) by rfl))
        have q77 : (u73.1 0 373).toInt = (v.1 0 373).toInt := congrArg Int32.toInt ((fr72.2.1 373 (by decide)).trans (show v.1 0 373 = (v.1 0 373) by rfl))
        refine cu_i (rn_Vk (n := 0) (As := []) (rest := [.int 3, .int (v.1 0 377), .ref (pr (u73.1 0 327))]) hx hb hml hown ht hKK hFx hP hD hS hA (c_x_X9_place l dC dI cI cB cZ cJ cR tb H.size ad pr N L1 L2 u73 ps (show 0 ≤ (u73.1 0 304).toInt ∧ (u73.1 0 304).toInt ≤ 1503 from (om_73002589c1 z304 q75)) (show 0 ≤ (u73.1 0 305).toInt ∧ (u73.1 0 305).toInt ≤ 1500 from (om_c93ca3468d z305 q76)) (show 0 ≤ (u73.1 0 373).toInt ∧ (u73.1 0 373).toInt ≤ 4000 from (om_9084c127ed z373 q77)) (show pr ps = ad 908 from hps) (show (u73.1 0 300) = ps from (Eq.trans (fr72.2.1 300 (by decide)) es300))) tw_457 tw_577 (by decide +kernel) rfl rfl ⟨Nat.le_of_ble_eq_true rfl, Nat.le_of_ble_eq_true rfl⟩ (List.range (cW ad pr N cI cR L1 L2 u73).length) (rg_map _) (nd_range _) 0 rfl rfl rfl rfl hl.1 rfl (Nat.le_of_ble_eq_true rfl) dX5_globalItem_89 ⟨Nat.le_of_ble_eq_true rfl, Nat.le_of_ble_eq_true rfl⟩) hP hD hS hA (fun r80 u79 H locs hw78 hP hD hS => ?_)
        obtain ⟨rfl, ex78⟩ := hw78
        refine W.widen (k := 0) (n := 0) (Nat.le_refl _) (Nat.le_refl _) ?_
        refine W.eq (g2 := F0 m 92 ls [.int r80, .int 3, .int (v.1 0 377), .ref (ad 908)]) (by rw [show pr (u73.1 0 327) = (ad 908) from (by rw [show (u73.1 0 327) = ps from (Eq.trans (fr72.2.1 327 (by decide)) es327)]; exact hps)]) ?_
        refine cu_v (rn_Vk (n := 3) (As := [.int (v.1 0 377), .int 3, .int r80]) (rest := []) hx hb hml hown ht hKK hFx hP hD hS hA (c_x_X7_changeGlobal l dC dI cI cB cZ cJ cR tb H.size ad pr N L1 L2 u73 (v.1 0 377) (3 : Int32) r80 (show L1.length = 40 from hL1) (show L2.length = 60 from hL2) (show RP u73 from ((show FC [305, 306, 377] [0] v u73 from (FC.tr (FC.rf _) (FC.up fr72 (by decide) (by decide)))).1 rp)) (show (3 : Int) ≠ 0 ∨ r80.toInt ≤ 1000 from om_4550d86e9b)) tw_599 tw_600 (by decide +kernel) rfl rfl ⟨Nat.le_of_ble_eq_true rfl, Nat.le_of_ble_eq_true rfl⟩ (List.range (cW ad pr N cI cR L1 L2 u73).length) (rg_map _) (nd_range _) 8 rfl rfl rfl rfl hl.1 rfl (Nat.le_of_ble_eq_true rfl) dX5_globalItem_92 ⟨Nat.le_of_ble_eq_true rfl, Nat.le_of_ble_eq_true rfl⟩) hP hD hS hA (fun u82 H locs hw81 hP hD hS => ?_)
        obtain ⟨fr81, ex81⟩ := hw81
        refine W.widen (k := 0) (n := 0) (Nat.le_refl _) (Nat.le_refl _) ?_
        refine lv_aload_n hx hb dX5_globalItem_95 rfl (lv_at hl 3 rfl) ?_
        refine va_get (D := (dC, dI)) (ci := 8) (fs := oF_X5 ad pr u82) (v := .ref (ad 900)) (C := RX5) (T := TX5) (N := 7) hx hb ht itX5 hown hK hP 3 rfl rfl 1 (by decide) (ht _ tw_571) (fun _ h9 => h9) rfl dX5_globalItem_96 ?_
        have q84 : (u82.1 0 304).toInt = (u73.1 0 304).toInt := congrArg Int32.toInt ((fr81.2.1 304 (by decide)).trans (show u73.1 0 304 = (u73.1 0 304) by rfl))
        have q85 : (u82.1 0 305).toInt = (u73.1 0 305).toInt := congrArg Int32.toInt ((fr81.2.1 305 (by decide)).trans (show u73.1 0 305 = (u73.1 0 305) by rfl))
        have q86 : (u82.1 0 373).toInt = (u73.1 0 373).toInt := congrArg Int32.toInt ((fr81.2.1 373 (by decide)).trans (show u73.1 0 373 = (u73.1 0 373) by rfl))
        refine W.sz (fun hz9 => ?_)
        refine czx_v (rx_Vk (n := 0) (As := []) (rest := []) hx hb hml hown ht hKK hFx hP hD hS hA (c_x_X9_take l dC dI cI cB cZ cJ cR tb H.size ad pr N L1 L2 u82 ps (show 0 ≤ (u82.1 0 304).toInt ∧ (u82.1 0 304).toInt ≤ 1503 from (om_dd87ee851a z304 q75 q84)) (show 0 ≤ (u82.1 0 305).toInt ∧ (u82.1 0 305).toInt ≤ 1500 from (om_15548f2e10 z305 q76 q85)) (show 0 ≤ (u82.1 0 373).toInt ∧ (u82.1 0 373).toInt ≤ 4000 from (om_03cd8767ac z373 q77 q86)) (show pr ps = ad 908 from hps) (show (u82.1 0 300) = ps from (Eq.trans (fr81.2.1 300 (by decide)) (Eq.trans (fr72.2.1 300 (by decide)) es300))) (show l.stackTraces = false from hst)) tw_539 tw_585 (by decide +kernel) rfl rfl ⟨Nat.le_of_ble_eq_true rfl, Nat.le_of_ble_eq_true rfl⟩ (List.range (cW ad pr N cI cR L1 L2 u82).length) (rg_map _) (nd_range _) 0 rfl rfl rfl rfl hl.1 rfl (Nat.le_of_ble_eq_true rfl) dX5_globalItem_99 ⟨Nat.le_of_ble_eq_true rfl, Nat.le_of_ble_eq_true rfl⟩) hP hD hS hA (fun u9 ce9 q9 H locs hx9 hP hD hS hc9 hv9 hf9 => ?_) (fun u88 H locs hw87 hP hD hS hz8 => ?_)
        · exact vx_out (fun x h9 => (hnt x h9).elim) hlocks hc9 hv9 hf9 (fun t9 ht9 hv8 => ⟨u9, ⟨FC.tr (FC.tr (FC.tr (FC.rf _) (FC.up fr72 (by decide) (by decide))) (FC.up fr81 (by decide) (by decide))) hx9.1, hx9.2.1, ⟨z304, z305, z306, z326, z373, z381, zd, (Or.inl ⟨z2, (Or.inr (⟨z65, (Or.inl ⟨z68, r71, ex69, u73, ex72, fr72, r80, ex78, u82, ex81, fr81, (Or.inl ⟨u9, hx9.2.2, rfl, rfl⟩)⟩)⟩))⟩)⟩⟩, ⟨rfl, by rw [ht9]; exact hP, hD⟩, hS.F ht9⟩) hS.2.2 (Nat.le_refl _) (Nat.le_refl _)
        refine W.shrink (hz8.trans hz9) ?_
        obtain ⟨fr87, ex87, i30587, pt87, rs87⟩ := hw87
        have i30587 : 0 ≤ (u88.1 0 305).toInt ∧ (u88.1 0 305).toInt ≤ 1500 := i30587
        have pt87 : (u88.1 0 305).toInt = (u82.1 0 305).toInt + 1 := pt87
        have rs87 : RS u82 u88 := rs87
        refine lv_aload_n hx hb dX5_globalItem_102 rfl (lv_at hl 3 rfl) ?_
        refine va_get (D := (dC, dI)) (ci := 8) (fs := oF_X5 ad pr u88) (v := .ref (pr (u88.1 0 327))) (C := RX5) (T := TX5) (N := 7) hx hb ht itX5 hown hK hP 3 rfl rfl 0 (by decide) (ht _ tw_588) (fun _ h9 => h9) rfl dX5_globalItem_103 ?_
        refine lv_iload_n hx hb dX5_globalItem_106 rfl (lv_at hl 2 rfl) ?_
        refine lv_iconst (v := 2) hx hb dX5_globalItem_107 (by decide) ?_
        refine lv_iload_n hx hb dX5_globalItem_108 rfl (lv_at hl 1 rfl) ?_
        refine lv_if_eq (tgt := 116) hx hb dX5_globalItem_109 (by decide) (fun _ => ?_) (fun k90 => absurd k90 (by decide))
        refine lv_iconst (v := 0) hx hb dX5_globalItem_116 (by decide) ?_
        refine W.eq (g2 := F0 m 117 ls [.int 0, .int 2, .int (v.1 0 377), .ref (ad 908)]) (by rw [show pr (u88.1 0 327) = (ad 908) from (by rw [show (u88.1 0 327) = ps from (Eq.trans (fr87.2.1 327 (by decide)) (Eq.trans (fr81.2.1 327 (by decide)) (Eq.trans (fr72.2.1 327 (by decide)) es327)))]; exact hps)]) ?_
        refine cu_v (rn_Vk (n := 3) (As := [.int (v.1 0 377), .int 2, .int 0]) (rest := []) hx hb hml hown ht hKK hFx hP hD hS hA (c_x_X7_changeGlobal l dC dI cI cB cZ cJ cR tb H.size ad pr N L1 L2 u88 (v.1 0 377) (2 : Int32) (0 : Int32) (show L1.length = 40 from hL1) (show L2.length = 60 from hL2) (show RP u88 from ((show FC [305, 306, 377] [0] v u88 from (FC.tr (FC.tr (FC.tr (FC.rf _) (FC.up fr72 (by decide) (by decide))) (FC.up fr81 (by decide) (by decide))) (FC.up fr87 (by decide) (by decide)))).1 rp)) (show (2 : Int) ≠ 0 ∨ (0 : Int) ≤ 1000 from om_52043010a0)) tw_599 tw_600 (by decide +kernel) rfl rfl ⟨Nat.le_of_ble_eq_true rfl, Nat.le_of_ble_eq_true rfl⟩ (List.range (cW ad pr N cI cR L1 L2 u88).length) (rg_map _) (nd_range _) 8 rfl rfl rfl rfl hl.1 rfl (Nat.le_of_ble_eq_true rfl) dX5_globalItem_117 ⟨Nat.le_of_ble_eq_true rfl, Nat.le_of_ble_eq_true rfl⟩) hP hD hS hA (fun u92 H locs hw91 hP hD hS => ?_)
        obtain ⟨fr91, ex91⟩ := hw91
        refine W.widen (k := 0) (n := 0) (Nat.le_refl _) (Nat.le_refl _) ?_
        refine lv_aload_n hx hb dX5_globalItem_120 rfl (lv_at hl 3 rfl) ?_
        refine va_get (D := (dC, dI)) (ci := 8) (fs := oF_X5 ad pr u92) (v := .ref (pr (u92.1 0 327))) (C := RX5) (T := TX5) (N := 7) hx hb ht itX5 hown hK hP 3 rfl rfl 0 (by decide) (ht _ tw_588) (fun _ h9 => h9) rfl dX5_globalItem_121 ?_
        refine lv_iload_n hx hb dX5_globalItem_124 rfl (lv_at hl 2 rfl) ?_
        refine lv_iconst (v := 0) hx hb dX5_globalItem_125 (by decide) ?_
        refine lv_iload_n hx hb dX5_globalItem_126 rfl (lv_at hl 1 rfl) ?_
        refine lv_if_eq (tgt := 137) hx hb dX5_globalItem_127 (by decide) (fun _ => ?_) (fun k94 => absurd k94 (by decide))
        refine lv_iconst (v := 1) hx hb dX5_globalItem_137 (by decide) ?_
        refine W.eq (g2 := F0 m 138 ls [.int 1, .int 0, .int (v.1 0 377), .ref (ad 908)]) (by rw [show pr (u92.1 0 327) = (ad 908) from (by rw [show (u92.1 0 327) = ps from (Eq.trans (fr91.2.1 327 (by decide)) (Eq.trans (fr87.2.1 327 (by decide)) (Eq.trans (fr81.2.1 327 (by decide)) (Eq.trans (fr72.2.1 327 (by decide)) es327))))]; exact hps)]) ?_
        refine cu_v (rn_Vk (n := 3) (As := [.int (v.1 0 377), .int 0, .int 1]) (rest := []) hx hb hml hown ht hKK hFx hP hD hS hA (c_x_X7_changeGlobal l dC dI cI cB cZ cJ cR tb H.size ad pr N L1 L2 u92 (v.1 0 377) (0 : Int32) (1 : Int32) (show L1.length = 40 from hL1) (show L2.length = 60 from hL2) (show RP u92 from ((show FC [305, 306, 377] [0] v u92 from (FC.tr (FC.tr (FC.tr (FC.tr (FC.rf _) (FC.up fr72 (by decide) (by decide))) (FC.up fr81 (by decide) (by decide))) (FC.up fr87 (by decide) (by decide))) (FC.up fr91 (by decide) (by decide)))).1 rp)) (show (0 : Int) ≠ 0 ∨ (1 : Int) ≤ 1000 from om_5a4c72df4e)) tw_599 tw_600 (by decide +kernel) rfl rfl ⟨Nat.le_of_ble_eq_true rfl, Nat.le_of_ble_eq_true rfl⟩ (List.range (cW ad pr N cI cR L1 L2 u92).length) (rg_map _) (nd_range _) 8 rfl rfl rfl rfl hl.1 rfl (Nat.le_of_ble_eq_true rfl) dX5_globalItem_138 ⟨Nat.le_of_ble_eq_true rfl, Nat.le_of_ble_eq_true rfl⟩) hP hD hS hA (fun u96 H locs hw95 hP hD hS => ?_)
        obtain ⟨fr95, ex95⟩ := hw95
        refine W.widen (k := 0) (n := 0) (Nat.le_refl _) (Nat.le_refl _) ?_
        refine lv_aload_n hx hb dX5_globalItem_141 rfl (lv_at hl 3 rfl) ?_
        refine va_get (D := (dC, dI)) (ci := 8) (fs := oF_X5 ad pr u96) (v := .ref (ad 900)) (C := RX5) (T := TX5) (N := 7) hx hb ht itX5 hown hK hP 3 rfl rfl 1 (by decide) (ht _ tw_571) (fun _ h9 => h9) rfl dX5_globalItem_142 ?_
        refine lv_bipush (v := 36) hx hb dX5_globalItem_145 (by decide) ?_
        have q98 : (u88.1 0 304).toInt = (u82.1 0 304).toInt := congrArg Int32.toInt ((fr87.2.1 304 (by decide)).trans (show u82.1 0 304 = (u82.1 0 304) by rfl))
        have q99 : (u92.1 0 304).toInt = (u88.1 0 304).toInt := congrArg Int32.toInt ((fr91.2.1 304 (by decide)).trans (show u88.1 0 304 = (u88.1 0 304) by rfl))
        have q100 : (u96.1 0 304).toInt = (u92.1 0 304).toInt := congrArg Int32.toInt ((fr95.2.1 304 (by decide)).trans (show u92.1 0 304 = (u92.1 0 304) by rfl))
        have q101 : (u92.1 0 305).toInt = (u88.1 0 305).toInt := congrArg Int32.toInt ((fr91.2.1 305 (by decide)).trans (show u88.1 0 305 = (u88.1 0 305) by rfl))
        have q102 : (u96.1 0 305).toInt = (u92.1 0 305).toInt := congrArg Int32.toInt ((fr95.2.1 305 (by decide)).trans (show u92.1 0 305 = (u92.1 0 305) by rfl))
        have q103 : (u88.1 0 373).toInt = (u82.1 0 373).toInt := congrArg Int32.toInt ((fr87.2.1 373 (by decide)).trans (show u82.1 0 373 = (u82.1 0 373) by rfl))
        have q104 : (u92.1 0 373).toInt = (u88.1 0 373).toInt := congrArg Int32.toInt ((fr91.2.1 373 (by decide)).trans (show u88.1 0 373 = (u88.1 0 373) by rfl))
        have q105 : (u96.1 0 373).toInt = (u92.1 0 373).toInt := congrArg Int32.toInt ((fr95.2.1 373 (by decide)).trans (show u92.1 0 373 = (u92.1 0 373) by rfl))
        refine W.sz (fun hz9 => ?_)
        refine czx_v (rx_Vk (n := 1) (As := [.int 36]) (rest := []) hx hb hml hown ht hKK hFx hP hD hS hA (c_x_X9_expect l dC dI cI cB cZ cJ cR tb H.size ad pr N L1 L2 u96 (36 : Int32) ps (show 0 ≤ (u96.1 0 304).toInt ∧ (u96.1 0 304).toInt ≤ 1503 from (om_303b0e9f26 z304 q75 q84 q98 q99 q100)) (show 0 ≤ (u96.1 0 305).toInt ∧ (u96.1 0 305).toInt ≤ 1500 from (om_bd68b03a15 z305 q76 q85 i30587 pt87 q101 q102)) (show 0 ≤ (u96.1 0 373).toInt ∧ (u96.1 0 373).toInt ≤ 4000 from (om_d59e6e0f1e z373 q77 q86 q103 q104 q105)) (show pr ps = ad 908 from hps) (show (u96.1 0 300) = ps from (Eq.trans (fr95.2.1 300 (by decide)) (Eq.trans (fr91.2.1 300 (by decide)) (Eq.trans (fr87.2.1 300 (by decide)) (Eq.trans (fr81.2.1 300 (by decide)) (Eq.trans (fr72.2.1 300 (by decide)) es300)))))) (show l.stackTraces = false from hst)) tw_526 tw_580 (by decide +kernel) rfl rfl ⟨Nat.le_of_ble_eq_true rfl, Nat.le_of_ble_eq_true rfl⟩ (List.range (cW ad pr N cI cR L1 L2 u96).length) (rg_map _) (nd_range _) 0 rfl rfl rfl rfl hl.1 rfl (Nat.le_of_ble_eq_true rfl) dX5_globalItem_147 ⟨Nat.le_of_ble_eq_true rfl, Nat.le_of_ble_eq_true rfl⟩) hP hD hS hA (fun u9 ce9 q9 H locs hx9 hP hD hS hc9 hv9 hf9 => ?_) (fun u107 H locs hw106 hP hD hS hz8 => ?_)
        · exact vx_out (fun x h9 => (hnt x h9).elim) hlocks hc9 hv9 hf9 (fun t9 ht9 hv8 => ⟨u9, ⟨FC.tr (FC.tr (FC.tr (FC.tr (FC.tr (FC.tr (FC.rf _) (FC.up fr72 (by decide) (by decide))) (FC.up fr81 (by decide) (by decide))) (FC.up fr87 (by decide) (by decide))) (FC.up fr91 (by decide) (by decide))) (FC.up fr95 (by decide) (by decide))) hx9.1, hx9.2.1, ⟨z304, z305, z306, z326, z373, z381, zd, (Or.inl ⟨z2, (Or.inr (⟨z65, (Or.inl ⟨z68, r71, ex69, u73, ex72, fr72, r80, ex78, u82, ex81, fr81, (Or.inr (⟨u88, ex87, ⟨fr87, i30587, pt87, rs87⟩, u92, ex91, fr91, u96, ex95, fr95, (Or.inl ⟨u9, hx9.2.2, rfl, rfl⟩)⟩))⟩)⟩))⟩)⟩⟩, ⟨rfl, by rw [ht9]; exact hP, hD⟩, hS.F ht9⟩) hS.2.2 (Nat.le_refl _) (Nat.le_refl _)
        refine W.shrink (hz8.trans hz9) ?_
        obtain ⟨fr106, ex106, i305106, pt106, rs106⟩ := hw106
        have i305106 : 0 ≤ (u107.1 0 305).toInt ∧ (u107.1 0 305).toInt ≤ 1500 := i305106
        have pt106 : (u107.1 0 305).toInt = (u96.1 0 305).toInt + 1 := pt106
        have rs106 : RS u96 u107 := rs106
        refine lv_aload_n hx hb dX5_globalItem_150 rfl (lv_at hl 3 rfl) ?_
        refine va_get (D := (dC, dI)) (ci := 8) (fs := oF_X5 ad pr u107) (v := .ref (pr (u107.1 0 327))) (C := RX5) (T := TX5) (N := 7) hx hb ht itX5 hown hK hP 3 rfl rfl 0 (by decide) (ht _ tw_588) (fun _ h9 => h9) rfl dX5_globalItem_151 ?_
        refine lv_iload_n hx hb dX5_globalItem_154 rfl (lv_at hl 2 rfl) ?_
        refine lv_iconst (v := 1) hx hb dX5_globalItem_155 (by decide) ?_
        refine lv_iadd hx hb dX5_globalItem_156 ?_
        refine W.eq (g2 := F0 m 157 ls [.int ((v.1 0 377) + (1 : Int32)), .ref (ad 908)]) (by rw [show pr (u107.1 0 327) = (ad 908) from (by rw [show (u107.1 0 327) = ps from (Eq.trans (fr106.2.1 327 (by decide)) (Eq.trans (fr95.2.1 327 (by decide)) (Eq.trans (fr91.2.1 327 (by decide)) (Eq.trans (fr87.2.1 327 (by decide)) (Eq.trans (fr81.2.1 327 (by decide)) (Eq.trans (fr72.2.1 327 (by decide)) es327))))))]; exact hps)]) ?_
        refine va_put (D := (dC, dI)) (ci := 10) (fs := oF_X7 ad pr u107) (v := .int ((v.1 0 377) + (1 : Int32))) (ty := .int) (C := RX7) (T := TX7) (N := 13) hx hb ht itX7 tyX7 tyX7_ok nmX7 hown hK hP hD hS 8 rfl rfl 5 (by decide) (ht _ tw_598) (fun _ h9 => h9) rfl (by decide +kernel) rfl rfl (Nat.le_of_ble_eq_true rfl) dX5_globalItem_157 (fun H locs hP hD hS => ?_)
        have hP := cP_ (cw_377 ad pr N cI cR L1 L2 u107 ((v.1 0 377) + (1 : Int32))) hP
        have hD := cD_ (cw_377 ad pr N cI cR L1 L2 u107 ((v.1 0 377) + (1 : Int32))) hD
        have q109 : (u73.1 0 306).toInt = (v.1 0 306).toInt := congrArg Int32.toInt ((fr72.2.1 306 (by decide)).trans (show v.1 0 306 = (v.1 0 306) by rfl))
        have q110 : (u82.1 0 306).toInt = (u73.1 0 306).toInt := congrArg Int32.toInt ((fr81.2.1 306 (by decide)).trans (show u73.1 0 306 = (u73.1 0 306) by rfl))
        have q111 : (u88.1 0 306).toInt = (u82.1 0 306).toInt := congrArg Int32.toInt ((fr87.2.1 306 (by decide)).trans (show u82.1 0 306 = (u82.1 0 306) by rfl))
        have q112 : (u92.1 0 306).toInt = (u88.1 0 306).toInt := congrArg Int32.toInt ((fr91.2.1 306 (by decide)).trans (show u88.1 0 306 = (u88.1 0 306) by rfl))
        have q113 : (u96.1 0 306).toInt = (u92.1 0 306).toInt := congrArg Int32.toInt ((fr95.2.1 306 (by decide)).trans (show u92.1 0 306 = (u92.1 0 306) by rfl))
        have q114 : (u107.1 0 306).toInt = (u96.1 0 306).toInt := congrArg Int32.toInt ((fr106.2.1 306 (by decide)).trans (show u96.1 0 306 = (u96.1 0 306) by rfl))
        have q115 : (u73.1 0 326).toInt = (v.1 0 326).toInt := congrArg Int32.toInt ((fr72.2.1 326 (by decide)).trans (show v.1 0 326 = (v.1 0 326) by rfl))
        have q116 : (u73.1 0 381).toInt = (v.1 0 381).toInt := congrArg Int32.toInt ((fr72.2.1 381 (by decide)).trans (show v.1 0 381 = (v.1 0 381) by rfl))
        have q117 : (u82.1 0 326).toInt = (u73.1 0 326).toInt := congrArg Int32.toInt ((fr81.2.1 326 (by decide)).trans (show u73.1 0 326 = (u73.1 0 326) by rfl))
        have q118 : (u82.1 0 381).toInt = (u73.1 0 381).toInt := congrArg Int32.toInt ((fr81.2.1 381 (by decide)).trans (show u73.1 0 381 = (u73.1 0 381) by rfl))
        have q119 : (u88.1 0 326).toInt = (u82.1 0 326).toInt := congrArg Int32.toInt ((fr87.2.1 326 (by decide)).trans (show u82.1 0 326 = (u82.1 0 326) by rfl))
        have q120 : (u88.1 0 381).toInt = (u82.1 0 381).toInt := congrArg Int32.toInt ((fr87.2.1 381 (by decide)).trans (show u82.1 0 381 = (u82.1 0 381) by rfl))
        have q121 : (u92.1 0 326).toInt = (u88.1 0 326).toInt := congrArg Int32.toInt ((fr91.2.1 326 (by decide)).trans (show u88.1 0 326 = (u88.1 0 326) by rfl))
        have q122 : (u92.1 0 381).toInt = (u88.1 0 381).toInt := congrArg Int32.toInt ((fr91.2.1 381 (by decide)).trans (show u88.1 0 381 = (u88.1 0 381) by rfl))
        have q123 : (u96.1 0 326).toInt = (u92.1 0 326).toInt := congrArg Int32.toInt ((fr95.2.1 326 (by decide)).trans (show u92.1 0 326 = (u92.1 0 326) by rfl))
        have q124 : (u96.1 0 381).toInt = (u92.1 0 381).toInt := congrArg Int32.toInt ((fr95.2.1 381 (by decide)).trans (show u92.1 0 381 = (u92.1 0 381) by rfl))
        have q125 : (u107.1 0 326).toInt = (u96.1 0 326).toInt := congrArg Int32.toInt ((fr106.2.1 326 (by decide)).trans (show u96.1 0 326 = (u96.1 0 326) by rfl))
        have q126 : (u107.1 0 381).toInt = (u96.1 0 381).toInt := congrArg Int32.toInt ((fr106.2.1 381 (by decide)).trans (show u96.1 0 381 = (u96.1 0 381) by rfl))
        refine W.sz (fun hz => ?_)
        refine vx_ret ?_
        refine W.widen (k := 1) (n := 6) (Nat.le_of_ble_eq_true rfl) (Nat.le_of_ble_eq_true rfl) ?_
        exact W.vret hx hb hr (fun t ht9 hW => ⟨⟨(wA u107 0 377 ((v.1 0 377) + (1 : Int32))), rfl, ⟨(FC.f (FC.tr (FC.tr (FC.tr (FC.tr (FC.tr (FC.tr (FC.rf _) (FC.up fr72 (by decide) (by decide))) (FC.up fr81 (by decide) (by decide))) (FC.up fr87 (by decide) (by decide))) (FC.up fr91 (by decide) (by decide))) (FC.up fr95 (by decide) (by decide))) (FC.up fr106 (by decide) (by decide))) ((v.1 0 377) + (1 : Int32)) (by decide)), ⟨z304, z305, z306, z326, z373, z381, zd, (Or.inl ⟨z2, (Or.inr (⟨z65, (Or.inl ⟨z68, r71, ex69, u73, ex72, fr72, r80, ex78, u82, ex81, fr81, (Or.inr (⟨u88, ex87, ⟨fr87, i30587, pt87, rs87⟩, u92, ex91, fr91, u96, ex95, fr95, (Or.inr (⟨u107, ex106, ⟨fr106, i305106, pt106, rs106⟩, rfl, rfl⟩))⟩))⟩)⟩))⟩)⟩, (show 0 ≤ (u107.1 0 305).toInt ∧ (u107.1 0 305).toInt ≤ 1500 from (om_7897b4ccef i305106)), (show 0 ≤ (u107.1 0 306).toInt ∧ (u107.1 0 306).toInt ≤ 40 from (om_a4a88028d4 z306 q109 q110 q111 q112 q113 q114)), (show (u107.1 0 381).toInt + (u107.1 0 326).toInt - 2 * (u107.1 0 305).toInt + (4) ≤ (v.1 0 381).toInt + (v.1 0 326).toInt - 2 * (v.1 0 305).toInt from (om_a1f9aa06b6 q76 q115 q116 q85 q117 q118 q119 q120 pt87 q101 q121 q122 q102 q123 q124 q125 q126 pt106)), (show (v.1 0 305).toInt + 2 ≤ (u107.1 0 305).toInt from (om_4964cd314e q76 q85 pt87 q101 q102 pt106))⟩, ⟨by rw [ht9]; exact hP, hD⟩, by rw [ht9]; exact hz⟩, hS.F ht9⟩) hS.2.2 dX5_globalItem_160
      · have z127 : (60 : Int) ≤ (v.1 0 377).toInt := nlt_z rfl (show (60 : Int32).toInt = (60 : Int) by decide) h67
        refine lv_aload_n hx hb dX5_globalItem_48 rfl (lv_at hl 3 rfl) ?_
        refine va_get (D := (dC, dI)) (ci := 8) (fs := oF_X5 ad pr v) (v := .ref (ad 900)) (C := RX5) (T := TX5) (N := 7) hx hb ht itX5 hown hK hP 3 rfl rfl 1 (by decide) (ht _ tw_571) (fun _ h9 => h9) rfl dX5_globalItem_49 ?_
        refine lv_iconst (v := 5) hx hb dX5_globalItem_52 (by decide) ?_
        refine lv_aload_n hx hb dX5_globalItem_53 rfl (lv_at hl 3 rfl) ?_
        refine va_get (D := (dC, dI)) (ci := 8) (fs := oF_X5 ad pr v) (v := .ref (ad 900)) (C := RX5) (T := TX5) (N := 7) hx hb ht itX5 hown hK hP 3 rfl rfl 1 (by decide) (ht _ tw_571) (fun _ h9 => h9) rfl dX5_globalItem_54 ?_
        refine cu_i (rn_Vk (n := 0) (As := []) (rest := [.int 5, .ref (ad 900)]) hx hb hml hown ht hKK hFx hP hD hS hA (c_x_X9_place l dC dI cI cB cZ cJ cR tb s.heap.size ad pr N L1 L2 v ps (show 0 ≤ (v.1 0 304).toInt ∧ (v.1 0 304).toInt ≤ 1503 from (om_c99648273b z304)) (show 0 ≤ (v.1 0 305).toInt ∧ (v.1 0 305).toInt ≤ 1500 from (om_7897b4ccef z305)) (show 0 ≤ (v.1 0 373).toInt ∧ (v.1 0 373).toInt ≤ 4000 from (om_c74a68af25 z373)) (show pr ps = ad 908 from hps) (show (v.1 0 300) = ps from es300)) tw_457 tw_577 (by decide +kernel) rfl rfl ⟨Nat.le_of_ble_eq_true rfl, Nat.le_of_ble_eq_true rfl⟩ (List.range (cW ad pr N cI cR L1 L2 v).length) (rg_map _) (nd_range _) 0 rfl rfl rfl rfl hl.1 rfl (Nat.le_of_ble_eq_true rfl) dX5_globalItem_57 ⟨Nat.le_of_ble_eq_true rfl, Nat.le_of_ble_eq_true rfl⟩) hP hD hS hA (fun r130 u129 H locs hw128 hP hD hS => ?_)
        obtain ⟨rfl, ex128⟩ := hw128
        refine W.widen (k := 0) (n := 0) (Nat.le_refl _) (Nat.le_refl _) ?_
        refine W.sz (fun hz9 => ?_)
        refine czx_v (rx_Vk (n := 2) (As := [.int 5, .int r130]) (rest := []) hx hb hml hown ht hKK hFx hP hD hS hA (c_x_X9_refuse l dC dI cI cB cZ cJ cR tb H.size ad pr N L1 L2 v (5 : Int32) r130 (show l.stackTraces = false from hst) (show (5 : Int) ≠ 0 from om_5e02973d50)) tw_459 tw_578 (by decide +kernel) rfl rfl ⟨Nat.le_of_ble_eq_true rfl, Nat.le_of_ble_eq_true rfl⟩ (List.range (cW ad pr N cI cR L1 L2 v).length) (rg_map _) (nd_range _) 0 rfl rfl rfl rfl hl.1 rfl (Nat.le_of_ble_eq_true rfl) dX5_globalItem_60 ⟨Nat.le_of_ble_eq_true rfl, Nat.le_of_ble_eq_true rfl⟩) hP hD hS hA (fun u9 ce9 q9 H locs hx9 hP hD hS hc9 hv9 hf9 => ?_) (fun u132 H locs hw131 hP hD hS hz8 => ?_)
        · exact vx_out (fun x h9 => (hnt x h9).elim) hlocks hc9 hv9 hf9 (fun t9 ht9 hv8 => ⟨u9, ⟨FC.tr (FC.rf _) hx9.1, hx9.2.1, ⟨z304, z305, z306, z326, z373, z381, zd, (Or.inl ⟨z2, (Or.inr (⟨z65, (Or.inr (⟨z127, r130, ex128, u9, hx9.2.2, rfl, rfl⟩))⟩))⟩)⟩⟩, ⟨rfl, by rw [ht9]; exact hP, hD⟩, hS.F ht9⟩) hS.2.2 (Nat.le_refl _) (Nat.le_refl _)
        refine W.shrink (hz8.trans hz9) ?_
        obtain ⟨fr131, ex131, no131, rs131⟩ := hw131
        exact no131.elim
  · have z134 : pa.toInt = (34 : Int) := eq_z rfl (show (34 : Int32).toInt = (34 : Int) by decide) h1
    refine lv_iconst (v := 1) hx hb dX5_globalItem_14 (by decide) ?_
    refine lv_goto (tgt := 19) hx hb dX5_globalItem_15 (by decide) ?_
    refine lv_istore_n (lv' := [(3, .int 1), (2, .int (v.1 0 377)), (0, .ref (ad 903)), (1, .int pa)]) hx hb dX5_globalItem_19 rfl hl (by decide) rfl (fun ls hl => ?_)
    refine lv_iload_n hx hb dX5_globalItem_20 rfl (lv_at hl 0 rfl) ?_
    refine lv_if_ne (tgt := 30) hx hb dX5_globalItem_21 (by decide) (fun _ => ?_) (fun k135 => absurd k135 (by decide))
    refine lv_iconst (v := 1) hx hb dX5_globalItem_30 (by decide) ?_
    refine lv_goto (tgt := 35) hx hb dX5_globalItem_31 (by decide) ?_
    refine lv_istore (lv' := [(4, .int 1), (3, .int 1), (2, .int (v.1 0 377)), (0, .ref (ad 903)), (1, .int pa)]) hx hb dX5_globalItem_35 hl (by decide) rfl (fun ls hl => ?_)
    refine lv_iload hx hb dX5_globalItem_37 (lv_at hl 0 rfl) ?_
    refine lv_if_eq (tgt := 63) hx hb dX5_globalItem_39 (by decide) (fun k136 => absurd k136 (by decide)) (fun _ => ?_)
    refine lv_iload_n hx hb dX5_globalItem_42 rfl (lv_at hl 2 rfl) ?_
    refine lv_bipush (v := 60) hx hb dX5_globalItem_43 (by decide) ?_
    refine lv_icmp_lt (tgt := 63) hx hb dX5_globalItem_45 (by decide) (fun h137 => ?_) (fun h137 => ?_)
    · have z138 : (v.1 0 377).toInt < (60 : Int) := lt_z rfl (show (60 : Int32).toInt = (60 : Int) by decide) h137
      refine lv_aload_n hx hb dX5_globalItem_63 rfl (lv_at hl 3 rfl) ?_
      refine va_get (D := (dC, dI)) (ci := 8) (fs := oF_X5 ad pr v) (v := .ref (pr (v.1 0 327))) (C := RX5) (T := TX5) (N := 7) hx hb ht itX5 hown hK hP 3 rfl rfl 0 (by decide) (ht _ tw_588) (fun _ h9 => h9) rfl dX5_globalItem_64 ?_
      refine lv_iload_n hx hb dX5_globalItem_67 rfl (lv_at hl 2 rfl) ?_
      refine lv_iconst (v := 4) hx hb dX5_globalItem_68 (by decide) ?_
      refine lv_aload_n hx hb dX5_globalItem_69 rfl (lv_at hl 3 rfl) ?_
      refine va_get (D := (dC, dI)) (ci := 8) (fs := oF_X5 ad pr v) (v := .ref (ad 900)) (C := RX5) (T := TX5) (N := 7) hx hb ht itX5 hown hK hP 3 rfl rfl 1 (by decide) (ht _ tw_571) (fun _ h9 => h9) rfl dX5_globalItem_70 ?_
      refine cu_i (rn_Vk (n := 0) (As := []) (rest := [.int 4, .int (v.1 0 377), .ref (pr (v.1 0 327))]) hx hb hml hown ht hKK hFx hP hD hS hA (c_x_X9_value l dC dI cI cB cZ cJ cR tb s.heap.size ad pr N L1 L2 v  (show 0 ≤ (v.1 0 304).toInt ∧ (v.1 0 304).toInt ≤ 1503 from (om_c99648273b z304)) (show 0 ≤ (v.1 0 305).toInt ∧ (v.1 0 305).toInt ≤ 1500 from (om_7897b4ccef z305))) tw_535 tw_574 (by decide +kernel) rfl rfl ⟨Nat.le_of_ble_eq_true rfl, Nat.le_of_ble_eq_true rfl⟩ (List.range (cW ad pr N cI cR L1 L2 v).length) (rg_map _) (nd_range _) 0 rfl rfl rfl rfl hl.1 rfl (Nat.le_of_ble_eq_true rfl) dX5_globalItem_73 ⟨Nat.le_of_ble_eq_true rfl, Nat.le_of_ble_eq_true rfl⟩) hP hD hS hA (fun r141 u140 H locs hw139 hP hD hS => ?_)
      obtain ⟨rfl, ex139⟩ := hw139
      refine W.widen (k := 0) (n := 0) (Nat.le_refl _) (Nat.le_refl _) ?_
      refine W.eq (g2 := F0 m 76 ls [.int r141, .int 4, .int (v.1 0 377), .ref (ad 908)]) (by rw [show pr (v.1 0 327) = (ad 908) from (by rw [show (v.1 0 327) = ps from es327]; exact hps)]) ?_
      refine cu_v (rn_Vk (n := 3) (As := [.int (v.1 0 377), .int 4, .int r141]) (rest := []) hx hb hml hown ht hKK hFx hP hD hS hA (c_x_X7_changeGlobal l dC dI cI cB cZ cJ cR tb H.size ad pr N L1 L2 v (v.1 0 377) (4 : Int32) r141 (show L1.length = 40 from hL1) (show L2.length = 60 from hL2) (show RP v from rp) (show (4 : Int) ≠ 0 ∨ r141.toInt ≤ 1000 from om_24e1f2eced)) tw_599 tw_600 (by decide +kernel) rfl rfl ⟨Nat.le_of_ble_eq_true rfl, Nat.le_of_ble_eq_true rfl⟩ (List.range (cW ad pr N cI cR L1 L2 v).length) (rg_map _) (nd_range _) 8 rfl rfl rfl rfl hl.1 rfl (Nat.le_of_ble_eq_true rfl) dX5_globalItem_76 ⟨Nat.le_of_ble_eq_true rfl, Nat.le_of_ble_eq_true rfl⟩) hP hD hS hA (fun u143 H locs hw142 hP hD hS => ?_)
      obtain ⟨fr142, ex142⟩ := hw142
      refine W.widen (k := 0) (n := 0) (Nat.le_refl _) (Nat.le_refl _) ?_
      refine lv_aload_n hx hb dX5_globalItem_79 rfl (lv_at hl 3 rfl) ?_
      refine va_get (D := (dC, dI)) (ci := 8) (fs := oF_X5 ad pr u143) (v := .ref (pr (u143.1 0 327))) (C := RX5) (T := TX5) (N := 7) hx hb ht itX5 hown hK hP 3 rfl rfl 0 (by decide) (ht _ tw_588) (fun _ h9 => h9) rfl dX5_globalItem_80 ?_
      refine lv_iload_n hx hb dX5_globalItem_83 rfl (lv_at hl 2 rfl) ?_
      refine lv_iconst (v := 3) hx hb dX5_globalItem_84 (by decide) ?_
      refine lv_aload_n hx hb dX5_globalItem_85 rfl (lv_at hl 3 rfl) ?_
      refine va_get (D := (dC, dI)) (ci := 8) (fs := oF_X5 ad pr u143) (v := .ref (ad 900)) (C := RX5) (T := TX5) (N := 7) hx hb ht itX5 hown hK hP 3 rfl rfl 1 (by decide) (ht _ tw_571) (fun _ h9 => h9) rfl dX5_globalItem_86 ?_
      have q145 : (u143.1 0 304).toInt = (v.1 0 304).toInt := congrArg Int32.toInt ((fr142.2.1 304 (by decide)).trans (show v.1 0 304 = (v.1 0 304) by rfl))
      have q146 : (u143.1 0 305).toInt = (v.1 0 305).toInt := congrArg Int32.toInt ((fr142.2.1 305 (by decide)).trans (show v.1 0 305 = (v.1 0 305) by rfl))
      have q147 : (u143.1 0 373).toInt = (v.1 0 373).toInt := congrArg Int32.toInt ((fr142.2.1 373 (by decide)).trans (show v.1 0 373 = (v.1 0 373) by rfl))
      refine cu_i (rn_Vk (n := 0) (As := []) (rest := [.int 3, .int (v.1 0 377), .ref (pr (u143.1 0 327))]) hx hb hml hown ht hKK hFx hP hD hS hA (c_x_X9_place l dC dI cI cB cZ cJ cR tb H.size ad pr N L1 L2 u143 ps (show 0 ≤ (u143.1 0 304).toInt ∧ (u143.1 0 304).toInt ≤ 1503 from (om_73002589c1 z304 q145)) (show 0 ≤ (u143.1 0 305).toInt ∧ (u143.1 0 305).toInt ≤ 1500 from (om_c93ca3468d z305 q146)) (show 0 ≤ (u143.1 0 373).toInt ∧ (u143.1 0 373).toInt ≤ 4000 from (om_9084c127ed z373 q147)) (show pr ps = ad 908 from hps) (show (u143.1 0 300) = ps from (Eq.trans (fr142.2.1 300 (by decide)) es300))) tw_457 tw_577 (by decide +kernel) rfl rfl ⟨Nat.le_of_ble_eq_true rfl, Nat.le_of_ble_eq_true rfl⟩ (List.range (cW ad pr N cI cR L1 L2 u143).length) (rg_map _) (nd_range _) 0 rfl rfl rfl rfl hl.1 rfl (Nat.le_of_ble_eq_true rfl) dX5_globalItem_89 ⟨Nat.le_of_ble_eq_true rfl, Nat.le_of_ble_eq_true rfl⟩) hP hD hS hA (fun r150 u149 H locs hw148 hP hD hS => ?_)
      obtain ⟨rfl, ex148⟩ := hw148
      refine W.widen (k := 0) (n := 0) (Nat.le_refl _) (Nat.le_refl _) ?_
      refine W.eq (g2 := F0 m 92 ls [.int r150, .int 3, .int (v.1 0 377), .ref (ad 908)]) (by rw [show pr (u143.1 0 327) = (ad 908) from (by rw [show (u143.1 0 327) = ps from (Eq.trans (fr142.2.1 327 (by decide)) es327)]; exact hps)]) ?_
      refine cu_v (rn_Vk (n := 3) (As := [.int (v.1 0 377), .int 3, .int r150]) (rest := []) hx hb hml hown ht hKK hFx hP hD hS hA (c_x_X7_changeGlobal l dC dI cI cB cZ cJ cR tb H.size ad pr N L1 L2 u143 (v.1 0 377) (3 : Int32) r150 (show L1.length = 40 from hL1) (show L2.length = 60 from hL2) (show RP u143 from ((show FC [305, 306, 377] [0] v u143 from (FC.tr (FC.rf _) (FC.up fr142 (by decide) (by decide)))).1 rp)) (show (3 : Int) ≠ 0 ∨ r150.toInt ≤ 1000 from om_4550d86e9b)) tw_599 tw_600 (by decide +kernel) rfl rfl ⟨Nat.le_of_ble_eq_true rfl, Nat.le_of_ble_eq_true rfl⟩ (List.range (cW ad pr N cI cR L1 L2 u143).length) (rg_map _) (nd_range _) 8 rfl rfl rfl rfl hl.1 rfl (Nat.le_of_ble_eq_true rfl) dX5_globalItem_92 ⟨Nat.le_of_ble_eq_true rfl, Nat.le_of_ble_eq_true rfl⟩) hP hD hS hA (fun u152 H locs hw151 hP hD hS => ?_)
      obtain ⟨fr151, ex151⟩ := hw151
      refine W.widen (k := 0) (n := 0) (Nat.le_refl _) (Nat.le_refl _) ?_
      refine lv_aload_n hx hb dX5_globalItem_95 rfl (lv_at hl 3 rfl) ?_
      refine va_get (D := (dC, dI)) (ci := 8) (fs := oF_X5 ad pr u152) (v := .ref (ad 900)) (C := RX5) (T := TX5) (N := 7) hx hb ht itX5 hown hK hP 3 rfl rfl 1 (by decide) (ht _ tw_571) (fun _ h9 => h9) rfl dX5_globalItem_96 ?_
      have q154 : (u152.1 0 304).toInt = (u143.1 0 304).toInt := congrArg Int32.toInt ((fr151.2.1 304 (by decide)).trans (show u143.1 0 304 = (u143.1 0 304) by rfl))
      have q155 : (u152.1 0 305).toInt = (u143.1 0 305).toInt := congrArg Int32.toInt ((fr151.2.1 305 (by decide)).trans (show u143.1 0 305 = (u143.1 0 305) by rfl))
      have q156 : (u152.1 0 373).toInt = (u143.1 0 373).toInt := congrArg Int32.toInt ((fr151.2.1 373 (by decide)).trans (show u143.1 0 373 = (u143.1 0 373) by rfl))
      refine W.sz (fun hz9 => ?_)
      refine czx_v (rx_Vk (n := 0) (As := []) (rest := []) hx hb hml hown ht hKK hFx hP hD hS hA (c_x_X9_take l dC dI cI cB cZ cJ cR tb H.size ad pr N L1 L2 u152 ps (show 0 ≤ (u152.1 0 304).toInt ∧ (u152.1 0 304).toInt ≤ 1503 from (om_dd87ee851a z304 q145 q154)) (show 0 ≤ (u152.1 0 305).toInt ∧ (u152.1 0 305).toInt ≤ 1500 from (om_15548f2e10 z305 q146 q155)) (show 0 ≤ (u152.1 0 373).toInt ∧ (u152.1 0 373).toInt ≤ 4000 from (om_03cd8767ac z373 q147 q156)) (show pr ps = ad 908 from hps) (show (u152.1 0 300) = ps from (Eq.trans (fr151.2.1 300 (by decide)) (Eq.trans (fr142.2.1 300 (by decide)) es300))) (show l.stackTraces = false from hst)) tw_539 tw_585 (by decide +kernel) rfl rfl ⟨Nat.le_of_ble_eq_true rfl, Nat.le_of_ble_eq_true rfl⟩ (List.range (cW ad pr N cI cR L1 L2 u152).length) (rg_map _) (nd_range _) 0 rfl rfl rfl rfl hl.1 rfl (Nat.le_of_ble_eq_true rfl) dX5_globalItem_99 ⟨Nat.le_of_ble_eq_true rfl, Nat.le_of_ble_eq_true rfl⟩) hP hD hS hA (fun u9 ce9 q9 H locs hx9 hP hD hS hc9 hv9 hf9 => ?_) (fun u158 H locs hw157 hP hD hS hz8 => ?_)
      · exact vx_out (fun x h9 => (hnt x h9).elim) hlocks hc9 hv9 hf9 (fun t9 ht9 hv8 => ⟨u9, ⟨FC.tr (FC.tr (FC.tr (FC.rf _) (FC.up fr142 (by decide) (by decide))) (FC.up fr151 (by decide) (by decide))) hx9.1, hx9.2.1, ⟨z304, z305, z306, z326, z373, z381, zd, (Or.inr (⟨z134, (Or.inl ⟨z138, r141, ex139, u143, ex142, fr142, r150, ex148, u152, ex151, fr151, (Or.inl ⟨u9, hx9.2.2, rfl, rfl⟩)⟩)⟩))⟩⟩, ⟨rfl, by rw [ht9]; exact hP, hD⟩, hS.F ht9⟩) hS.2.2 (Nat.le_refl _) (Nat.le_refl _)
      refine W.shrink (hz8.trans hz9) ?_
      obtain ⟨fr157, ex157, i305157, pt157, rs157⟩ := hw157
      have i305157 : 0 ≤ (u158.1 0 305).toInt ∧ (u158.1 0 305).toInt ≤ 1500 := i305157
      have pt157 : (u158.1 0 305).toInt = (u152.1 0 305).toInt + 1 := pt157
      have rs157 : RS u152 u158 := rs157
      refine lv_aload_n hx hb dX5_globalItem_102 rfl (lv_at hl 3 rfl) ?_
      refine va_get (D := (dC, dI)) (ci := 8) (fs := oF_X5 ad pr u158) (v := .ref (pr (u158.1 0 327))) (C := RX5) (T := TX5) (N := 7) hx hb ht itX5 hown hK hP 3 rfl rfl 0 (by decide) (ht _ tw_588) (fun _ h9 => h9) rfl dX5_globalItem_103 ?_
      refine lv_iload_n hx hb dX5_globalItem_106 rfl (lv_at hl 2 rfl) ?_
      refine lv_iconst (v := 2) hx hb dX5_globalItem_107 (by decide) ?_
      refine lv_iload_n hx hb dX5_globalItem_108 rfl (lv_at hl 1 rfl) ?_
      refine lv_if_eq (tgt := 116) hx hb dX5_globalItem_109 (by decide) (fun k160 => absurd k160 (by decide)) (fun _ => ?_)
      refine lv_iconst (v := 1) hx hb dX5_globalItem_112 (by decide) ?_
      refine lv_goto (tgt := 117) hx hb dX5_globalItem_113 (by decide) ?_
      refine W.eq (g2 := F0 m 117 ls [.int 1, .int 2, .int (v.1 0 377), .ref (ad 908)]) (by rw [show pr (u158.1 0 327) = (ad 908) from (by rw [show (u158.1 0 327) = ps from (Eq.trans (fr157.2.1 327 (by decide)) (Eq.trans (fr151.2.1 327 (by decide)) (Eq.trans (fr142.2.1 327 (by decide)) es327)))]; exact hps)]) ?_
      refine cu_v (rn_Vk (n := 3) (As := [.int (v.1 0 377), .int 2, .int 1]) (rest := []) hx hb hml hown ht hKK hFx hP hD hS hA (c_x_X7_changeGlobal l dC dI cI cB cZ cJ cR tb H.size ad pr N L1 L2 u158 (v.1 0 377) (2 : Int32) (1 : Int32) (show L1.length = 40 from hL1) (show L2.length = 60 from hL2) (show RP u158 from ((show FC [305, 306, 377] [0] v u158 from (FC.tr (FC.tr (FC.tr (FC.rf _) (FC.up fr142 (by decide) (by decide))) (FC.up fr151 (by decide) (by decide))) (FC.up fr157 (by decide) (by decide)))).1 rp)) (show (2 : Int) ≠ 0 ∨ (1 : Int) ≤ 1000 from om_df9b2185da)) tw_599 tw_600 (by decide +kernel) rfl rfl ⟨Nat.le_of_ble_eq_true rfl, Nat.le_of_ble_eq_true rfl⟩ (List.range (cW ad pr N cI cR L1 L2 u158).length) (rg_map _) (nd_range _) 8 rfl rfl rfl rfl hl.1 rfl (Nat.le_of_ble_eq_true rfl) dX5_globalItem_117 ⟨Nat.le_of_ble_eq_true rfl, Nat.le_of_ble_eq_true rfl⟩) hP hD hS hA (fun u162 H locs hw161 hP hD hS => ?_)
      obtain ⟨fr161, ex161⟩ := hw161
      refine W.widen (k := 0) (n := 0) (Nat.le_refl _) (Nat.le_refl _) ?_
      refine lv_aload_n hx hb dX5_globalItem_120 rfl (lv_at hl 3 rfl) ?_
      refine va_get (D := (dC, dI)) (ci := 8) (fs := oF_X5 ad pr u162) (v := .ref (pr (u162.1 0 327))) (C := RX5) (T := TX5) (N := 7) hx hb ht itX5 hown hK hP 3 rfl rfl 0 (by decide) (ht _ tw_588) (fun _ h9 => h9) rfl dX5_globalItem_121 ?_
      refine lv_iload_n hx hb dX5_globalItem_124 rfl (lv_at hl 2 rfl) ?_
      refine lv_iconst (v := 0) hx hb dX5_globalItem_125 (by decide) ?_
      refine lv_iload_n hx hb dX5_globalItem_126 rfl (lv_at hl 1 rfl) ?_
      refine lv_if_eq (tgt := 137) hx hb dX5_globalItem_127 (by decide) (fun k164 => absurd k164 (by decide)) (fun _ => ?_)
      refine lv_aload_n hx hb dX5_globalItem_130 rfl (lv_at hl 3 rfl) ?_
      have q165 : (u158.1 0 304).toInt = (u152.1 0 304).toInt := congrArg Int32.toInt ((fr157.2.1 304 (by decide)).trans (show u152.1 0 304 = (u152.1 0 304) by rfl))
      have q166 : (u162.1 0 304).toInt = (u158.1 0 304).toInt := congrArg Int32.toInt ((fr161.2.1 304 (by decide)).trans (show u158.1 0 304 = (u158.1 0 304) by rfl))
      have q167 : (u162.1 0 305).toInt = (u158.1 0 305).toInt := congrArg Int32.toInt ((fr161.2.1 305 (by decide)).trans (show u158.1 0 305 = (u158.1 0 305) by rfl))
      have q168 : (u143.1 0 306).toInt = (v.1 0 306).toInt := congrArg Int32.toInt ((fr142.2.1 306 (by decide)).trans (show v.1 0 306 = (v.1 0 306) by rfl))
      have q169 : (u152.1 0 306).toInt = (u143.1 0 306).toInt := congrArg Int32.toInt ((fr151.2.1 306 (by decide)).trans (show u143.1 0 306 = (u143.1 0 306) by rfl))
      have q170 : (u158.1 0 306).toInt = (u152.1 0 306).toInt := congrArg Int32.toInt ((fr157.2.1 306 (by decide)).trans (show u152.1 0 306 = (u152.1 0 306) by rfl))
      have q171 : (u162.1 0 306).toInt = (u158.1 0 306).toInt := congrArg Int32.toInt ((fr161.2.1 306 (by decide)).trans (show u158.1 0 306 = (u158.1 0 306) by rfl))
      have q172 : (u143.1 0 326).toInt = (v.1 0 326).toInt := congrArg Int32.toInt ((fr142.2.1 326 (by decide)).trans (show v.1 0 326 = (v.1 0 326) by rfl))
      have q173 : (u152.1 0 326).toInt = (u143.1 0 326).toInt := congrArg Int32.toInt ((fr151.2.1 326 (by decide)).trans (show u143.1 0 326 = (u143.1 0 326) by rfl))
      have q174 : (u158.1 0 326).toInt = (u152.1 0 326).toInt := congrArg Int32.toInt ((fr157.2.1 326 (by decide)).trans (show u152.1 0 326 = (u152.1 0 326) by rfl))
      have q175 : (u162.1 0 326).toInt = (u158.1 0 326).toInt := congrArg Int32.toInt ((fr161.2.1 326 (by decide)).trans (show u158.1 0 326 = (u158.1 0 326) by rfl))
      have q176 : (u158.1 0 373).toInt = (u152.1 0 373).toInt := congrArg Int32.toInt ((fr157.2.1 373 (by decide)).trans (show u152.1 0 373 = (u152.1 0 373) by rfl))
      have q177 : (u162.1 0 373).toInt = (u158.1 0 373).toInt := congrArg Int32.toInt ((fr161.2.1 373 (by decide)).trans (show u158.1 0 373 = (u158.1 0 373) by rfl))
      have q178 : (u143.1 0 381).toInt = (v.1 0 381).toInt := congrArg Int32.toInt ((fr142.2.1 381 (by decide)).trans (show v.1 0 381 = (v.1 0 381) by rfl))
      have q179 : (u152.1 0 381).toInt = (u143.1 0 381).toInt := congrArg Int32.toInt ((fr151.2.1 381 (by decide)).trans (show u143.1 0 381 = (u143.1 0 381) by rfl))
      have q180 : (u158.1 0 381).toInt = (u152.1 0 381).toInt := congrArg Int32.toInt ((fr157.2.1 381 (by decide)).trans (show u152.1 0 381 = (u152.1 0 381) by rfl))
      have q181 : (u162.1 0 381).toInt = (u158.1 0 381).toInt := congrArg Int32.toInt ((fr161.2.1 381 (by decide)).trans (show u158.1 0 381 = (u158.1 0 381) by rfl))
      refine W.sz (fun hz9 => ?_)
      refine czx_i (rx_Vk (n := 0) (As := []) (rest := [.int 0, .int (v.1 0 377), .ref (pr (u162.1 0 327))]) hx hb hml hown ht hKK hFx hP hD hS hA (c_x_X5_rowSize l dC dI cI cB cZ cJ cR tb H.size ad pr N L1 L2 u162 ps (show 0 ≤ (u162.1 0 304).toInt ∧ (u162.1 0 304).toInt ≤ 1503 from (om_8044691ca6 z304 q145 q154 q165 q166)) (show 0 ≤ (u162.1 0 305).toInt ∧ (u162.1 0 305).toInt ≤ 1500 from (om_c93ca3468d i305157 q167)) (show 0 ≤ (u162.1 0 306).toInt ∧ (u162.1 0 306).toInt ≤ 40 from (om_ca678151ea z306 q168 q169 q170 q171)) (show 0 ≤ (u162.1 0 326).toInt ∧ (u162.1 0 326).toInt ≤ 420 from (om_73f5be2f84 z326 q172 q173 q174 q175)) (show 0 ≤ (u162.1 0 373).toInt ∧ (u162.1 0 373).toInt ≤ 4000 from (om_fdcbb58227 z373 q147 q156 q176 q177)) (show 0 ≤ (u162.1 0 381).toInt ∧ (u162.1 0 381).toInt ≤ 3008 from (om_28255ebb1a z305 z326 z381 zd q178 q179 q180 q181)) (show pr ps = ad 908 from hps) (show (u162.1 0 300) = ps from (Eq.trans (fr161.2.1 300 (by decide)) (Eq.trans (fr157.2.1 300 (by decide)) (Eq.trans (fr151.2.1 300 (by decide)) (Eq.trans (fr142.2.1 300 (by decide)) es300))))) (show l.stackTraces = false from hst) (show (u162.1 0 381).toInt + (u162.1 0 326).toInt - 2 * (u162.1 0 305).toInt ≤ 0 from (om_d3b245f864 zd q146 q172 q178 q155 q173 q179 q174 q180 pt157 q167 q175 q181))) tw_601 tw_602 (by decide +kernel) rfl rfl ⟨Nat.le_of_ble_eq_true rfl, Nat.le_of_ble_eq_true rfl⟩ (List.range (cW ad pr N cI cR L1 L2 u162).length) (rg_map _) (nd_range _) 3 rfl rfl rfl rfl hl.1 rfl (Nat.le_of_ble_eq_true rfl) dX5_globalItem_131 ⟨Nat.le_of_ble_eq_true rfl, Nat.le_of_ble_eq_true rfl⟩) hP hD hS hA (fun u9 ce9 q9 H locs hx9 hP hD hS hc9 hv9 hf9 => ?_) (fun r184 u183 H locs hw182 hP hD hS hz8 => ?_)
      · exact vx_out (fun x h9 => (hnt x h9).elim) hlocks hc9 hv9 hf9 (fun t9 ht9 hv8 => ⟨u9, ⟨FC.tr (FC.tr (FC.tr (FC.tr (FC.tr (FC.rf _) (FC.up fr142 (by decide) (by decide))) (FC.up fr151 (by decide) (by decide))) (FC.up fr157 (by decide) (by decide))) (FC.up fr161 (by decide) (by decide))) hx9.1, hx9.2.1, ⟨z304, z305, z306, z326, z373, z381, zd, (Or.inr (⟨z134, (Or.inl ⟨z138, r141, ex139, u143, ex142, fr142, r150, ex148, u152, ex151, fr151, (Or.inr (⟨u158, ex157, ⟨fr157, i305157, pt157, rs157⟩, u162, ex161, fr161, (Or.inl ⟨u9, hx9.2.2, rfl, rfl⟩)⟩))⟩)⟩))⟩⟩, ⟨rfl, by rw [ht9]; exact hP, hD⟩, hS.F ht9⟩) hS.2.2 (Nat.le_refl _) (Nat.le_refl _)
      refine W.shrink (hz8.trans hz9) ?_
      obtain ⟨fr182, ex182, i305182, i306182, pr9182, pd182, pt182, po182, rs182⟩ := hw182
      have i305182 : 0 ≤ (u183.1 0 305).toInt ∧ (u183.1 0 305).toInt ≤ 1500 := i305182
      have i306182 : 0 ≤ (u183.1 0 306).toInt ∧ (u183.1 0 306).toInt ≤ 40 := i306182
      have pr9182 : 1 ≤ r184.toInt ∧ r184.toInt ≤ 1000 := pr9182
      have pd182 : (u183.1 0 381).toInt + (u183.1 0 326).toInt - 2 * (u183.1 0 305).toInt + (6) ≤ (u162.1 0 381).toInt + (u162.1 0 326).toInt - 2 * (u162.1 0 305).toInt := pd182
      have pt182 : (u162.1 0 305).toInt + 3 ≤ (u183.1 0 305).toInt := pt182
      have po182 : (u183.1 0 306).toInt = (u162.1 0 306).toInt := po182
      have rs182 : RS u162 u183 := rs182
      refine lv_goto (tgt := 138) hx hb dX5_globalItem_134 (by decide) ?_
      refine W.eq (g2 := F0 m 138 ls [.int r184, .int 0, .int (v.1 0 377), .ref (ad 908)]) (by rw [show pr (u162.1 0 327) = (ad 908) from (by rw [show (u162.1 0 327) = ps from (Eq.trans (fr161.2.1 327 (by decide)) (Eq.trans (fr157.2.1 327 (by decide)) (Eq.trans (fr151.2.1 327 (by decide)) (Eq.trans (fr142.2.1 327 (by decide)) es327))))]; exact hps)]) ?_
      refine cu_v (rn_Vk (n := 3) (As := [.int (v.1 0 377), .int 0, .int r184]) (rest := []) hx hb hml hown ht hKK hFx hP hD hS hA (c_x_X7_changeGlobal l dC dI cI cB cZ cJ cR tb H.size ad pr N L1 L2 u183 (v.1 0 377) (0 : Int32) r184 (show L1.length = 40 from hL1) (show L2.length = 60 from hL2) (show RP u183 from ((show FC [305, 306, 377] [0] v u183 from (FC.tr (FC.tr (FC.tr (FC.tr (FC.tr (FC.rf _) (FC.up fr142 (by decide) (by decide))) (FC.up fr151 (by decide) (by decide))) (FC.up fr157 (by decide) (by decide))) (FC.up fr161 (by decide) (by decide))) (FC.up fr182 (by decide) (by decide)))).1 rp)) (show (0 : Int) ≠ 0 ∨ r184.toInt ≤ 1000 from (om_ffc4732c03 pr9182))) tw_599 tw_600 (by decide +kernel) rfl rfl ⟨Nat.le_of_ble_eq_true rfl, Nat.le_of_ble_eq_true rfl⟩ (List.range (cW ad pr N cI cR L1 L2 u183).length) (rg_map _) (nd_range _) 8 rfl rfl rfl rfl hl.1 rfl (Nat.le_of_ble_eq_true rfl) dX5_globalItem_138 ⟨Nat.le_of_ble_eq_true rfl, Nat.le_of_ble_eq_true rfl⟩) hP hD hS hA (fun u186 H locs hw185 hP hD hS => ?_)
      obtain ⟨fr185, ex185⟩ := hw185
      refine W.widen (k := 0) (n := 0) (Nat.le_refl _) (Nat.le_refl _) ?_
      refine lv_aload_n hx hb dX5_globalItem_141 rfl (lv_at hl 3 rfl) ?_
      refine va_get (D := (dC, dI)) (ci := 8) (fs := oF_X5 ad pr u186) (v := .ref (ad 900)) (C := RX5) (T := TX5) (N := 7) hx hb ht itX5 hown hK hP 3 rfl rfl 1 (by decide) (ht _ tw_571) (fun _ h9 => h9) rfl dX5_globalItem_142 ?_
      refine lv_bipush (v := 36) hx hb dX5_globalItem_145 (by decide) ?_
      have q188 : (u183.1 0 304).toInt = (u162.1 0 304).toInt := congrArg Int32.toInt ((fr182.2.1 304 (by decide)).trans (show u162.1 0 304 = (u162.1 0 304) by rfl))
      have q189 : (u186.1 0 304).toInt = (u183.1 0 304).toInt := congrArg Int32.toInt ((fr185.2.1 304 (by decide)).trans (show u183.1 0 304 = (u183.1 0 304) by rfl))
      have q190 : (u186.1 0 305).toInt = (u183.1 0 305).toInt := congrArg Int32.toInt ((fr185.2.1 305 (by decide)).trans (show u183.1 0 305 = (u183.1 0 305) by rfl))
      have q191 : (u183.1 0 373).toInt = (u162.1 0 373).toInt := congrArg Int32.toInt ((fr182.2.1 373 (by decide)).trans (show u162.1 0 373 = (u162.1 0 373) by rfl))
      have q192 : (u186.1 0 373).toInt = (u183.1 0 373).toInt := congrArg Int32.toInt ((fr185.2.1 373 (by decide)).trans (show u183.1 0 373 = (u183.1 0 373) by rfl))
      refine W.sz (fun hz9 => ?_)
      refine czx_v (rx_Vk (n := 1) (As := [.int 36]) (rest := []) hx hb hml hown ht hKK hFx hP hD hS hA (c_x_X9_expect l dC dI cI cB cZ cJ cR tb H.size ad pr N L1 L2 u186 (36 : Int32) ps (show 0 ≤ (u186.1 0 304).toInt ∧ (u186.1 0 304).toInt ≤ 1503 from (om_1a945f4049 z304 q145 q154 q165 q166 q188 q189)) (show 0 ≤ (u186.1 0 305).toInt ∧ (u186.1 0 305).toInt ≤ 1500 from (om_c64f374c9c i305157 q167 i305182 pt182 q190)) (show 0 ≤ (u186.1 0 373).toInt ∧ (u186.1 0 373).toInt ≤ 4000 from (om_1de556205c z373 q147 q156 q176 q177 q191 q192)) (show pr ps = ad 908 from hps) (show (u186.1 0 300) = ps from (Eq.trans (fr185.2.1 300 (by decide)) (Eq.trans (fr182.2.1 300 (by decide)) (Eq.trans (fr161.2.1 300 (by decide)) (Eq.trans (fr157.2.1 300 (by decide)) (Eq.trans (fr151.2.1 300 (by decide)) (Eq.trans (fr142.2.1 300 (by decide)) es300))))))) (show l.stackTraces = false from hst)) tw_526 tw_580 (by decide +kernel) rfl rfl ⟨Nat.le_of_ble_eq_true rfl, Nat.le_of_ble_eq_true rfl⟩ (List.range (cW ad pr N cI cR L1 L2 u186).length) (rg_map _) (nd_range _) 0 rfl rfl rfl rfl hl.1 rfl (Nat.le_of_ble_eq_true rfl) dX5_globalItem_147 ⟨Nat.le_of_ble_eq_true rfl, Nat.le_of_ble_eq_true rfl⟩) hP hD hS hA (fun u9 ce9 q9 H locs hx9 hP hD hS hc9 hv9 hf9 => ?_) (fun u194 H locs hw193 hP hD hS hz8 => ?_)
      · exact vx_out (fun x h9 => (hnt x h9).elim) hlocks hc9 hv9 hf9 (fun t9 ht9 hv8 => ⟨u9, ⟨FC.tr (FC.tr (FC.tr (FC.tr (FC.tr (FC.tr (FC.tr (FC.rf _) (FC.up fr142 (by decide) (by decide))) (FC.up fr151 (by decide) (by decide))) (FC.up fr157 (by decide) (by decide))) (FC.up fr161 (by decide) (by decide))) (FC.up fr182 (by decide) (by decide))) (FC.up fr185 (by decide) (by decide))) hx9.1, hx9.2.1, ⟨z304, z305, z306, z326, z373, z381, zd, (Or.inr (⟨z134, (Or.inl ⟨z138, r141, ex139, u143, ex142, fr142, r150, ex148, u152, ex151, fr151, (Or.inr (⟨u158, ex157, ⟨fr157, i305157, pt157, rs157⟩, u162, ex161, fr161, (Or.inr (⟨r184, u183, ex182, ⟨fr182, i305182, i306182, pr9182, pd182, pt182, po182, rs182⟩, u186, ex185, fr185, (Or.inl ⟨u9, hx9.2.2, rfl, rfl⟩)⟩))⟩))⟩)⟩))⟩⟩, ⟨rfl, by rw [ht9]; exact hP, hD⟩, hS.F ht9⟩) hS.2.2 (Nat.le_refl _) (Nat.le_refl _)
      refine W.shrink (hz8.trans hz9) ?_
      obtain ⟨fr193, ex193, i305193, pt193, rs193⟩ := hw193
      have i305193 : 0 ≤ (u194.1 0 305).toInt ∧ (u194.1 0 305).toInt ≤ 1500 := i305193
      have pt193 : (u194.1 0 305).toInt = (u186.1 0 305).toInt + 1 := pt193
      have rs193 : RS u186 u194 := rs193
      refine lv_aload_n hx hb dX5_globalItem_150 rfl (lv_at hl 3 rfl) ?_
      refine va_get (D := (dC, dI)) (ci := 8) (fs := oF_X5 ad pr u194) (v := .ref (pr (u194.1 0 327))) (C := RX5) (T := TX5) (N := 7) hx hb ht itX5 hown hK hP 3 rfl rfl 0 (by decide) (ht _ tw_588) (fun _ h9 => h9) rfl dX5_globalItem_151 ?_
      refine lv_iload_n hx hb dX5_globalItem_154 rfl (lv_at hl 2 rfl) ?_
      refine lv_iconst (v := 1) hx hb dX5_globalItem_155 (by decide) ?_
      refine lv_iadd hx hb dX5_globalItem_156 ?_
      refine W.eq (g2 := F0 m 157 ls [.int ((v.1 0 377) + (1 : Int32)), .ref (ad 908)]) (by rw [show pr (u194.1 0 327) = (ad 908) from (by rw [show (u194.1 0 327) = ps from (Eq.trans (fr193.2.1 327 (by decide)) (Eq.trans (fr185.2.1 327 (by decide)) (Eq.trans (fr182.2.1 327 (by decide)) (Eq.trans (fr161.2.1 327 (by decide)) (Eq.trans (fr157.2.1 327 (by decide)) (Eq.trans (fr151.2.1 327 (by decide)) (Eq.trans (fr142.2.1 327 (by decide)) es327)))))))]; exact hps)]) ?_
      refine va_put (D := (dC, dI)) (ci := 10) (fs := oF_X7 ad pr u194) (v := .int ((v.1 0 377) + (1 : Int32))) (ty := .int) (C := RX7) (T := TX7) (N := 13) hx hb ht itX7 tyX7 tyX7_ok nmX7 hown hK hP hD hS 8 rfl rfl 5 (by decide) (ht _ tw_598) (fun _ h9 => h9) rfl (by decide +kernel) rfl rfl (Nat.le_of_ble_eq_true rfl) dX5_globalItem_157 (fun H locs hP hD hS => ?_)
      have hP := cP_ (cw_377 ad pr N cI cR L1 L2 u194 ((v.1 0 377) + (1 : Int32))) hP
      have hD := cD_ (cw_377 ad pr N cI cR L1 L2 u194 ((v.1 0 377) + (1 : Int32))) hD
      have q196 : (u186.1 0 306).toInt = (u183.1 0 306).toInt := congrArg Int32.toInt ((fr185.2.1 306 (by decide)).trans (show u183.1 0 306 = (u183.1 0 306) by rfl))
      have q197 : (u194.1 0 306).toInt = (u186.1 0 306).toInt := congrArg Int32.toInt ((fr193.2.1 306 (by decide)).trans (show u186.1 0 306 = (u186.1 0 306) by rfl))
      have q198 : (u186.1 0 326).toInt = (u183.1 0 326).toInt := congrArg Int32.toInt ((fr185.2.1 326 (by decide)).trans (show u183.1 0 326 = (u183.1 0 326) by rfl))
      have q199 : (u186.1 0 381).toInt = (u183.1 0 381).toInt := congrArg Int32.toInt ((fr185.2.1 381 (by decide)).trans (show u183.1 0 381 = (u183.1 0 381) by rfl))
      have q200 : (u194.1 0 326).toInt = (u186.1 0 326).toInt := congrArg Int32.toInt ((fr193.2.1 326 (by decide)).trans (show u186.1 0 326 = (u186.1 0 326) by rfl))
      have q201 : (u194.1 0 381).toInt = (u186.1 0 381).toInt := congrArg Int32.toInt ((fr193.2.1 381 (by decide)).trans (show u186.1 0 381 = (u186.1 0 381) by rfl))
      refine W.sz (fun hz => ?_)
      refine vx_ret ?_
      refine W.widen (k := 1) (n := 6) (Nat.le_of_ble_eq_true rfl) (Nat.le_of_ble_eq_true rfl) ?_
      exact W.vret hx hb hr (fun t ht9 hW => ⟨⟨(wA u194 0 377 ((v.1 0 377) + (1 : Int32))), rfl, ⟨(FC.f (FC.tr (FC.tr (FC.tr (FC.tr (FC.tr (FC.tr (FC.tr (FC.rf _) (FC.up fr142 (by decide) (by decide))) (FC.up fr151 (by decide) (by decide))) (FC.up fr157 (by decide) (by decide))) (FC.up fr161 (by decide) (by decide))) (FC.up fr182 (by decide) (by decide))) (FC.up fr185 (by decide) (by decide))) (FC.up fr193 (by decide) (by decide))) ((v.1 0 377) + (1 : Int32)) (by decide)), ⟨z304, z305, z306, z326, z373, z381, zd, (Or.inr (⟨z134, (Or.inl ⟨z138, r141, ex139, u143, ex142, fr142, r150, ex148, u152, ex151, fr151, (Or.inr (⟨u158, ex157, ⟨fr157, i305157, pt157, rs157⟩, u162, ex161, fr161, (Or.inr (⟨r184, u183, ex182, ⟨fr182, i305182, i306182, pr9182, pd182, pt182, po182, rs182⟩, u186, ex185, fr185, (Or.inr (⟨u194, ex193, ⟨fr193, i305193, pt193, rs193⟩, rfl, rfl⟩))⟩))⟩))⟩)⟩))⟩, (show 0 ≤ (u194.1 0 305).toInt ∧ (u194.1 0 305).toInt ≤ 1500 from (om_e3ebb2953f i305157 q167 pt182 q190 i305193 pt193)), (show 0 ≤ (u194.1 0 306).toInt ∧ (u194.1 0 306).toInt ≤ 40 from (om_68f540929a i306182 q196 q197)), (show (u194.1 0 381).toInt + (u194.1 0 326).toInt - 2 * (u194.1 0 305).toInt + (4) ≤ (v.1 0 381).toInt + (v.1 0 326).toInt - 2 * (v.1 0 305).toInt from (om_ad75ee460c q146 q172 q178 q155 q173 q179 q174 q180 pt157 q167 q175 q181 pd182 q190 q198 q199 q200 q201 pt193)), (show (v.1 0 305).toInt + 2 ≤ (u194.1 0 305).toInt from (om_077c03820e q146 q155 pt157 q167 pt182 q190 pt193))⟩, ⟨by rw [ht9]; exact hP, hD⟩, by rw [ht9]; exact hz⟩, hS.F ht9⟩) hS.2.2 dX5_globalItem_160
    · have z202 : (60 : Int) ≤ (v.1 0 377).toInt := nlt_z rfl (show (60 : Int32).toInt = (60 : Int) by decide) h137
      refine lv_aload_n hx hb dX5_globalItem_48 rfl (lv_at hl 3 rfl) ?_
      refine va_get (D := (dC, dI)) (ci := 8) (fs := oF_X5 ad pr v) (v := .ref (ad 900)) (C := RX5) (T := TX5) (N := 7) hx hb ht itX5 hown hK hP 3 rfl rfl 1 (by decide) (ht _ tw_571) (fun _ h9 => h9) rfl dX5_globalItem_49 ?_
      refine lv_iconst (v := 5) hx hb dX5_globalItem_52 (by decide) ?_
      refine lv_aload_n hx hb dX5_globalItem_53 rfl (lv_at hl 3 rfl) ?_
      refine va_get (D := (dC, dI)) (ci := 8) (fs := oF_X5 ad pr v) (v := .ref (ad 900)) (C := RX5) (T := TX5) (N := 7) hx hb ht itX5 hown hK hP 3 rfl rfl 1 (by decide) (ht _ tw_571) (fun _ h9 => h9) rfl dX5_globalItem_54 ?_
      refine cu_i (rn_Vk (n := 0) (As := []) (rest := [.int 5, .ref (ad 900)]) hx hb hml hown ht hKK hFx hP hD hS hA (c_x_X9_place l dC dI cI cB cZ cJ cR tb s.heap.size ad pr N L1 L2 v ps (show 0 ≤ (v.1 0 304).toInt ∧ (v.1 0 304).toInt ≤ 1503 from (om_c99648273b z304)) (show 0 ≤ (v.1 0 305).toInt ∧ (v.1 0 305).toInt ≤ 1500 from (om_7897b4ccef z305)) (show 0 ≤ (v.1 0 373).toInt ∧ (v.1 0 373).toInt ≤ 4000 from (om_c74a68af25 z373)) (show pr ps = ad 908 from hps) (show (v.1 0 300) = ps from es300)) tw_457 tw_577 (by decide +kernel) rfl rfl ⟨Nat.le_of_ble_eq_true rfl, Nat.le_of_ble_eq_true rfl⟩ (List.range (cW ad pr N cI cR L1 L2 v).length) (rg_map _) (nd_range _) 0 rfl rfl rfl rfl hl.1 rfl (Nat.le_of_ble_eq_true rfl) dX5_globalItem_57 ⟨Nat.le_of_ble_eq_true rfl, Nat.le_of_ble_eq_true rfl⟩) hP hD hS hA (fun r205 u204 H locs hw203 hP hD hS => ?_)
      obtain ⟨rfl, ex203⟩ := hw203
      refine W.widen (k := 0) (n := 0) (Nat.le_refl _) (Nat.le_refl _) ?_
      refine W.sz (fun hz9 => ?_)
      refine czx_v (rx_Vk (n := 2) (As := [.int 5, .int r205]) (rest := []) hx hb hml hown ht hKK hFx hP hD hS hA (c_x_X9_refuse l dC dI cI cB cZ cJ cR tb H.size ad pr N L1 L2 v (5 : Int32) r205 (show l.stackTraces = false from hst) (show (5 : Int) ≠ 0 from om_5e02973d50)) tw_459 tw_578 (by decide +kernel) rfl rfl ⟨Nat.le_of_ble_eq_true rfl, Nat.le_of_ble_eq_true rfl⟩ (List.range (cW ad pr N cI cR L1 L2 v).length) (rg_map _) (nd_range _) 0 rfl rfl rfl rfl hl.1 rfl (Nat.le_of_ble_eq_true rfl) dX5_globalItem_60 ⟨Nat.le_of_ble_eq_true rfl, Nat.le_of_ble_eq_true rfl⟩) hP hD hS hA (fun u9 ce9 q9 H locs hx9 hP hD hS hc9 hv9 hf9 => ?_) (fun u207 H locs hw206 hP hD hS hz8 => ?_)
      · exact vx_out (fun x h9 => (hnt x h9).elim) hlocks hc9 hv9 hf9 (fun t9 ht9 hv8 => ⟨u9, ⟨FC.tr (FC.rf _) hx9.1, hx9.2.1, ⟨z304, z305, z306, z326, z373, z381, zd, (Or.inr (⟨z134, (Or.inr (⟨z202, r205, ex203, u9, hx9.2.2, rfl, rfl⟩))⟩))⟩⟩, ⟨rfl, by rw [ht9]; exact hP, hD⟩, hS.F ht9⟩) hS.2.2 (Nat.le_refl _) (Nat.le_refl _)
      refine W.shrink (hz8.trans hz9) ?_
      obtain ⟨fr206, ex206, no206, rs206⟩ := hw206
      exact no206.elim
theorem om_ffdd4ce25b {x0 x1 x2 : Int} (h0 : 0 ≤ x0 ∧ x0 ≤ 501) (h1 : 0 ≤ x1 ∧ x1 ≤ 501) (h2 : x2 = x0) (h3 : x1 < x2) : 0 ≤ x2 ∧ x2 ≤ 501 := by omega
theorem om_b17aeb9525 {x0 x1 x2 x3 : Int} (h0 : 0 ≤ x0 ∧ x0 ≤ 501) (h1 : 0 ≤ x1 ∧ x1 ≤ 501) (h2 : x2 = x0) (h3 : x1 < x2) (h4 : x3 = x1 + 1) : 0 ≤ x3 ∧ x3 ≤ 501 := by omega
theorem om_fa554d75e6 {x0 x1 : Int} (h0 : x0 = x1 + 1) : 501 - x0 < 501 - x1 := by omega
theorem om_c25a281886 {x0 x1 x2 : Int} (h0 : 0 ≤ x0 ∧ x0 ≤ 501) (h1 : x1 = x0) (h2 : x2 < x1) : 0 < 501 - x2 := by omega
theorem om_c65b99aeeb : (4 : Int) ≠ 0 := by omega
set_option maxHeartbeats 4000000 in
set_option maxRecDepth 100000 in
theorem c_x_X5_checkCalls (l : Launch) (dC : Nat → ClassId) (dI : Nat → Nat → Nat) (cI cB cZ cJ cR : ClassId) (tb : Nat → Nat) (sz : Nat) (ad : Nat → Nat) (pr : Int32 → Nat) (N : Nat) (L1 L2 : List Nat) (v : MS) (ps : Int32) (z321 : 0 ≤ (v.1 0 321).toInt ∧ (v.1 0 321).toInt ≤ 501) (hL1 : L1.length = 40) (hL2 : L2.length = 60) (rp : RP v) (hps : pr ps = ad 908) (es310 : (v.1 0 310) = ps) (hst : l.stackTraces = false) : vx_Met l yX5_checkCalls (Cond.code yX5_checkCalls cX5_checkCalls 2 none :: tw_W) ({ frames := 7, cells := 1, slots := 6, locals := 104 }) (pc_ (dC, dI) (tyS cI cB cZ cJ cR) tb (cW ad pr N cI cR L1 L2 v) sz [.ref (ad 903)]) (qvz_ (dC, dI) (cW ad pr N cI cR L1 L2 v) sz (fun (u : MS) => FC [] [] v u ∧ (Q_x_X5_checkCalls L1 L2 v false u) ∧ (RS v u)) (fun (u : MS) => (cW ad pr N cI cR L1 L2 u))) (qxc (dC, dI) (cW ad pr N cI cR L1 L2 v) sz (fun (u : MS) => (cW ad pr N cI cR L1 L2 u)) (fun (u : MS) => FC xfl xal v u ∧ (u.1 0 308).toInt ≠ 0 ∧ (Q_x_X5_checkCalls L1 L2 v true u))) 1 6 (va_A (cW ad pr N cI cR L1 L2 v) sz) := by
  refine vx_ofW (cc := cX5_checkCalls) (maxL := 2) (ret := none) (by decide) rfl ?_
  intro p e s m args below meth c s₁ B hml hnt hv
  obtain ⟨rfl, hsz, hP, hKK, hD0, hFx⟩ := hv
  have hK := hKK.1
  have hx := B.exec
  have hb := B.bytes
  have hr := B.returns
  have ht : ∀ w ∈ tw_W, w.before _ s = true := fun w h => atoms_spec (ws := Cond.code yX5_checkCalls cX5_checkCalls 2 none :: tw_W) B.pre w (List.mem_cons_of_mem _ h)
  have hown : s.vm.findClass RX5 = some m.cls := findClass_of_methodNamed B.named
  have hlocks := B.notSynchronized
  subst hsz
  unfold qvz_ qxc
  have hD := hD0.self (sz := s.heap.size)
  generalize hAe : va_A (cW ad pr N cI cR L1 L2 v) s.heap.size = A at hD hFx ⊢
  have hA : ∀ q : Nat, s.heap.size ≤ q → A q := fun q h => by rw [← hAe]; exact Or.inr h
  have hS : va_S A s.heap s.heap [] := va_S.rf
  have hl := lv_entry ([.ref (ad 903)]) (n := 2) (Nat.le_of_ble_eq_true rfl)
  rw [lg_entry_eq]
  generalize (lg_sl ([.ref (ad 903)]) ++ List.replicate (2 - (lg_sl ([.ref (ad 903)])).length) Slot.unset).toArray = ls at hl ⊢
  have hl : lv_has ls 2 [(0, .ref (ad 903))] := hl
  refine lv_iconst (v := 0) hx hb dX5_checkCalls_0 (by decide) ?_
  refine lv_istore_n (lv' := [(1, .int 0), (0, .ref (ad 903))]) hx hb dX5_checkCalls_1 rfl hl (by decide) rfl (fun ls hl => ?_)
  refine lpm_ (X := Int32 × MS) (P := (fun (x9 : Int32 × MS) (H : Heap) (locs : List Loc) (ls : Array Slot) => (FC [] [] v x9.2) ∧ (0 ≤ x9.1.toInt ∧ x9.1.toInt ≤ 501) ∧ (RS v x9.2) ∧ (RT (Q_x_X5_checkCalls_L0 L1 L2 v) (0, v) (x9.1, x9.2)) ∧ va_P (dC, dI) vwCl (cW ad pr N cI cR L1 L2 x9.2) H ∧ va_D A (cW ad pr N cI cR L1 L2 x9.2) ∧ va_S A s.heap H locs ∧ lv_has ls 2 [(1, .int x9.1), (0, .ref (ad 903))])) (fun x9 => (501 - x9.1.toInt).toNat) 2 (fun x9 H locs ls hh ih2 => ?_) (0, v) _ _ _ ⟨(show FC [] [] v v from (FC.rf _)), (show 0 ≤ (0 : Int) ∧ (0 : Int) ≤ 501 from om_6f14a58586), (show RS v v from RS.rf), RT.rf, hP, hD, hS, lv_sub hl [0, 1] rfl⟩
  obtain ⟨ka, w2⟩ := x9
  obtain ⟨fwL2, f1L2, rsL2, exL2, hP, hD, hS, hl⟩ := hh
  have fwL2 : FC [] [] v w2 := fwL2
  have f1L2 : 0 ≤ ka.toInt ∧ ka.toInt ≤ 501 := f1L2
  have rsL2 : RS v w2 := rsL2
  have hP : va_P (dC, dI) vwCl (cW ad pr N cI cR L1 L2 w2) H := hP
  have hD : va_D A (cW ad pr N cI cR L1 L2 w2) := hD
  have hl : lv_has ls 2 [(1, .int ka), (0, .ref (ad 903))] := hl
  refine lv_iload_n hx hb dX5_checkCalls_2 rfl (lv_at hl 0 rfl) ?_
  refine lv_aload_n hx hb dX5_checkCalls_3 rfl (lv_at hl 1 rfl) ?_
  refine va_get (D := (dC, dI)) (ci := 8) (fs := oF_X5 ad pr w2) (v := .ref (ad 901)) (C := RX5) (T := TX5) (N := 7) hx hb ht itX5 hown hK hP 3 rfl rfl 2 (by decide) (ht _ tw_573) (fun _ h9 => h9) rfl dX5_checkCalls_4 ?_
  refine va_getN (D := (dC, dI)) (ci := 5) (fs := oF_X1 ad pr w2) (v := .int (w2.1 0 321)) (C := RX1) (T := TX1) (N := 12) hx hb ht itX1 hown hK hP 1 rfl rfl 11 (by decide) (hKK.fl2 7 rfl) (fun _ h9 => h9) rfl dX5_checkCalls_7 ?_
  refine lv_icmp_ge (tgt := 74) hx hb dX5_checkCalls_10 (by decide) (fun h1 => ?_) (fun h1 => ?_)
  · have z2 : (w2.1 0 321).toInt ≤ ka.toInt := le_z rfl rfl h1
    refine W.sz (fun hz => ?_)
    refine vx_ret ?_
    refine W.widen (k := 1) (n := 6) (Nat.le_of_ble_eq_true rfl) (Nat.le_of_ble_eq_true rfl) ?_
    exact W.vret hx hb hr (fun t ht9 hW => ⟨⟨w2, rfl, ⟨(FC.tr (FC.rf _) (FC.up fwL2 (by decide) (by decide))), ⟨z321, ka, w2, exL2, fwL2, f1L2, rsL2, (Or.inl ⟨z2, rfl, rfl⟩)⟩, (RS.tr RS.rf rsL2)⟩, ⟨by rw [ht9]; exact hP, hD⟩, by rw [ht9]; exact hz⟩, hS.F ht9⟩) hS.2.2 dX5_checkCalls_74
  · have z3 : ka.toInt < (w2.1 0 321).toInt := nle_z rfl rfl h1
    refine lv_aload_n hx hb dX5_checkCalls_13 rfl (lv_at hl 1 rfl) ?_
    refine va_get (D := (dC, dI)) (ci := 8) (fs := oF_X5 ad pr w2) (v := .ref (ad 901)) (C := RX5) (T := TX5) (N := 7) hx hb ht itX5 hown hK hP 3 rfl rfl 2 (by decide) (ht _ tw_573) (fun _ h9 => h9) rfl dX5_checkCalls_14 ?_
    refine lv_iload_n hx hb dX5_checkCalls_17 rfl (lv_at hl 0 rfl) ?_
    have q4 : (w2.1 0 321).toInt = (v.1 0 321).toInt := congrArg Int32.toInt ((fwL2.2.1 321 (by decide)).trans (show v.1 0 321 = (v.1 0 321) by rfl))
    refine cu_i (rn_Vk (n := 1) (As := [.int ka]) (rest := []) hx hb hml hown ht hKK hFx hP hD hS hA (c_x_X1_functionOfCall l dC dI cI cB cZ cJ cR tb H.size ad pr N L1 L2 w2 ka ps (show 0 ≤ (w2.1 0 321).toInt ∧ (w2.1 0 321).toInt ≤ 501 from (om_ffdd4ce25b z321 f1L2 q4 z3)) (show L1.length = 40 from hL1) (show L2.length = 60 from hL2) (show RP w2 from ((show FC [] [] v w2 from (FC.tr (FC.rf _) (FC.up fwL2 (by decide) (by decide)))).1 rp)) (show pr ps = ad 908 from hps) (show (w2.1 0 310) = ps from (Eq.trans (fwL2.2.1 310 (by decide)) es310))) tw_492 tw_603 (by decide +kernel) rfl rfl ⟨Nat.le_of_ble_eq_true rfl, Nat.le_of_ble_eq_true rfl⟩ (List.range (cW ad pr N cI cR L1 L2 w2).length) (rg_map _) (nd_range _) 1 rfl rfl rfl rfl hl.1 rfl (Nat.le_of_ble_eq_true rfl) dX5_checkCalls_18 ⟨Nat.le_of_ble_eq_true rfl, Nat.le_of_ble_eq_true rfl⟩) hP hD hS hA (fun r7 u6 H locs hw5 hP hD hS => ?_)
    obtain ⟨rfl, ex5⟩ := hw5
    refine W.widen (k := 0) (n := 0) (Nat.le_refl _) (Nat.le_refl _) ?_
    refine lv_iconst (v := -1) hx hb dX5_checkCalls_21 (by decide) ?_
    refine lv_icmp_ne (tgt := 41) hx hb dX5_checkCalls_22 (by decide) (fun h8 => ?_) (fun h8 => ?_)
    · have z9 : r7.toInt ≠ (-1 : Int) := ne_z rfl (show ((-1) : Int32).toInt = (-1 : Int) by decide) h8
      refine lv_aload_n hx hb dX5_checkCalls_41 rfl (lv_at hl 1 rfl) ?_
      refine va_get (D := (dC, dI)) (ci := 8) (fs := oF_X5 ad pr w2) (v := .ref (ad 901)) (C := RX5) (T := TX5) (N := 7) hx hb ht itX5 hown hK hP 3 rfl rfl 2 (by decide) (ht _ tw_573) (fun _ h9 => h9) rfl dX5_checkCalls_42 ?_
      refine lv_iload_n hx hb dX5_checkCalls_45 rfl (lv_at hl 0 rfl) ?_
      refine cu_i (rn_Vk (n := 1) (As := [.int ka]) (rest := []) hx hb hml hown ht hKK hFx hP hD hS hA (c_x_X1_hasItsArguments l dC dI cI cB cZ cJ cR tb H.size ad pr N L1 L2 w2 ka ps (show 0 ≤ (w2.1 0 321).toInt ∧ (w2.1 0 321).toInt ≤ 501 from (om_ffdd4ce25b z321 f1L2 q4 z3)) (show L1.length = 40 from hL1) (show L2.length = 60 from hL2) (show RP w2 from ((show FC [] [] v w2 from (FC.tr (FC.rf _) (FC.up fwL2 (by decide) (by decide)))).1 rp)) (show pr ps = ad 908 from hps) (show (w2.1 0 310) = ps from (Eq.trans (fwL2.2.1 310 (by decide)) es310))) tw_604 tw_605 (by decide +kernel) rfl rfl ⟨Nat.le_of_ble_eq_true rfl, Nat.le_of_ble_eq_true rfl⟩ (List.range (cW ad pr N cI cR L1 L2 w2).length) (rg_map _) (nd_range _) 1 rfl rfl rfl rfl hl.1 rfl (Nat.le_of_ble_eq_true rfl) dX5_checkCalls_46 ⟨Nat.le_of_ble_eq_true rfl, Nat.le_of_ble_eq_true rfl⟩) hP hD hS hA (fun r12 u11 H locs hw10 hP hD hS => ?_)
      obtain ⟨rfl, ex10, b10, e10⟩ := hw10
      have b10 : (r12 = 0 ∨ r12 = 1) := b10
      have e10 : (0 ≤ r12.toInt ∧ r12.toInt ≤ 1) := e10
      refine W.widen (k := 0) (n := 0) (Nat.le_refl _) (Nat.le_refl _) ?_
      refine lv_if_ne (tgt := 68) hx hb dX5_checkCalls_49 (by decide) (fun h13 => ?_) (fun h13 => ?_)
      · have z14 : r12.toInt ≠ (0 : Int) := ne_z rfl (show (0 : Int32).toInt = (0 : Int) by decide) h13
        refine lv_iinc (v := (ka + (1 : Int32))) (lv' := [(1, .int (ka + (1 : Int32))), (0, .ref (ad 903))]) hx hb dX5_checkCalls_68 hl (k := 0) rfl (rfl) (by decide) rfl (fun ls hl => ?_)
        have z15 : (ka + (1 : Int32)).toInt = ka.toInt + 1 := inc_lt z3
        refine lv_goto (tgt := 2) hx hb dX5_checkCalls_71 (by decide) ?_
        exact ih2 ((ka + (1 : Int32)), w2) _ _ _ (show (501 - (ka + (1 : Int32)).toInt).toNat < (501 - ka.toInt).toNat from tn_z (om_fa554d75e6 z15) (om_c25a281886 z321 q4 z3)) ⟨(show FC [] [] v w2 from (FC.tr (FC.rf _) (FC.up fwL2 (by decide) (by decide)))), (show 0 ≤ (ka + (1 : Int32)).toInt ∧ (ka + (1 : Int32)).toInt ≤ 501 from (om_b17aeb9525 z321 f1L2 q4 z3 z15)), (show RS v w2 from (RS.tr RS.rf rsL2)), (RT.st exL2 ⟨fwL2, f1L2, rsL2, z3, r7, ex5, z9, r12, ex10, ⟨b10, e10⟩, z14, rfl⟩), hP, hD, hS, lv_sub hl [0, 1] rfl⟩
      · have z16 : r12.toInt = (0 : Int) := eq_z rfl (show (0 : Int32).toInt = (0 : Int) by decide) h13
        refine lv_aload_n hx hb dX5_checkCalls_52 rfl (lv_at hl 1 rfl) ?_
        refine va_get (D := (dC, dI)) (ci := 8) (fs := oF_X5 ad pr w2) (v := .ref (ad 900)) (C := RX5) (T := TX5) (N := 7) hx hb ht itX5 hown hK hP 3 rfl rfl 1 (by decide) (ht _ tw_571) (fun _ h9 => h9) rfl dX5_checkCalls_53 ?_
        refine lv_iconst (v := 4) hx hb dX5_checkCalls_56 (by decide) ?_
        refine lv_aload_n hx hb dX5_checkCalls_57 rfl (lv_at hl 1 rfl) ?_
        refine va_get (D := (dC, dI)) (ci := 8) (fs := oF_X5 ad pr w2) (v := .ref (ad 901)) (C := RX5) (T := TX5) (N := 7) hx hb ht itX5 hown hK hP 3 rfl rfl 2 (by decide) (ht _ tw_573) (fun _ h9 => h9) rfl dX5_checkCalls_58 ?_
        refine lv_iload_n hx hb dX5_checkCalls_61 rfl (lv_at hl 0 rfl) ?_
        refine cu_i (rn_Vk (n := 1) (As := [.int ka]) (rest := [.int 4, .ref (ad 900)]) hx hb hml hown ht hKK hFx hP hD hS hA (c_x_X1_placeOfCall l dC dI cI cB cZ cJ cR tb H.size ad pr N L1 L2 w2 ka (show 0 ≤ (w2.1 0 321).toInt ∧ (w2.1 0 321).toInt ≤ 501 from (om_ffdd4ce25b z321 f1L2 q4 z3))) tw_606 tw_607 (by decide +kernel) rfl rfl ⟨Nat.le_of_ble_eq_true rfl, Nat.le_of_ble_eq_true rfl⟩ (List.range (cW ad pr N cI cR L1 L2 w2).length) (rg_map _) (nd_range _) 1 rfl rfl rfl rfl hl.1 rfl (Nat.le_of_ble_eq_true rfl) dX5_checkCalls_62 ⟨Nat.le_of_ble_eq_true rfl, Nat.le_of_ble_eq_true rfl⟩) hP hD hS hA (fun r19 u18 H locs hw17 hP hD hS => ?_)
        obtain ⟨rfl, ex17⟩ := hw17
        refine W.widen (k := 0) (n := 0) (Nat.le_refl _) (Nat.le_refl _) ?_
        refine W.sz (fun hz9 => ?_)
        refine czx_v (rx_Vk (n := 2) (As := [.int 4, .int r19]) (rest := []) hx hb hml hown ht hKK hFx hP hD hS hA (c_x_X9_refuse l dC dI cI cB cZ cJ cR tb H.size ad pr N L1 L2 w2 (4 : Int32) r19 (show l.stackTraces = false from hst) (show (4 : Int) ≠ 0 from om_c65b99aeeb)) tw_459 tw_578 (by decide +kernel) rfl rfl ⟨Nat.le_of_ble_eq_true rfl, Nat.le_of_ble_eq_true rfl⟩ (List.range (cW ad pr N cI cR L1 L2 w2).length) (rg_map _) (nd_range _) 0 rfl rfl rfl rfl hl.1 rfl (Nat.le_of_ble_eq_true rfl) dX5_checkCalls_65 ⟨Nat.le_of_ble_eq_true rfl, Nat.le_of_ble_eq_true rfl⟩) hP hD hS hA (fun u9 ce9 q9 H locs hx9 hP hD hS hc9 hv9 hf9 => ?_) (fun u21 H locs hw20 hP hD hS hz8 => ?_)
        · exact vx_out (fun x h9 => (hnt x h9).elim) hlocks hc9 hv9 hf9 (fun t9 ht9 hv8 => ⟨u9, ⟨FC.tr (FC.tr (FC.rf _) (FC.up fwL2 (by decide) (by decide))) hx9.1, hx9.2.1, ⟨z321, ka, w2, exL2, fwL2, f1L2, rsL2, (Or.inr (⟨z3, r7, ex5, (Or.inl ⟨z9, r12, ex10, ⟨b10, e10⟩, z16, r19, ex17, u9, hx9.2.2, rfl, rfl⟩)⟩))⟩⟩, ⟨rfl, by rw [ht9]; exact hP, hD⟩, hS.F ht9⟩) hS.2.2 (Nat.le_refl _) (Nat.le_refl _)
        refine W.shrink (hz8.trans hz9) ?_
        obtain ⟨fr20, ex20, no20, rs20⟩ := hw20
        have no20 : False := no20
        have rs20 : RS w2 u21 := rs20
        exact no20.elim
    · have z23 : r7.toInt = (-1 : Int) := eq_z rfl (show ((-1) : Int32).toInt = (-1 : Int) by decide) h8
      refine lv_aload_n hx hb dX5_checkCalls_25 rfl (lv_at hl 1 rfl) ?_
      refine va_get (D := (dC, dI)) (ci := 8) (fs := oF_X5 ad pr w2) (v := .ref (ad 900)) (C := RX5) (T := TX5) (N := 7) hx hb ht itX5 hown hK hP 3 rfl rfl 1 (by decide) (ht _ tw_571) (fun _ h9 => h9) rfl dX5_checkCalls_26 ?_
      refine lv_iconst (v := 3) hx hb dX5_checkCalls_29 (by decide) ?_
      refine lv_aload_n hx hb dX5_checkCalls_30 rfl (lv_at hl 1 rfl) ?_
      refine va_get (D := (dC, dI)) (ci := 8) (fs := oF_X5 ad pr w2) (v := .ref (ad 901)) (C := RX5) (T := TX5) (N := 7) hx hb ht itX5 hown hK hP 3 rfl rfl 2 (by decide) (ht _ tw_573) (fun _ h9 => h9) rfl dX5_checkCalls_31 ?_
      refine lv_iload_n hx hb dX5_checkCalls_34 rfl (lv_at hl 0 rfl) ?_
      refine cu_i (rn_Vk (n := 1) (As := [.int ka]) (rest := [.int 3, .ref (ad 900)]) hx hb hml hown ht hKK hFx hP hD hS hA (c_x_X1_placeOfCall l dC dI cI cB cZ cJ cR tb H.size ad pr N L1 L2 w2 ka (show 0 ≤ (w2.1 0 321).toInt ∧ (w2.1 0 321).toInt ≤ 501 from (om_ffdd4ce25b z321 f1L2 q4 z3))) tw_606 tw_607 (by decide +kernel) rfl rfl ⟨Nat.le_of_ble_eq_true rfl, Nat.le_of_ble_eq_true rfl⟩ (List.range (cW ad pr N cI cR L1 L2 w2).length) (rg_map _) (nd_range _) 1 rfl rfl rfl rfl hl.1 rfl (Nat.le_of_ble_eq_true rfl) dX5_checkCalls_35 ⟨Nat.le_of_ble_eq_true rfl, Nat.le_of_ble_eq_true rfl⟩) hP hD hS hA (fun r26 u25 H locs hw24 hP hD hS => ?_)
      obtain ⟨rfl, ex24⟩ := hw24
      refine W.widen (k := 0) (n := 0) (Nat.le_refl _) (Nat.le_refl _) ?_
      refine W.sz (fun hz9 => ?_)
      refine czx_v (rx_Vk (n := 2) (As := [.int 3, .int r26]) (rest := []) hx hb hml hown ht hKK hFx hP hD hS hA (c_x_X9_refuse l dC dI cI cB cZ cJ cR tb H.size ad pr N L1 L2 w2 (3 : Int32) r26 (show l.stackTraces = false from hst) (show (3 : Int) ≠ 0 from om_59881768ad)) tw_459 tw_578 (by decide +kernel) rfl rfl ⟨Nat.le_of_ble_eq_true rfl, Nat.le_of_ble_eq_true rfl⟩ (List.range (cW ad pr N cI cR L1 L2 w2).length) (rg_map _) (nd_range _) 0 rfl rfl rfl rfl hl.1 rfl (Nat.le_of_ble_eq_true rfl) dX5_checkCalls_38 ⟨Nat.le_of_ble_eq_true rfl, Nat.le_of_ble_eq_true rfl⟩) hP hD hS hA (fun u9 ce9 q9 H locs hx9 hP hD hS hc9 hv9 hf9 => ?_) (fun u28 H locs hw27 hP hD hS hz8 => ?_)
      · exact vx_out (fun x h9 => (hnt x h9).elim) hlocks hc9 hv9 hf9 (fun t9 ht9 hv8 => ⟨u9, ⟨FC.tr (FC.tr (FC.rf _) (FC.up fwL2 (by decide) (by decide))) hx9.1, hx9.2.1, ⟨z321, ka, w2, exL2, fwL2, f1L2, rsL2, (Or.inr (⟨z3, r7, ex5, (Or.inr (⟨z23, r26, ex24, u9, hx9.2.2, rfl, rfl⟩))⟩))⟩⟩, ⟨rfl, by rw [ht9]; exact hP, hD⟩, hS.F ht9⟩) hS.2.2 (Nat.le_refl _) (Nat.le_refl _)
      refine W.shrink (hz8.trans hz9) ?_
      obtain ⟨fr27, ex27, no27, rs27⟩ := hw27
      have no27 : False := no27
      have rs27 : RS w2 u28 := rs27
      exact no27.elim
