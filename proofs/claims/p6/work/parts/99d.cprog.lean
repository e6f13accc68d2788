theorem dX7_byteAt_0 : decode cX7_byteAt 0 = .ok (.iload_n 1, 1) := by decide +kernel
theorem dX7_byteAt_1 : decode cX7_byteAt 1 = .ok (.ifCond .lt 20, 3) := by decide +kernel
theorem dX7_byteAt_21 : decode cX7_byteAt 21 = .ok (.iconst (-1), 1) := by decide +kernel
theorem dX7_byteAt_22 : decode cX7_byteAt 22 = .ok (.ireturn, 1) := by decide +kernel
theorem dX7_byteAt_4 : decode cX7_byteAt 4 = .ok (.iload_n 1, 1) := by decide +kernel
theorem dX7_byteAt_5 : decode cX7_byteAt 5 = .ok (.aload_n 0, 1) := by decide +kernel
theorem dX7_byteAt_6 : decode cX7_byteAt 6 = .ok (.getfield 35, 3) := by decide +kernel
theorem tw_390 : (.fieldLink RX7 35 "PocketCompiler$Program" "length" "I" : Cond) ∈ tw_W := tw_in (t8_1 (List.mem_of_getElem? (i := 113) rfl)) rfl
theorem itX7 : ∀ w ∈ wsX70, w ∈ tw_W := tw_all (by decide +kernel)
theorem dX7_byteAt_9 : decode cX7_byteAt 9 = .ok (.if_icmp .ge 12, 3) := by decide +kernel
theorem dX7_byteAt_12 : decode cX7_byteAt 12 = .ok (.aload_n 0, 1) := by decide +kernel
theorem dX7_byteAt_13 : decode cX7_byteAt 13 = .ok (.getfield 9, 3) := by decide +kernel
theorem tw_391 : (.fieldLink RX7 9 "PocketCompiler$Program" "text" "[I" : Cond) ∈ tw_W := tw_in (t8_1 (List.mem_of_getElem? (i := 112) rfl)) rfl
theorem dX7_byteAt_16 : decode cX7_byteAt 16 = .ok (.iload_n 1, 1) := by decide +kernel
theorem dX7_byteAt_17 : decode cX7_byteAt 17 = .ok (.iaload, 1) := by decide +kernel
theorem dX7_byteAt_18 : decode cX7_byteAt 18 = .ok (.goto 4, 3) := by decide +kernel
theorem dX7_nameBytes_0 : decode cX7_nameBytes 0 = .ok (.iconst 0, 1) := by decide +kernel
theorem dX7_nameBytes_1 : decode cX7_nameBytes 1 = .ok (.istore_n 2, 1) := by decide +kernel
theorem dX7_nameBytes_2 : decode cX7_nameBytes 2 = .ok (.iload_n 2, 1) := by decide +kernel
theorem dX7_nameBytes_3 : decode cX7_nameBytes 3 = .ok (.aload_n 0, 1) := by decide +kernel
theorem dX7_nameBytes_4 : decode cX7_nameBytes 4 = .ok (.getfield 35, 3) := by decide +kernel
theorem dX7_nameBytes_7 : decode cX7_nameBytes 7 = .ok (.if_icmp .ge 24, 3) := by decide +kernel
theorem dX7_nameBytes_31 : decode cX7_nameBytes 31 = .ok (.aload_n 0, 1) := by decide +kernel
theorem dX7_nameBytes_32 : decode cX7_nameBytes 32 = .ok (.getfield 35, 3) := by decide +kernel
theorem dX7_nameBytes_35 : decode cX7_nameBytes 35 = .ok (.ireturn, 1) := by decide +kernel
theorem dX7_nameBytes_10 : decode cX7_nameBytes 10 = .ok (.aload_n 0, 1) := by decide +kernel
theorem dX7_nameBytes_11 : decode cX7_nameBytes 11 = .ok (.iload_n 1, 1) := by decide +kernel
theorem dX7_nameBytes_12 : decode cX7_nameBytes 12 = .ok (.iload_n 2, 1) := by decide +kernel
theorem dX7_nameBytes_13 : decode cX7_nameBytes 13 = .ok (.iadd, 1) := by decide +kernel
theorem dX7_nameBytes_14 : decode cX7_nameBytes 14 = .ok (.invokevirtual 60, 3) := by decide +kernel
theorem tw_392 : (.code yX7_byteAt cX7_byteAt 2 (some .int) : Cond) ∈ tw_W := tw_in (t8_2 (List.mem_of_getElem? (i := 226) rfl)) rfl
theorem tw_393 : ∀ w ∈ ([.methodLink RX7 60 yX7_byteAt, .instanceMethod yX7_byteAt, .selects RX7 yX7_byteAt yX7_byteAt, .initialized RX7] : List Cond), w ∈ tw_W := al_c (tw_in (t8_3 (List.mem_of_getElem? (i := 6) rfl)) rfl) (al_c (tw_in (t8_2 (List.mem_of_getElem? (i := 224) rfl)) rfl) (al_c (tw_in (t8_2 (List.mem_of_getElem? (i := 225) rfl)) rfl) (al_c (tw_in (t8_1 (List.mem_of_getElem? (i := 8) rfl)) rfl) al_n)))
theorem dX7_nameBytes_17 : decode cX7_nameBytes 17 = .ok (.invokestatic 64, 3) := by decide +kernel
theorem tw_394 : (.code yX9_isNamePart cX9_isNamePart 1 (some .boolean) : Cond) ∈ tw_W := tw_in (t8_3 (List.mem_of_getElem? (i := 9) rfl)) rfl
theorem tw_395 : ∀ w ∈ ([.methodLink RX7 64 yX9_isNamePart, .static yX9_isNamePart, .initialized yX9_isNamePart.cls] : List Cond), w ∈ tw_W := al_c (tw_in (t8_3 (List.mem_of_getElem? (i := 7) rfl)) rfl) (al_c (tw_in (t8_3 (List.mem_of_getElem? (i := 8) rfl)) rfl) (al_c (tw_in (t8_1 (List.mem_of_getElem? (i := 10) rfl)) rfl) al_n))
theorem dX7_nameBytes_20 : decode cX7_nameBytes 20 = .ok (.ifCond .ne 5, 3) := by decide +kernel
theorem dX7_nameBytes_25 : decode cX7_nameBytes 25 = .ok (.iinc 2 1, 3) := by decide +kernel
theorem dX7_nameBytes_28 : decode cX7_nameBytes 28 = .ok (.goto (-26), 3) := by decide +kernel
theorem dX7_nameBytes_23 : decode cX7_nameBytes 23 = .ok (.iload_n 2, 1) := by decide +kernel
theorem dX7_nameBytes_24 : decode cX7_nameBytes 24 = .ok (.ireturn, 1) := by decide +kernel
theorem dX7_functionFact_0 : decode cX7_functionFact 0 = .ok (.iload_n 1, 1) := by decide +kernel
theorem dX7_functionFact_1 : decode cX7_functionFact 1 = .ok (.ifCond .lt 20, 3) := by decide +kernel
theorem dX7_functionFact_21 : decode cX7_functionFact 21 = .ok (.iconst (-1), 1) := by decide +kernel
theorem dX7_functionFact_22 : decode cX7_functionFact 22 = .ok (.ireturn, 1) := by decide +kernel
theorem dX7_functionFact_4 : decode cX7_functionFact 4 = .ok (.iload_n 1, 1) := by decide +kernel
theorem dX7_functionFact_5 : decode cX7_functionFact 5 = .ok (.aload_n 0, 1) := by decide +kernel
theorem dX7_functionFact_6 : decode cX7_functionFact 6 = .ok (.getfield 45, 3) := by decide +kernel
theorem tw_396 : (.fieldLink RX7 45 "PocketCompiler$Program" "functionCount" "I" : Cond) ∈ tw_W := tw_in (t8_1 (List.mem_of_getElem? (i := 117) rfl)) rfl
theorem dX7_functionFact_9 : decode cX7_functionFact 9 = .ok (.if_icmp .ge 12, 3) := by decide +kernel
theorem dX7_functionFact_12 : decode cX7_functionFact 12 = .ok (.iload_n 1, 1) := by decide +kernel
theorem dX7_functionFact_13 : decode cX7_functionFact 13 = .ok (.aload_n 0, 1) := by decide +kernel
theorem dX7_functionFact_14 : decode cX7_functionFact 14 = .ok (.getfield 17, 3) := by decide +kernel
theorem tw_397 : (.fieldLink RX7 17 "PocketCompiler$Program" "functions" "[[I" : Cond) ∈ tw_W := tw_in (t8_1 (List.mem_of_getElem? (i := 116) rfl)) rfl
theorem dX7_functionFact_17 : decode cX7_functionFact 17 = .ok (.arraylength, 1) := by decide +kernel
theorem dX7_functionFact_18 : decode cX7_functionFact 18 = .ok (.if_icmp .lt 5, 3) := by decide +kernel
theorem dX7_functionFact_23 : decode cX7_functionFact 23 = .ok (.iload_n 2, 1) := by decide +kernel
theorem dX7_functionFact_24 : decode cX7_functionFact 24 = .ok (.ifCond .lt 25, 3) := by decide +kernel
theorem dX7_functionFact_49 : decode cX7_functionFact 49 = .ok (.iconst (-1), 1) := by decide +kernel
theorem dX7_functionFact_50 : decode cX7_functionFact 50 = .ok (.ireturn, 1) := by decide +kernel
theorem dX7_functionFact_27 : decode cX7_functionFact 27 = .ok (.iload_n 2, 1) := by decide +kernel
theorem dX7_functionFact_28 : decode cX7_functionFact 28 = .ok (.aload_n 0, 1) := by decide +kernel
theorem dX7_functionFact_29 : decode cX7_functionFact 29 = .ok (.getfield 17, 3) := by decide +kernel
theorem dX7_functionFact_32 : decode cX7_functionFact 32 = .ok (.iload_n 1, 1) := by decide +kernel
theorem dX7_functionFact_33 : decode cX7_functionFact 33 = .ok (.aaload, 1) := by decide +kernel
theorem dX7_functionFact_34 : decode cX7_functionFact 34 = .ok (.arraylength, 1) := by decide +kernel
theorem dX7_functionFact_35 : decode cX7_functionFact 35 = .ok (.if_icmp .ge 14, 3) := by decide +kernel
theorem dX7_functionFact_38 : decode cX7_functionFact 38 = .ok (.aload_n 0, 1) := by decide +kernel
theorem dX7_functionFact_39 : decode cX7_functionFact 39 = .ok (.getfield 17, 3) := by decide +kernel
theorem dX7_functionFact_42 : decode cX7_functionFact 42 = .ok (.iload_n 1, 1) := by decide +kernel
theorem dX7_functionFact_43 : decode cX7_functionFact 43 = .ok (.aaload, 1) := by decide +kernel
theorem dX7_functionFact_44 : decode cX7_functionFact 44 = .ok (.iload_n 2, 1) := by decide +kernel
theorem dX7_functionFact_45 : decode cX7_functionFact 45 = .ok (.iaload, 1) := by decide +kernel
theorem dX7_functionFact_46 : decode cX7_functionFact 46 = .ok (.goto 4, 3) := by decide +kernel
theorem dX7_changeFunction_0 : decode cX7_changeFunction 0 = .ok (.iload_n 1, 1) := by decide +kernel
theorem dX7_changeFunction_1 : decode cX7_changeFunction 1 = .ok (.ifCond .lt 36, 3) := by decide +kernel
theorem dX7_changeFunction_37 : decode cX7_changeFunction 37 = .ok (.return_, 1) := by decide +kernel
theorem dX7_changeFunction_4 : decode cX7_changeFunction 4 = .ok (.iload_n 1, 1) := by decide +kernel
theorem dX7_changeFunction_5 : decode cX7_changeFunction 5 = .ok (.aload_n 0, 1) := by decide +kernel
theorem dX7_changeFunction_6 : decode cX7_changeFunction 6 = .ok (.getfield 17, 3) := by decide +kernel
theorem dX7_changeFunction_9 : decode cX7_changeFunction 9 = .ok (.arraylength, 1) := by decide +kernel
theorem dX7_changeFunction_10 : decode cX7_changeFunction 10 = .ok (.if_icmp .ge 27, 3) := by decide +kernel
theorem dX7_changeFunction_13 : decode cX7_changeFunction 13 = .ok (.iload_n 2, 1) := by decide +kernel
theorem dX7_changeFunction_14 : decode cX7_changeFunction 14 = .ok (.ifCond .lt 23, 3) := by decide +kernel
theorem dX7_changeFunction_17 : decode cX7_changeFunction 17 = .ok (.iload_n 2, 1) := by decide +kernel
theorem dX7_changeFunction_18 : decode cX7_changeFunction 18 = .ok (.aload_n 0, 1) := by decide +kernel
theorem dX7_changeFunction_19 : decode cX7_changeFunction 19 = .ok (.getfield 17, 3) := by decide +kernel
theorem dX7_changeFunction_22 : decode cX7_changeFunction 22 = .ok (.iload_n 1, 1) := by decide +kernel
theorem dX7_changeFunction_23 : decode cX7_changeFunction 23 = .ok (.aaload, 1) := by decide +kernel
theorem dX7_changeFunction_24 : decode cX7_changeFunction 24 = .ok (.arraylength, 1) := by decide +kernel
theorem dX7_changeFunction_25 : decode cX7_changeFunction 25 = .ok (.if_icmp .ge 12, 3) := by decide +kernel
theorem dX7_changeFunction_28 : decode cX7_changeFunction 28 = .ok (.aload_n 0, 1) := by decide +kernel
theorem dX7_changeFunction_29 : decode cX7_changeFunction 29 = .ok (.getfield 17, 3) := by decide +kernel
theorem dX7_changeFunction_32 : decode cX7_changeFunction 32 = .ok (.iload_n 1, 1) := by decide +kernel
theorem dX7_changeFunction_33 : decode cX7_changeFunction 33 = .ok (.aaload, 1) := by decide +kernel
theorem dX7_changeFunction_34 : decode cX7_changeFunction 34 = .ok (.iload_n 2, 1) := by decide +kernel
theorem dX7_changeFunction_35 : decode cX7_changeFunction 35 = .ok (.iload_n 3, 1) := by decide +kernel
theorem dX7_changeFunction_36 : decode cX7_changeFunction 36 = .ok (.iastore, 1) := by decide +kernel
theorem dX7_functionNamed_0 : decode cX7_functionNamed 0 = .ok (.iconst 0, 1) := by decide +kernel
theorem dX7_functionNamed_1 : decode cX7_functionNamed 1 = .ok (.istore_n 2, 1) := by decide +kernel
theorem dX7_functionNamed_2 : decode cX7_functionNamed 2 = .ok (.iload_n 2, 1) := by decide +kernel
theorem dX7_functionNamed_3 : decode cX7_functionNamed 3 = .ok (.aload_n 0, 1) := by decide +kernel
theorem dX7_functionNamed_4 : decode cX7_functionNamed 4 = .ok (.getfield 45, 3) := by decide +kernel
theorem dX7_functionNamed_7 : decode cX7_functionNamed 7 = .ok (.if_icmp .ge 21, 3) := by decide +kernel
theorem dX7_functionNamed_28 : decode cX7_functionNamed 28 = .ok (.iconst (-1), 1) := by decide +kernel
theorem dX7_functionNamed_29 : decode cX7_functionNamed 29 = .ok (.ireturn, 1) := by decide +kernel
theorem dX7_functionNamed_10 : decode cX7_functionNamed 10 = .ok (.aload_n 0, 1) := by decide +kernel
theorem dX7_functionNamed_11 : decode cX7_functionNamed 11 = .ok (.iload_n 2, 1) := by decide +kernel
theorem dX7_functionNamed_12 : decode cX7_functionNamed 12 = .ok (.iconst 4, 1) := by decide +kernel
theorem dX7_functionNamed_13 : decode cX7_functionNamed 13 = .ok (.invokevirtual 73, 3) := by decide +kernel
theorem tw_398 : (.code yX7_functionFact cX7_functionFact 3 (some .int) : Cond) ∈ tw_W := tw_in (t8_3 (List.mem_of_getElem? (i := 214) rfl)) rfl
theorem tw_399 : ∀ w ∈ ([.methodLink RX7 73 yX7_functionFact, .instanceMethod yX7_functionFact, .selects RX7 yX7_functionFact yX7_functionFact, .initialized RX7] : List Cond), w ∈ tw_W := al_c (tw_in (t8_3 (List.mem_of_getElem? (i := 211) rfl)) rfl) (al_c (tw_in (t8_3 (List.mem_of_getElem? (i := 212) rfl)) rfl) (al_c (tw_in (t8_3 (List.mem_of_getElem? (i := 213) rfl)) rfl) (al_c (tw_in (t8_1 (List.mem_of_getElem? (i := 8) rfl)) rfl) al_n)))
theorem dX7_functionNamed_16 : decode cX7_functionNamed 16 = .ok (.iload_n 1, 1) := by decide +kernel
theorem dX7_functionNamed_17 : decode cX7_functionNamed 17 = .ok (.if_icmp .ne 5, 3) := by decide +kernel
theorem dX7_functionNamed_22 : decode cX7_functionNamed 22 = .ok (.iinc 2 1, 3) := by decide +kernel
theorem dX7_functionNamed_25 : decode cX7_functionNamed 25 = .ok (.goto (-23), 3) := by decide +kernel
theorem dX7_functionNamed_20 : decode cX7_functionNamed 20 = .ok (.iload_n 2, 1) := by decide +kernel
theorem dX7_functionNamed_21 : decode cX7_functionNamed 21 = .ok (.ireturn, 1) := by decide +kernel
theorem dX7_globalFact_0 : decode cX7_globalFact 0 = .ok (.iload_n 1, 1) := by decide +kernel
theorem dX7_globalFact_1 : decode cX7_globalFact 1 = .ok (.ifCond .lt 20, 3) := by decide +kernel
theorem dX7_globalFact_21 : decode cX7_globalFact 21 = .ok (.iconst (-1), 1) := by decide +kernel
theorem dX7_globalFact_22 : decode cX7_globalFact 22 = .ok (.ireturn, 1) := by decide +kernel
theorem dX7_globalFact_4 : decode cX7_globalFact 4 = .ok (.iload_n 1, 1) := by decide +kernel
theorem dX7_globalFact_5 : decode cX7_globalFact 5 = .ok (.aload_n 0, 1) := by decide +kernel
theorem dX7_globalFact_6 : decode cX7_globalFact 6 = .ok (.getfield 48, 3) := by decide +kernel
theorem tw_400 : (.fieldLink RX7 48 "PocketCompiler$Program" "globalCount" "I" : Cond) ∈ tw_W := tw_in (t8_1 (List.mem_of_getElem? (i := 121) rfl)) rfl
theorem dX7_globalFact_9 : decode cX7_globalFact 9 = .ok (.if_icmp .ge 12, 3) := by decide +kernel
theorem dX7_globalFact_12 : decode cX7_globalFact 12 = .ok (.iload_n 1, 1) := by decide +kernel
theorem dX7_globalFact_13 : decode cX7_globalFact 13 = .ok (.aload_n 0, 1) := by decide +kernel
theorem dX7_globalFact_14 : decode cX7_globalFact 14 = .ok (.getfield 20, 3) := by decide +kernel
theorem tw_401 : (.fieldLink RX7 20 "PocketCompiler$Program" "globals" "[[I" : Cond) ∈ tw_W := tw_in (t8_1 (List.mem_of_getElem? (i := 120) rfl)) rfl
theorem dX7_globalFact_17 : decode cX7_globalFact 17 = .ok (.arraylength, 1) := by decide +kernel
theorem dX7_globalFact_18 : decode cX7_globalFact 18 = .ok (.if_icmp .lt 5, 3) := by decide +kernel
theorem dX7_globalFact_23 : decode cX7_globalFact 23 = .ok (.iload_n 2, 1) := by decide +kernel
theorem dX7_globalFact_24 : decode cX7_globalFact 24 = .ok (.ifCond .lt 25, 3) := by decide +kernel
theorem dX7_globalFact_49 : decode cX7_globalFact 49 = .ok (.iconst (-1), 1) := by decide +kernel
theorem dX7_globalFact_50 : decode cX7_globalFact 50 = .ok (.ireturn, 1) := by decide +kernel
theorem dX7_globalFact_27 : decode cX7_globalFact 27 = .ok (.iload_n 2, 1) := by decide +kernel
theorem dX7_globalFact_28 : decode cX7_globalFact 28 = .ok (.aload_n 0, 1) := by decide +kernel
theorem dX7_globalFact_29 : decode cX7_globalFact 29 = .ok (.getfield 20, 3) := by decide +kernel
theorem dX7_globalFact_32 : decode cX7_globalFact 32 = .ok (.iload_n 1, 1) := by decide +kernel
theorem dX7_globalFact_33 : decode cX7_globalFact 33 = .ok (.aaload, 1) := by decide +kernel
theorem dX7_globalFact_34 : decode cX7_globalFact 34 = .ok (.arraylength, 1) := by decide +kernel
theorem dX7_globalFact_35 : decode cX7_globalFact 35 = .ok (.if_icmp .ge 14, 3) := by decide +kernel
theorem dX7_globalFact_38 : decode cX7_globalFact 38 = .ok (.aload_n 0, 1) := by decide +kernel
theorem dX7_globalFact_39 : decode cX7_globalFact 39 = .ok (.getfield 20, 3) := by decide +kernel
theorem dX7_globalFact_42 : decode cX7_globalFact 42 = .ok (.iload_n 1, 1) := by decide +kernel
theorem dX7_globalFact_43 : decode cX7_globalFact 43 = .ok (.aaload, 1) := by decide +kernel
theorem dX7_globalFact_44 : decode cX7_globalFact 44 = .ok (.iload_n 2, 1) := by decide +kernel
theorem dX7_globalFact_45 : decode cX7_globalFact 45 = .ok (.iaload, 1) := by decide +kernel
theorem dX7_globalFact_46 : decode cX7_globalFact 46 = .ok (.goto 4, 3) := by decide +kernel
theorem dX7_changeGlobal_0 : decode cX7_changeGlobal 0 = .ok (.iload_n 1, 1) := by decide +kernel
theorem dX7_changeGlobal_1 : decode cX7_changeGlobal 1 = .ok (.ifCond .lt 36, 3) := by decide +kernel
theorem dX7_changeGlobal_37 : decode cX7_changeGlobal 37 = .ok (.return_, 1) := by decide +kernel
theorem dX7_changeGlobal_4 : decode cX7_changeGlobal 4 = .ok (.iload_n 1, 1) := by decide +kernel
theorem dX7_changeGlobal_5 : decode cX7_changeGlobal 5 = .ok (.aload_n 0, 1) := by decide +kernel
theorem dX7_changeGlobal_6 : decode cX7_changeGlobal 6 = .ok (.getfield 20, 3) := by decide +kernel
theorem dX7_changeGlobal_9 : decode cX7_changeGlobal 9 = .ok (.arraylength, 1) := by decide +kernel
theorem dX7_changeGlobal_10 : decode cX7_changeGlobal 10 = .ok (.if_icmp .ge 27, 3) := by decide +kernel
theorem dX7_changeGlobal_13 : decode cX7_changeGlobal 13 = .ok (.iload_n 2, 1) := by decide +kernel
theorem dX7_changeGlobal_14 : decode cX7_changeGlobal 14 = .ok (.ifCond .lt 23, 3) := by decide +kernel
theorem dX7_changeGlobal_17 : decode cX7_changeGlobal 17 = .ok (.iload_n 2, 1) := by decide +kernel
theorem dX7_changeGlobal_18 : decode cX7_changeGlobal 18 = .ok (.aload_n 0, 1) := by decide +kernel
theorem dX7_changeGlobal_19 : decode cX7_changeGlobal 19 = .ok (.getfield 20, 3) := by decide +kernel
theorem dX7_changeGlobal_22 : decode cX7_changeGlobal 22 = .ok (.iload_n 1, 1) := by decide +kernel
theorem dX7_changeGlobal_23 : decode cX7_changeGlobal 23 = .ok (.aaload, 1) := by decide +kernel
theorem dX7_changeGlobal_24 : decode cX7_changeGlobal 24 = .ok (.arraylength, 1) := by decide +kernel
theorem dX7_changeGlobal_25 : decode cX7_changeGlobal 25 = .ok (.if_icmp .ge 12, 3) := by decide +kernel
theorem dX7_changeGlobal_28 : decode cX7_changeGlobal 28 = .ok (.aload_n 0, 1) := by decide +kernel
theorem dX7_changeGlobal_29 : decode cX7_changeGlobal 29 = .ok (.getfield 20, 3) := by decide +kernel
theorem dX7_changeGlobal_32 : decode cX7_changeGlobal 32 = .ok (.iload_n 1, 1) := by decide +kernel
theorem dX7_changeGlobal_33 : decode cX7_changeGlobal 33 = .ok (.aaload, 1) := by decide +kernel
theorem dX7_changeGlobal_34 : decode cX7_changeGlobal 34 = .ok (.iload_n 2, 1) := by decide +kernel
theorem dX7_changeGlobal_35 : decode cX7_changeGlobal 35 = .ok (.iload_n 3, 1) := by decide +kernel
theorem dX7_changeGlobal_36 : decode cX7_changeGlobal 36 = .ok (.iastore, 1) := by decide +kernel
theorem dX7_globalNamed_0 : decode cX7_globalNamed 0 = .ok (.iconst 0, 1) := by decide +kernel
theorem dX7_globalNamed_1 : decode cX7_globalNamed 1 = .ok (.istore_n 2, 1) := by decide +kernel
theorem dX7_globalNamed_2 : decode cX7_globalNamed 2 = .ok (.iload_n 2, 1) := by decide +kernel
theorem dX7_globalNamed_3 : decode cX7_globalNamed 3 = .ok (.aload_n 0, 1) := by decide +kernel
theorem dX7_globalNamed_4 : decode cX7_globalNamed 4 = .ok (.getfield 48, 3) := by decide +kernel
theorem dX7_globalNamed_7 : decode cX7_globalNamed 7 = .ok (.if_icmp .ge 21, 3) := by decide +kernel
theorem dX7_globalNamed_28 : decode cX7_globalNamed 28 = .ok (.iconst (-1), 1) := by decide +kernel
theorem dX7_globalNamed_29 : decode cX7_globalNamed 29 = .ok (.ireturn, 1) := by decide +kernel
theorem dX7_globalNamed_10 : decode cX7_globalNamed 10 = .ok (.aload_n 0, 1) := by decide +kernel
theorem dX7_globalNamed_11 : decode cX7_globalNamed 11 = .ok (.iload_n 2, 1) := by decide +kernel
theorem dX7_globalNamed_12 : decode cX7_globalNamed 12 = .ok (.iconst 4, 1) := by decide +kernel
theorem dX7_globalNamed_13 : decode cX7_globalNamed 13 = .ok (.invokevirtual 77, 3) := by decide +kernel
theorem tw_402 : (.code yX7_globalFact cX7_globalFact 3 (some .int) : Cond) ∈ tw_W := tw_in (t8_3 (List.mem_of_getElem? (i := 222) rfl)) rfl
theorem tw_403 : ∀ w ∈ ([.methodLink RX7 77 yX7_globalFact, .instanceMethod yX7_globalFact, .selects RX7 yX7_globalFact yX7_globalFact, .initialized RX7] : List Cond), w ∈ tw_W := al_c (tw_in (t8_3 (List.mem_of_getElem? (i := 219) rfl)) rfl) (al_c (tw_in (t8_3 (List.mem_of_getElem? (i := 220) rfl)) rfl) (al_c (tw_in (t8_3 (List.mem_of_getElem? (i := 221) rfl)) rfl) (al_c (tw_in (t8_1 (List.mem_of_getElem? (i := 8) rfl)) rfl) al_n)))
theorem dX7_globalNamed_16 : decode cX7_globalNamed 16 = .ok (.iload_n 1, 1) := by decide +kernel
theorem dX7_globalNamed_17 : decode cX7_globalNamed 17 = .ok (.if_icmp .ne 5, 3) := by decide +kernel
theorem dX7_globalNamed_22 : decode cX7_globalNamed 22 = .ok (.iinc 2 1, 3) := by decide +kernel
theorem dX7_globalNamed_25 : decode cX7_globalNamed 25 = .ok (.goto (-23), 3) := by decide +kernel
theorem dX7_globalNamed_20 : decode cX7_globalNamed 20 = .ok (.iload_n 2, 1) := by decide +kernel
theorem dX7_globalNamed_21 : decode cX7_globalNamed 21 = .ok (.ireturn, 1) := by decide +kernel
theorem dX7_firstCell_0 : decode cX7_firstCell 0 = .ok (.aload_n 0, 1) := by decide +kernel
theorem dX7_firstCell_1 : decode cX7_firstCell 1 = .ok (.iload_n 1, 1) := by decide +kernel
theorem dX7_firstCell_2 : decode cX7_firstCell 2 = .ok (.iconst 1, 1) := by decide +kernel
theorem dX7_firstCell_3 : decode cX7_firstCell 3 = .ok (.invokevirtual 77, 3) := by decide +kernel
theorem dX7_firstCell_6 : decode cX7_firstCell 6 = .ok (.iconst 2, 1) := by decide +kernel
theorem dX7_firstCell_7 : decode cX7_firstCell 7 = .ok (.ishr, 1) := by decide +kernel
theorem dX7_firstCell_8 : decode cX7_firstCell 8 = .ok (.aload_n 0, 1) := by decide +kernel
theorem dX7_firstCell_9 : decode cX7_firstCell 9 = .ok (.getfield 54, 3) := by decide +kernel
theorem tw_404 : (.fieldLink RX7 54 "PocketCompiler$Program" "wordCount" "I" : Cond) ∈ tw_W := tw_in (t8_1 (List.mem_of_getElem? (i := 144) rfl)) rfl
theorem dX7_firstCell_12 : decode cX7_firstCell 12 = .ok (.isub, 1) := by decide +kernel
theorem dX7_firstCell_13 : decode cX7_firstCell 13 = .ok (.ireturn, 1) := by decide +kernel
theorem dX7_wordAt_0 : decode cX7_wordAt 0 = .ok (.iload_n 1, 1) := by decide +kernel
theorem dX7_wordAt_1 : decode cX7_wordAt 1 = .ok (.ifCond .lt 29, 3) := by decide +kernel
theorem dX7_wordAt_30 : decode cX7_wordAt 30 = .ok (.iconst 0, 1) := by decide +kernel
theorem dX7_wordAt_31 : decode cX7_wordAt 31 = .ok (.ireturn, 1) := by decide +kernel
theorem dX7_wordAt_4 : decode cX7_wordAt 4 = .ok (.iload_n 1, 1) := by decide +kernel
theorem dX7_wordAt_5 : decode cX7_wordAt 5 = .ok (.aload_n 0, 1) := by decide +kernel
theorem dX7_wordAt_6 : decode cX7_wordAt 6 = .ok (.getfield 54, 3) := by decide +kernel
theorem dX7_wordAt_9 : decode cX7_wordAt 9 = .ok (.if_icmp .ge 21, 3) := by decide +kernel
theorem dX7_wordAt_12 : decode cX7_wordAt 12 = .ok (.iload_n 1, 1) := by decide +kernel
theorem dX7_wordAt_13 : decode cX7_wordAt 13 = .ok (.aload_n 0, 1) := by decide +kernel
theorem dX7_wordAt_14 : decode cX7_wordAt 14 = .ok (.getfield 32, 3) := by decide +kernel
theorem tw_405 : (.fieldLink RX7 32 "PocketCompiler$Program" "words" "[I" : Cond) ∈ tw_W := tw_in (t8_1 (List.mem_of_getElem? (i := 142) rfl)) rfl
theorem dX7_wordAt_17 : decode cX7_wordAt 17 = .ok (.arraylength, 1) := by decide +kernel
theorem dX7_wordAt_18 : decode cX7_wordAt 18 = .ok (.if_icmp .ge 12, 3) := by decide +kernel
theorem dX7_wordAt_21 : decode cX7_wordAt 21 = .ok (.aload_n 0, 1) := by decide +kernel
theorem dX7_wordAt_22 : decode cX7_wordAt 22 = .ok (.getfield 32, 3) := by decide +kernel
theorem dX7_wordAt_25 : decode cX7_wordAt 25 = .ok (.iload_n 1, 1) := by decide +kernel
theorem dX7_wordAt_26 : decode cX7_wordAt 26 = .ok (.iaload, 1) := by decide +kernel
theorem dX7_wordAt_27 : decode cX7_wordAt 27 = .ok (.goto 4, 3) := by decide +kernel
theorem dX7_clear_0 : decode cX7_clear 0 = .ok (.aload_n 0, 1) := by decide +kernel
theorem dX7_clear_1 : decode cX7_clear 1 = .ok (.iconst 0, 1) := by decide +kernel
theorem dX7_clear_2 : decode cX7_clear 2 = .ok (.putfield 45, 3) := by decide +kernel
theorem dX7_clear_5 : decode cX7_clear 5 = .ok (.aload_n 0, 1) := by decide +kernel
theorem dX7_clear_6 : decode cX7_clear 6 = .ok (.iconst 0, 1) := by decide +kernel
theorem dX7_clear_7 : decode cX7_clear 7 = .ok (.putfield 48, 3) := by decide +kernel
theorem dX7_clear_10 : decode cX7_clear 10 = .ok (.aload_n 0, 1) := by decide +kernel
theorem dX7_clear_11 : decode cX7_clear 11 = .ok (.iconst 0, 1) := by decide +kernel
theorem dX7_clear_12 : decode cX7_clear 12 = .ok (.putfield 51, 3) := by decide +kernel
theorem tw_406 : (.fieldLink RX7 51 "PocketCompiler$Program" "deedCount" "I" : Cond) ∈ tw_W := tw_in (t8_1 (List.mem_of_getElem? (i := 137) rfl)) rfl
theorem dX7_clear_15 : decode cX7_clear 15 = .ok (.aload_n 0, 1) := by decide +kernel
theorem dX7_clear_16 : decode cX7_clear 16 = .ok (.iconst 0, 1) := by decide +kernel
theorem dX7_clear_17 : decode cX7_clear 17 = .ok (.putfield 54, 3) := by decide +kernel
theorem dX7_clear_20 : decode cX7_clear 20 = .ok (.aload_n 0, 1) := by decide +kernel
theorem dX7_clear_21 : decode cX7_clear 21 = .ok (.iconst 0, 1) := by decide +kernel
theorem dX7_clear_22 : decode cX7_clear 22 = .ok (.putfield 57, 3) := by decide +kernel
theorem tw_407 : (.fieldLink RX7 57 "PocketCompiler$Program" "limit" "I" : Cond) ∈ tw_W := tw_in (t8_1 (List.mem_of_getElem? (i := 149) rfl)) rfl
theorem dX7_clear_25 : decode cX7_clear 25 = .ok (.return_, 1) := by decide +kernel
set_option maxHeartbeats 4000000 in
set_option maxRecDepth 100000 in
theorem c_x_X7_byteAt (l : Launch) (dC : Nat → ClassId) (dI : Nat → Nat → Nat) (cI cB cZ cJ cR : ClassId) (tb : Nat → Nat) (sz : Nat) (ad : Nat → Nat) (pr : Int32 → Nat) (N : Nat) (L1 L2 : List Nat) (v : MS) (pa : Int32) (z373 : 0 ≤ (v.1 0 373).toInt ∧ (v.1 0 373).toInt ≤ 4000) : Met l yX7_byteAt (Cond.code yX7_byteAt cX7_byteAt 2 (some .int) :: tw_W) ({ frames := 0, cells := 0, slots := 0, locals := 0 }) (pc_ (dC, dI) (tyS cI cB cZ cJ cR) tb (cW ad pr N cI cR L1 L2 v) sz [.ref (ad 908), .int pa]) (qi_ (dC, dI) (cW ad pr N cI cR L1 L2 v) sz (fun (r : Int32) (u : MS) => v = u ∧ (Q_x_X7_byteAt L1 L2 v pa r)) (fun (u : MS) => (cW ad pr N cI cR L1 L2 u))) 0 0 (va_A (cW ad pr N cI cR L1 L2 v) sz) := by
  refine Met.ofW (cc := cX7_byteAt) (maxL := 2) (ret := (some .int)) (by decide) rfl ?_
  intro p e s m args below meth c s₁ B hml hv
  obtain ⟨rfl, hsz, hP, hKK, hD0, hFx⟩ := hv
  have hK := hKK.1
  have hx := B.exec
  have hb := B.bytes
  have hr := B.returns
  have ht : ∀ w ∈ tw_W, w.before _ s = true := fun w h => atoms_spec (ws := Cond.code yX7_byteAt cX7_byteAt 2 (some .int) :: tw_W) B.pre w (List.mem_cons_of_mem _ h)
  have hown : s.vm.findClass RX7 = some m.cls := findClass_of_methodNamed B.named
  have hlocks := B.notSynchronized
  subst hsz
  unfold qi_
  have hD := hD0.self (sz := s.heap.size)
  generalize hAe : va_A (cW ad pr N cI cR L1 L2 v) s.heap.size = A at hD hFx ⊢
  have hA : ∀ q : Nat, s.heap.size ≤ q → A q := fun q h => by rw [← hAe]; exact Or.inr h
  have hS : va_S A s.heap s.heap [] := va_S.rf
  have hl := lv_entry ([.ref (ad 908), .int pa]) (n := 2) (Nat.le_of_ble_eq_true rfl)
  rw [lg_entry_eq]
  generalize (lg_sl ([.ref (ad 908), .int pa]) ++ List.replicate (2 - (lg_sl ([.ref (ad 908), .int pa])).length) Slot.unset).toArray = ls at hl ⊢
  have hl : lv_has ls 2 [(0, .ref (ad 908)), (1, .int pa)] := hl
  refine lv_iload_n hx hb dX7_byteAt_0 rfl (lv_at hl 1 rfl) ?_
  refine lv_if_lt (tgt := 21) hx hb dX7_byteAt_1 (by decide) (fun h1 => ?_) (fun h1 => ?_)
  · have z2 : pa.toInt < (0 : Int) := lt_z rfl (show (0 : Int32).toInt = (0 : Int) by decide) h1
    refine lv_iconst (v := -1) hx hb dX7_byteAt_21 (by decide) ?_
    exact W.iret (v := (-1)) hx hb hr (fun t ht9 hW => ⟨⟨(-1), v, rfl, ⟨rfl, ⟨z373, (Or.inl ⟨z2, rfl⟩)⟩⟩, by rw [ht9]; exact hP, hD⟩, hS.F ht9⟩) hS.2.2 dX7_byteAt_22
  · have z3 : (0 : Int) ≤ pa.toInt := nlt_z rfl (show (0 : Int32).toInt = (0 : Int) by decide) h1
    refine lv_iload_n hx hb dX7_byteAt_4 rfl (lv_at hl 1 rfl) ?_
    refine lv_aload_n hx hb dX7_byteAt_5 rfl (lv_at hl 0 rfl) ?_
    refine va_get (D := (dC, dI)) (ci := 10) (fs := oF_X7 ad pr v) (v := .int (v.1 0 373)) (C := RX7) (T := TX7) (N := 13) hx hb ht itX7 hown hK hP 8 rfl rfl 1 (by decide) (ht _ tw_390) (fun _ h9 => h9) rfl dX7_byteAt_6 ?_
    refine lv_icmp_ge (tgt := 21) hx hb dX7_byteAt_9 (by decide) (fun h4 => ?_) (fun h4 => ?_)
    · have z5 : (v.1 0 373).toInt ≤ pa.toInt := le_z rfl rfl h4
      refine lv_iconst (v := -1) hx hb dX7_byteAt_21 (by decide) ?_
      exact W.iret (v := (-1)) hx hb hr (fun t ht9 hW => ⟨⟨(-1), v, rfl, ⟨rfl, ⟨z373, (Or.inr (⟨z3, (Or.inl ⟨z5, rfl⟩)⟩))⟩⟩, by rw [ht9]; exact hP, hD⟩, hS.F ht9⟩) hS.2.2 dX7_byteAt_22
    · have z6 : pa.toInt < (v.1 0 373).toInt := nle_z rfl rfl h4
      refine lv_aload_n hx hb dX7_byteAt_12 rfl (lv_at hl 0 rfl) ?_
      refine va_get (D := (dC, dI)) (ci := 10) (fs := oF_X7 ad pr v) (v := .ref (ad 372)) (C := RX7) (T := TX7) (N := 13) hx hb ht itX7 hown hK hP 8 rfl rfl 0 (by decide) (ht _ tw_391) (fun _ h9 => h9) rfl dX7_byteAt_13 ?_
      refine lv_iload_n hx hb dX7_byteAt_16 rfl (lv_at hl 1 rfl) ?_
      refine va_iald (D := (dC, dI)) (f := (v.1 372)) hx hb hK hP 28 0 rfl rfl (in_y (a := pa.toInt) (b := 4000) rfl (om_51058f7f87 z3) (om_9e26038ac1 z373 z6) rfl) dX7_byteAt_17 ?_
      refine lv_goto (tgt := 22) hx hb dX7_byteAt_18 (by decide) ?_
      exact W.iret (v := ((v.1 372) pa.toNatClampNeg)) hx hb hr (fun t ht9 hW => ⟨⟨((v.1 372) pa.toNatClampNeg), v, rfl, ⟨rfl, ⟨z373, (Or.inr (⟨z3, (Or.inr (⟨z6, rfl⟩))⟩))⟩⟩, by rw [ht9]; exact hP, hD⟩, hS.F ht9⟩) hS.2.2 dX7_byteAt_22
theorem om_4d11aca694 {x0 x1 : Int} (h0 : 0 ≤ x0 ∧ x0 ≤ 4000) (h1 : 0 ≤ x1 ∧ x1 ≤ x0) (h2 : x1 < x0) : 0 ≤ x0 ∧ x0 ≤ 4000 := by omega
theorem om_9c2bd96bbb {x0 x1 x2 : Int} (h0 : 0 ≤ x0 ∧ x0 ≤ x1) (h1 : x0 < x1) (h2 : x2 = x0 + 1) : 0 ≤ x2 ∧ x2 ≤ x1 := by omega
theorem om_7310d536e1 {x0 x1 x2 : Int} (h0 : x0 = x1 + 1) : x2 - x0 < x2 - x1 := by omega
set_option maxHeartbeats 4000000 in
set_option maxRecDepth 100000 in
theorem c_x_X7_nameBytes (l : Launch) (dC : Nat → ClassId) (dI : Nat → Nat → Nat) (cI cB cZ cJ cR : ClassId) (tb : Nat → Nat) (sz : Nat) (ad : Nat → Nat) (pr : Int32 → Nat) (N : Nat) (L1 L2 : List Nat) (v : MS) (pa : Int32) (z373 : 0 ≤ (v.1 0 373).toInt ∧ (v.1 0 373).toInt ≤ 4000) : Met l yX7_nameBytes (Cond.code yX7_nameBytes cX7_nameBytes 3 (some .int) :: tw_W) ({ frames := 1, cells := 0, slots := 0, locals := 21 }) (pc_ (dC, dI) (tyS cI cB cZ cJ cR) tb (cW ad pr N cI cR L1 L2 v) sz [.ref (ad 908), .int pa]) (qi_ (dC, dI) (cW ad pr N cI cR L1 L2 v) sz (fun (r : Int32) (u : MS) => v = u ∧ (Q_x_X7_nameBytes L1 L2 v pa r)) (fun (u : MS) => (cW ad pr N cI cR L1 L2 u))) 0 0 (va_A (cW ad pr N cI cR L1 L2 v) sz) := by
  refine Met.ofW (cc := cX7_nameBytes) (maxL := 3) (ret := (some .int)) (by decide) rfl ?_
  intro p e s m args below meth c s₁ B hml hv
  obtain ⟨rfl, hsz, hP, hKK, hD0, hFx⟩ := hv
  have hK := hKK.1
  have hx := B.exec
  have hb := B.bytes
  have hr := B.returns
  have ht : ∀ w ∈ tw_W, w.before _ s = true := fun w h => atoms_spec (ws := Cond.code yX7_nameBytes cX7_nameBytes 3 (some .int) :: tw_W) B.pre w (List.mem_cons_of_mem _ h)
  have hown : s.vm.findClass RX7 = some m.cls := findClass_of_methodNamed B.named
  have hlocks := B.notSynchronized
  subst hsz
  unfold qi_
  have hD := hD0.self (sz := s.heap.size)
  generalize hAe : va_A (cW ad pr N cI cR L1 L2 v) s.heap.size = A at hD hFx ⊢
  have hA : ∀ q : Nat, s.heap.size ≤ q → A q := fun q h => by rw [← hAe]; exact Or.inr h
  have hS : va_S A s.heap s.heap [] := va_S.rf
  have hl := lv_entry ([.ref (ad 908), .int pa]) (n := 3) (Nat.le_of_ble_eq_true rfl)
  rw [lg_entry_eq]
  generalize (lg_sl ([.ref (ad 908), .int pa]) ++ List.replicate (3 - (lg_sl ([.ref (ad 908), .int pa])).length) Slot.unset).toArray = ls at hl ⊢
  have hl : lv_has ls 3 [(0, .ref (ad 908)), (1, .int pa)] := hl
  refine lv_iconst (v := 0) hx hb dX7_nameBytes_0 (by decide) ?_
  refine lv_istore_n (lv' := [(2, .int 0), (0, .ref (ad 908)), (1, .int pa)]) hx hb dX7_nameBytes_1 rfl hl (by decide) rfl (fun ls hl => ?_)
  refine lpm_ (X := Int32) (P := (fun (x9 : Int32) (H : Heap) (locs : List Loc) (ls : Array Slot) => (0 ≤ x9.toInt ∧ x9.toInt ≤ (v.1 0 373).toInt) ∧ (RT (Q_x_X7_nameBytes_L0 L1 L2 v pa) 0 x9) ∧ va_P (dC, dI) vwCl (cW ad pr N cI cR L1 L2 v) H ∧ va_D A (cW ad pr N cI cR L1 L2 v) ∧ va_S A s.heap H locs ∧ lv_has ls 3 [(2, .int x9), (0, .ref (ad 908)), (1, .int pa)])) (fun x9 => ((v.1 0 373).toInt - x9.toInt).toNat) 2 (fun ka H locs ls hh ih2 => ?_) 0 _ _ _ ⟨(show 0 ≤ (0 : Int) ∧ (0 : Int) ≤ (v.1 0 373).toInt from (om_ea49f82fb2 z373)), RT.rf, hP, hD, hS, lv_sub hl [0, 1, 2] rfl⟩
  obtain ⟨f1L2, exL2, hP, hD, hS, hl⟩ := hh
  have f1L2 : 0 ≤ ka.toInt ∧ ka.toInt ≤ (v.1 0 373).toInt := f1L2
  have hl : lv_has ls 3 [(2, .int ka), (0, .ref (ad 908)), (1, .int pa)] := hl
  refine lv_iload_n hx hb dX7_nameBytes_2 rfl (lv_at hl 0 rfl) ?_
  refine lv_aload_n hx hb dX7_nameBytes_3 rfl (lv_at hl 1 rfl) ?_
  refine va_get (D := (dC, dI)) (ci := 10) (fs := oF_X7 ad pr v) (v := .int (v.1 0 373)) (C := RX7) (T := TX7) (N := 13) hx hb ht itX7 hown hK hP 8 rfl rfl 1 (by decide) (ht _ tw_390) (fun _ h9 => h9) rfl dX7_nameBytes_4 ?_
  refine lv_icmp_ge (tgt := 31) hx hb dX7_nameBytes_7 (by decide) (fun h1 => ?_) (fun h1 => ?_)
  · have z2 : (v.1 0 373).toInt ≤ ka.toInt := le_z rfl rfl h1
    refine lv_aload_n hx hb dX7_nameBytes_31 rfl (lv_at hl 1 rfl) ?_
    refine va_get (D := (dC, dI)) (ci := 10) (fs := oF_X7 ad pr v) (v := .int (v.1 0 373)) (C := RX7) (T := TX7) (N := 13) hx hb ht itX7 hown hK hP 8 rfl rfl 1 (by decide) (ht _ tw_390) (fun _ h9 => h9) rfl dX7_nameBytes_32 ?_
    exact W.iret (v := (v.1 0 373)) hx hb hr (fun t ht9 hW => ⟨⟨(v.1 0 373), v, rfl, ⟨rfl, ⟨z373, ka, exL2, f1L2, (Or.inl ⟨z2, rfl⟩)⟩⟩, by rw [ht9]; exact hP, hD⟩, hS.F ht9⟩) hS.2.2 dX7_nameBytes_35
  · have z3 : ka.toInt < (v.1 0 373).toInt := nle_z rfl rfl h1
    refine lv_aload_n hx hb dX7_nameBytes_10 rfl (lv_at hl 1 rfl) ?_
    refine lv_iload_n hx hb dX7_nameBytes_11 rfl (lv_at hl 2 rfl) ?_
    refine lv_iload_n hx hb dX7_nameBytes_12 rfl (lv_at hl 0 rfl) ?_
    refine lv_iadd hx hb dX7_nameBytes_13 ?_
    refine cu_i (rn_Vk (n := 1) (As := [.int (pa + ka)]) (rest := []) hx hb hml hown ht hKK hFx hP hD hS hA (c_x_X7_byteAt l dC dI cI cB cZ cJ cR tb H.size ad pr N L1 L2 v (pa + ka) (show 0 ≤ (v.1 0 373).toInt ∧ (v.1 0 373).toInt ≤ 4000 from (om_4d11aca694 z373 f1L2 z3))) tw_392 tw_393 (by decide +kernel) rfl rfl ⟨Nat.le_of_ble_eq_true rfl, Nat.le_of_ble_eq_true rfl⟩ (List.range (cW ad pr N cI cR L1 L2 v).length) (rg_map _) (nd_range _) 8 rfl rfl rfl rfl hl.1 rfl (Nat.le_of_ble_eq_true rfl) dX7_nameBytes_14 ⟨Nat.le_of_ble_eq_true rfl, Nat.le_of_ble_eq_true rfl⟩) hP hD hS hA (fun r6 u5 H locs hw4 hP hD hS => ?_)
    obtain ⟨rfl, ex4⟩ := hw4
    refine W.widen (k := 0) (n := 0) (Nat.le_refl _) (Nat.le_refl _) ?_
    refine cu_s (nd_range _) (rn_S (n := 1) (As := [.int r6]) (rest := []) hx hb hml hown ht hKK hFx hP hD hS hA (c_x_X9_isNamePart l dC dI cI cB cZ cJ cR tb H.size r6 ) tw_394 tw_395 (by decide +kernel) rfl rfl ⟨Nat.le_of_ble_eq_true rfl, Nat.le_of_ble_eq_true rfl⟩ [] rfl rfl rfl hl.1 rfl (Nat.le_of_ble_eq_true rfl) dX7_nameBytes_17 ⟨Nat.le_of_ble_eq_true rfl, Nat.le_of_ble_eq_true rfl⟩) hP hD hS hA (fun r9 H locs hw7 hP hD hS => ?_)
    obtain ⟨ex7, b7, e7⟩ := hw7
    refine W.widen (k := 0) (n := 0) (Nat.le_refl _) (Nat.le_refl _) ?_
    refine lv_if_ne (tgt := 25) hx hb dX7_nameBytes_20 (by decide) (fun h10 => ?_) (fun h10 => ?_)
    · have z11 : r9.toInt ≠ (0 : Int) := ne_z rfl (show (0 : Int32).toInt = (0 : Int) by decide) h10
      refine lv_iinc (v := (ka + (1 : Int32))) (lv' := [(2, .int (ka + (1 : Int32))), (0, .ref (ad 908)), (1, .int pa)]) hx hb dX7_nameBytes_25 hl (k := 0) rfl (rfl) (by decide) rfl (fun ls hl => ?_)
      have z12 : (ka + (1 : Int32)).toInt = ka.toInt + 1 := inc_lt z3
      refine lv_goto (tgt := 2) hx hb dX7_nameBytes_28 (by decide) ?_
      exact ih2 (ka + (1 : Int32)) _ _ _ (show ((v.1 0 373).toInt - (ka + (1 : Int32)).toInt).toNat < ((v.1 0 373).toInt - ka.toInt).toNat from tn_z (om_7310d536e1 z12) (om_fe525f7549 z3)) ⟨(show 0 ≤ (ka + (1 : Int32)).toInt ∧ (ka + (1 : Int32)).toInt ≤ (v.1 0 373).toInt from (om_9c2bd96bbb f1L2 z3 z12)), (RT.st exL2 ⟨f1L2, z3, r6, ex4, r9, ex7, ⟨b7, e7⟩, z11, rfl⟩), hP, hD, hS, lv_sub hl [0, 1, 2] rfl⟩
    · have z13 : r9.toInt = (0 : Int) := eq_z rfl (show (0 : Int32).toInt = (0 : Int) by decide) h10
      refine lv_iload_n hx hb dX7_nameBytes_23 rfl (lv_at hl 0 rfl) ?_
      exact W.iret (v := ka) hx hb hr (fun t ht9 hW => ⟨⟨ka, v, rfl, ⟨rfl, ⟨z373, ka, exL2, f1L2, (Or.inr (⟨z3, r6, ex4, r9, ex7, ⟨b7, e7⟩, z13, rfl⟩))⟩⟩, by rw [ht9]; exact hP, hD⟩, hS.F ht9⟩) hS.2.2 dX7_nameBytes_24
theorem om_743a2dab1c {x0 : Int} : x0 ≠ 0 ∨ (-1 : Int) ≤ 1000 := by omega
theorem om_30d7eaa561 {x0 : Int} (h0 : x0 < (40 : Int)) : x0 < 40 := by omega
theorem om_11d3386a82 {x0 : Int} (h0 : x0 < (6 : Int)) : x0 < 6 := by omega
theorem om_c78168a6c2 {x0 x1 : Int} (h0 : x0 ≠ 0 ∨ x1 ≤ 1000) : x0 ≠ 0 ∨ x1 ≤ 1000 := by omega
set_option maxHeartbeats 4000000 in
set_option maxRecDepth 100000 in
theorem c_x_X7_functionFact (l : Launch) (dC : Nat → ClassId) (dI : Nat → Nat → Nat) (cI cB cZ cJ cR : ClassId) (tb : Nat → Nat) (sz : Nat) (ad : Nat → Nat) (pr : Int32 → Nat) (N : Nat) (L1 L2 : List Nat) (v : MS) (pa : Int32) (pb : Int32) (hL1 : L1.length = 40) (hL2 : L2.length = 60) (rp : RP v) : Met l yX7_functionFact (Cond.code yX7_functionFact cX7_functionFact 3 (some .int) :: tw_W) ({ frames := 0, cells := 0, slots := 0, locals := 0 }) (pc_ (dC, dI) (tyS cI cB cZ cJ cR) tb (cW ad pr N cI cR L1 L2 v) sz [.ref (ad 908), .int pa, .int pb]) (qi_ (dC, dI) (cW ad pr N cI cR L1 L2 v) sz (fun (r : Int32) (u : MS) => v = u ∧ (Q_x_X7_functionFact L1 L2 v pa pb r) ∧ (pb.toInt ≠ 0 ∨ r.toInt ≤ 1000) ∧ (r.toInt ≤ 2147483647)) (fun (u : MS) => (cW ad pr N cI cR L1 L2 u))) 0 0 (va_A (cW ad pr N cI cR L1 L2 v) sz) := by
  refine Met.ofW (cc := cX7_functionFact) (maxL := 3) (ret := (some .int)) (by decide) rfl ?_
  intro p e s m args below meth c s₁ B hml hv
  obtain ⟨rfl, hsz, hP, hKK, hD0, hFx⟩ := hv
  have hK := hKK.1
  have hx := B.exec
  have hb := B.bytes
  have hr := B.returns
  have ht : ∀ w ∈ tw_W, w.before _ s = true := fun w h => atoms_spec (ws := Cond.code yX7_functionFact cX7_functionFact 3 (some .int) :: tw_W) B.pre w (List.mem_cons_of_mem _ h)
  have hown : s.vm.findClass RX7 = some m.cls := findClass_of_methodNamed B.named
  have hlocks := B.notSynchronized
  subst hsz
  unfold qi_
  have hD := hD0.self (sz := s.heap.size)
  generalize hAe : va_A (cW ad pr N cI cR L1 L2 v) s.heap.size = A at hD hFx ⊢
  have hA : ∀ q : Nat, s.heap.size ≤ q → A q := fun q h => by rw [← hAe]; exact Or.inr h
  have hS : va_S A s.heap s.heap [] := va_S.rf
  have hl := lv_entry ([.ref (ad 908), .int pa, .int pb]) (n := 3) (Nat.le_of_ble_eq_true rfl)
  rw [lg_entry_eq]
  generalize (lg_sl ([.ref (ad 908), .int pa, .int pb]) ++ List.replicate (3 - (lg_sl ([.ref (ad 908), .int pa, .int pb])).length) Slot.unset).toArray = ls at hl ⊢
  have hl : lv_has ls 3 [(0, .ref (ad 908)), (1, .int pa), (2, .int pb)] := hl
  refine lv_iload_n hx hb dX7_functionFact_0 rfl (lv_at hl 1 rfl) ?_
  refine lv_if_lt (tgt := 21) hx hb dX7_functionFact_1 (by decide) (fun h1 => ?_) (fun h1 => ?_)
  · have z2 : pa.toInt < (0 : Int) := lt_z rfl (show (0 : Int32).toInt = (0 : Int) by decide) h1
    refine lv_iconst (v := -1) hx hb dX7_functionFact_21 (by decide) ?_
    exact W.iret (v := (-1)) hx hb hr (fun t ht9 hW => ⟨⟨(-1), v, rfl, ⟨rfl, (Or.inl ⟨z2, rfl⟩), ⟨om_743a2dab1c, i32le _⟩⟩, by rw [ht9]; exact hP, hD⟩, hS.F ht9⟩) hS.2.2 dX7_functionFact_22
  · have z3 : (0 : Int) ≤ pa.toInt := nlt_z rfl (show (0 : Int32).toInt = (0 : Int) by decide) h1
    refine lv_iload_n hx hb dX7_functionFact_4 rfl (lv_at hl 1 rfl) ?_
    refine lv_aload_n hx hb dX7_functionFact_5 rfl (lv_at hl 0 rfl) ?_
    refine va_get (D := (dC, dI)) (ci := 10) (fs := oF_X7 ad pr v) (v := .int (v.1 0 375)) (C := RX7) (T := TX7) (N := 13) hx hb ht itX7 hown hK hP 8 rfl rfl 3 (by decide) (ht _ tw_396) (fun _ h9 => h9) rfl dX7_functionFact_6 ?_
    refine lv_icmp_ge (tgt := 21) hx hb dX7_functionFact_9 (by decide) (fun h4 => ?_) (fun h4 => ?_)
    · have z5 : (v.1 0 375).toInt ≤ pa.toInt := le_z rfl rfl h4
      refine lv_iconst (v := -1) hx hb dX7_functionFact_21 (by decide) ?_
      exact W.iret (v := (-1)) hx hb hr (fun t ht9 hW => ⟨⟨(-1), v, rfl, ⟨rfl, (Or.inr (⟨z3, (Or.inl ⟨z5, rfl⟩)⟩)), ⟨om_743a2dab1c, i32le _⟩⟩, by rw [ht9]; exact hP, hD⟩, hS.F ht9⟩) hS.2.2 dX7_functionFact_22
    · have z6 : pa.toInt < (v.1 0 375).toInt := nle_z rfl rfl h4
      refine lv_iload_n hx hb dX7_functionFact_12 rfl (lv_at hl 1 rfl) ?_
      refine lv_aload_n hx hb dX7_functionFact_13 rfl (lv_at hl 0 rfl) ?_
      refine va_get (D := (dC, dI)) (ci := 10) (fs := oF_X7 ad pr v) (v := .ref (ad 374)) (C := RX7) (T := TX7) (N := 13) hx hb ht itX7 hown hK hP 8 rfl rfl 2 (by decide) (ht _ tw_397) (fun _ h9 => h9) rfl dX7_functionFact_14 ?_
      refine va_alen (D := (dC, dI)) (v := 40) hx hb hK hP 33 4 rfl rfl rfl dX7_functionFact_17 ?_
      refine lv_icmp_lt (tgt := 23) hx hb dX7_functionFact_18 (by decide) (fun h7 => ?_) (fun h7 => ?_)
      · have z8 : pa.toInt < (40 : Int) := lt_z rfl (show (40 : Int32).toInt = (40 : Int) by decide) h7
        refine lv_iload_n hx hb dX7_functionFact_23 rfl (lv_at hl 2 rfl) ?_
        refine lv_if_lt (tgt := 49) hx hb dX7_functionFact_24 (by decide) (fun h9 => ?_) (fun h9 => ?_)
        · have z10 : pb.toInt < (0 : Int) := lt_z rfl (show (0 : Int32).toInt = (0 : Int) by decide) h9
          refine lv_iconst (v := -1) hx hb dX7_functionFact_49 (by decide) ?_
          exact W.iret (v := (-1)) hx hb hr (fun t ht9 hW => ⟨⟨(-1), v, rfl, ⟨rfl, (Or.inr (⟨z3, (Or.inr (⟨z6, (Or.inl ⟨z8, (Or.inl ⟨z10, rfl⟩)⟩)⟩))⟩)), ⟨om_743a2dab1c, i32le _⟩⟩, by rw [ht9]; exact hP, hD⟩, hS.F ht9⟩) hS.2.2 dX7_functionFact_50
        · have z11 : (0 : Int) ≤ pb.toInt := nlt_z rfl (show (0 : Int32).toInt = (0 : Int) by decide) h9
          refine lv_iload_n hx hb dX7_functionFact_27 rfl (lv_at hl 2 rfl) ?_
          refine lv_aload_n hx hb dX7_functionFact_28 rfl (lv_at hl 0 rfl) ?_
          refine va_get (D := (dC, dI)) (ci := 10) (fs := oF_X7 ad pr v) (v := .ref (ad 374)) (C := RX7) (T := TX7) (N := 13) hx hb ht itX7 hown hK hP 8 rfl rfl 2 (by decide) (ht _ tw_397) (fun _ h9 => h9) rfl dX7_functionFact_29 ?_
          refine lv_iload_n hx hb dX7_functionFact_32 rfl (lv_at hl 1 rfl) ?_
          refine va_alda hx hb hK hP 33 4 rfl rfl (in_y (a := pa.toInt) (b := 40) rfl (om_51058f7f87 z3) (om_30d7eaa561 z8) rfl) dX7_functionFact_33 ?_
          have hq12 : pa.toNatClampNeg < L1.length := by rw [hL1]; have h9 := nat_z (x := pa) (om_51058f7f87 z3); have h8 : pa.toInt < 40 := (om_30d7eaa561 z8); omega
          refine W.eq (g2 := F0 m 34 ls [.ref (rowA L1 pa.toNatClampNeg), .int pb]) (by rw [rowA_some hq12]; rfl) ?_
          obtain ⟨kr13, hk14, hk14s⟩ := row1_get (ad := ad) (pr := pr) (N := N) (cI := cI) (cR := cR) (L1 := L1) (L2 := L2) (v := v) hD (rowA_mem hq12)
          refine va_alen (D := (dC, dI)) (v := 6) hx hb hK hP kr13 0 hk14 rfl rfl dX7_functionFact_34 ?_
          refine lv_icmp_ge (tgt := 49) hx hb dX7_functionFact_35 (by decide) (fun h15 => ?_) (fun h15 => ?_)
          · have z16 : (6 : Int) ≤ pb.toInt := le_z (show (6 : Int32).toInt = (6 : Int) by decide) rfl h15
            refine lv_iconst (v := -1) hx hb dX7_functionFact_49 (by decide) ?_
            exact W.iret (v := (-1)) hx hb hr (fun t ht9 hW => ⟨⟨(-1), v, rfl, ⟨rfl, (Or.inr (⟨z3, (Or.inr (⟨z6, (Or.inl ⟨z8, (Or.inr (⟨z11, (Or.inl ⟨z16, rfl⟩)⟩))⟩)⟩))⟩)), ⟨om_743a2dab1c, i32le _⟩⟩, by rw [ht9]; exact hP, hD⟩, hS.F ht9⟩) hS.2.2 dX7_functionFact_50
          · have z17 : pb.toInt < (6 : Int) := nle_z (show (6 : Int32).toInt = (6 : Int) by decide) rfl h15
            refine lv_aload_n hx hb dX7_functionFact_38 rfl (lv_at hl 0 rfl) ?_
            refine va_get (D := (dC, dI)) (ci := 10) (fs := oF_X7 ad pr v) (v := .ref (ad 374)) (C := RX7) (T := TX7) (N := 13) hx hb ht itX7 hown hK hP 8 rfl rfl 2 (by decide) (ht _ tw_397) (fun _ h9 => h9) rfl dX7_functionFact_39 ?_
            refine lv_iload_n hx hb dX7_functionFact_42 rfl (lv_at hl 1 rfl) ?_
            refine va_alda hx hb hK hP 33 4 rfl rfl (in_y (a := pa.toInt) (b := 40) rfl (om_51058f7f87 z3) (om_30d7eaa561 z8) rfl) dX7_functionFact_43 ?_
            have hq18 : pa.toNatClampNeg < L1.length := by rw [hL1]; have h9 := nat_z (x := pa) (om_51058f7f87 z3); have h8 : pa.toInt < 40 := (om_30d7eaa561 z8); omega
            refine W.eq (g2 := F0 m 44 ls [.ref (rowA L1 pa.toNatClampNeg)]) (by rw [rowA_some hq18]; rfl) ?_
            refine lv_iload_n hx hb dX7_functionFact_44 rfl (lv_at hl 2 rfl) ?_
            obtain ⟨kr19, hk20, hk20s⟩ := row1_get (ad := ad) (pr := pr) (N := N) (cI := cI) (cR := cR) (L1 := L1) (L2 := L2) (v := v) hD (rowA_mem hq18)
            refine va_iald (D := (dC, dI)) (f := v.1 (5000 + (rowA L1 pa.toNatClampNeg))) hx hb hK hP kr19 0 hk20 rfl (in_y (a := pb.toInt) (b := 6) rfl (om_51058f7f87 z11) (om_11d3386a82 z17) rfl) dX7_functionFact_45 ?_
            refine lv_goto (tgt := 50) hx hb dX7_functionFact_46 (by decide) ?_
            have q21 : pb.toInt ≠ 0 ∨ (v.1 (5000 + (rowA L1 pa.toNatClampNeg)) pb.toNatClampNeg).toInt ≤ 1000 := RP.at rp (om_51058f7f87 z11)
            exact W.iret (v := (v.1 (5000 + (rowA L1 pa.toNatClampNeg)) pb.toNatClampNeg)) hx hb hr (fun t ht9 hW => ⟨⟨(v.1 (5000 + (rowA L1 pa.toNatClampNeg)) pb.toNatClampNeg), v, rfl, ⟨rfl, (Or.inr (⟨z3, (Or.inr (⟨z6, (Or.inl ⟨z8, (Or.inr (⟨z11, (Or.inr (⟨z17, rfl⟩))⟩))⟩)⟩))⟩)), ⟨(om_c78168a6c2 q21), i32le _⟩⟩, by rw [ht9]; exact hP, hD⟩, hS.F ht9⟩) hS.2.2 dX7_functionFact_50
      · have z22 : (40 : Int) ≤ pa.toInt := nlt_z rfl (show (40 : Int32).toInt = (40 : Int) by decide) h7
        refine lv_iconst (v := -1) hx hb dX7_functionFact_21 (by decide) ?_
        exact W.iret (v := (-1)) hx hb hr (fun t ht9 hW => ⟨⟨(-1), v, rfl, ⟨rfl, (Or.inr (⟨z3, (Or.inr (⟨z6, (Or.inr (⟨z22, rfl⟩))⟩))⟩)), ⟨om_743a2dab1c, i32le _⟩⟩, by rw [ht9]; exact hP, hD⟩, hS.F ht9⟩) hS.2.2 dX7_functionFact_22
set_option maxHeartbeats 4000000 in
set_option maxRecDepth 100000 in
theorem c_x_X7_changeFunction (l : Launch) (dC : Nat → ClassId) (dI : Nat → Nat → Nat) (cI cB cZ cJ cR : ClassId) (tb : Nat → Nat) (sz : Nat) (ad : Nat → Nat) (pr : Int32 → Nat) (N : Nat) (L1 L2 : List Nat) (v : MS) (pa : Int32) (pb : Int32) (pc1 : Int32) (hL1 : L1.length = 40) (hL2 : L2.length = 60) (rp : RP v) (zp : pb.toInt ≠ 0 ∨ pc1.toInt ≤ 1000) : Met l yX7_changeFunction (Cond.code yX7_changeFunction cX7_changeFunction 4 none :: tw_W) ({ frames := 0, cells := 0, slots := 0, locals := 0 }) (pc_ (dC, dI) (tyS cI cB cZ cJ cR) tb (cW ad pr N cI cR L1 L2 v) sz [.ref (ad 908), .int pa, .int pb, .int pc1]) (qv_ (dC, dI) (cW ad pr N cI cR L1 L2 v) sz (fun (u : MS) => FC [] [0] v u ∧ (Q_x_X7_changeFunction L1 L2 v pa pb pc1 u)) (fun (u : MS) => (cW ad pr N cI cR L1 L2 u))) 0 0 (va_A (cW ad pr N cI cR L1 L2 v) sz) := by
  refine Met.ofW (cc := cX7_changeFunction) (maxL := 4) (ret := none) (by decide) rfl ?_
  intro p e s m args below meth c s₁ B hml hv
  obtain ⟨rfl, hsz, hP, hKK, hD0, hFx⟩ := hv
  have hK := hKK.1
  have hx := B.exec
  have hb := B.bytes
  have hr := B.returns
  have ht : ∀ w ∈ tw_W, w.before _ s = true := fun w h => atoms_spec (ws := Cond.code yX7_changeFunction cX7_changeFunction 4 none :: tw_W) B.pre w (List.mem_cons_of_mem _ h)
  have hown : s.vm.findClass RX7 = some m.cls := findClass_of_methodNamed B.named
  have hlocks := B.notSynchronized
  subst hsz
  unfold qv_
  have hD := hD0.self (sz := s.heap.size)
  generalize hAe : va_A (cW ad pr N cI cR L1 L2 v) s.heap.size = A at hD hFx ⊢
  have hA : ∀ q : Nat, s.heap.size ≤ q → A q := fun q h => by rw [← hAe]; exact Or.inr h
  have hS : va_S A s.heap s.heap [] := va_S.rf
  have hl := lv_entry ([.ref (ad 908), .int pa, .int pb, .int pc1]) (n := 4) (Nat.le_of_ble_eq_true rfl)
  rw [lg_entry_eq]
  generalize (lg_sl ([.ref (ad 908), .int pa, .int pb, .int pc1]) ++ List.replicate (4 - (lg_sl ([.ref (ad 908), .int pa, .int pb, .int pc1])).length) Slot.unset).toArray = ls at hl ⊢
  have hl : lv_has ls 4 [(0, .ref (ad 908)), (1, .int pa), (2, .int pb), (3, .int pc1)] := hl
  refine lv_iload_n hx hb dX7_changeFunction_0 rfl (lv_at hl 1 rfl) ?_
  refine lv_if_lt (tgt := 37) hx hb dX7_changeFunction_1 (by decide) (fun h1 => ?_) (fun h1 => ?_)
  · have z2 : pa.toInt < (0 : Int) := lt_z rfl (show (0 : Int32).toInt = (0 : Int) by decide) h1
    exact W.vret hx hb hr (fun t ht9 hW => ⟨⟨v, rfl, ⟨(FC.rf _), ⟨zp, (Or.inl ⟨z2, rfl⟩)⟩⟩, by rw [ht9]; exact hP, hD⟩, hS.F ht9⟩) hS.2.2 dX7_changeFunction_37
  · have z3 : (0 : Int) ≤ pa.toInt := nlt_z rfl (show (0 : Int32).toInt = (0 : Int) by decide) h1
    refine lv_iload_n hx hb dX7_changeFunction_4 rfl (lv_at hl 1 rfl) ?_
    refine lv_aload_n hx hb dX7_changeFunction_5 rfl (lv_at hl 0 rfl) ?_
    refine va_get (D := (dC, dI)) (ci := 10) (fs := oF_X7 ad pr v) (v := .ref (ad 374)) (C := RX7) (T := TX7) (N := 13) hx hb ht itX7 hown hK hP 8 rfl rfl 2 (by decide) (ht _ tw_397) (fun _ h9 => h9) rfl dX7_changeFunction_6 ?_
    refine va_alen (D := (dC, dI)) (v := 40) hx hb hK hP 33 4 rfl rfl rfl dX7_changeFunction_9 ?_
    refine lv_icmp_ge (tgt := 37) hx hb dX7_changeFunction_10 (by decide) (fun h4 => ?_) (fun h4 => ?_)
    · have z5 : (40 : Int) ≤ pa.toInt := le_z (show (40 : Int32).toInt = (40 : Int) by decide) rfl h4
      exact W.vret hx hb hr (fun t ht9 hW => ⟨⟨v, rfl, ⟨(FC.rf _), ⟨zp, (Or.inr (⟨z3, (Or.inl ⟨z5, rfl⟩)⟩))⟩⟩, by rw [ht9]; exact hP, hD⟩, hS.F ht9⟩) hS.2.2 dX7_changeFunction_37
    · have z6 : pa.toInt < (40 : Int) := nle_z (show (40 : Int32).toInt = (40 : Int) by decide) rfl h4
      refine lv_iload_n hx hb dX7_changeFunction_13 rfl (lv_at hl 2 rfl) ?_
      refine lv_if_lt (tgt := 37) hx hb dX7_changeFunction_14 (by decide) (fun h7 => ?_) (fun h7 => ?_)
      · have z8 : pb.toInt < (0 : Int) := lt_z rfl (show (0 : Int32).toInt = (0 : Int) by decide) h7
        exact W.vret hx hb hr (fun t ht9 hW => ⟨⟨v, rfl, ⟨(FC.rf _), ⟨zp, (Or.inr (⟨z3, (Or.inr (⟨z6, (Or.inl ⟨z8, rfl⟩)⟩))⟩))⟩⟩, by rw [ht9]; exact hP, hD⟩, hS.F ht9⟩) hS.2.2 dX7_changeFunction_37
      · have z9 : (0 : Int) ≤ pb.toInt := nlt_z rfl (show (0 : Int32).toInt = (0 : Int) by decide) h7
        refine lv_iload_n hx hb dX7_changeFunction_17 rfl (lv_at hl 2 rfl) ?_
        refine lv_aload_n hx hb dX7_changeFunction_18 rfl (lv_at hl 0 rfl) ?_
        refine va_get (D := (dC, dI)) (ci := 10) (fs := oF_X7 ad pr v) (v := .ref (ad 374)) (C := RX7) (T := TX7) (N := 13) hx hb ht itX7 hown hK hP 8 rfl rfl 2 (by decide) (ht _ tw_397) (fun _ h9 => h9) rfl dX7_changeFunction_19 ?_
        refine lv_iload_n hx hb dX7_changeFunction_22 rfl (lv_at hl 1 rfl) ?_
        refine va_alda hx hb hK hP 33 4 rfl rfl (in_y (a := pa.toInt) (b := 40) rfl (om_51058f7f87 z3) (om_30d7eaa561 z6) rfl) dX7_changeFunction_23 ?_
        have hq10 : pa.toNatClampNeg < L1.length := by rw [hL1]; have h9 := nat_z (x := pa) (om_51058f7f87 z3); have h8 : pa.toInt < 40 := (om_30d7eaa561 z6); omega
        refine W.eq (g2 := F0 m 24 ls [.ref (rowA L1 pa.toNatClampNeg), .int pb]) (by rw [rowA_some hq10]; rfl) ?_
        obtain ⟨kr11, hk12, hk12s⟩ := row1_get (ad := ad) (pr := pr) (N := N) (cI := cI) (cR := cR) (L1 := L1) (L2 := L2) (v := v) hD (rowA_mem hq10)
        refine va_alen (D := (dC, dI)) (v := 6) hx hb hK hP kr11 0 hk12 rfl rfl dX7_changeFunction_24 ?_
        refine lv_icmp_ge (tgt := 37) hx hb dX7_changeFunction_25 (by decide) (fun h13 => ?_) (fun h13 => ?_)
        · have z14 : (6 : Int) ≤ pb.toInt := le_z (show (6 : Int32).toInt = (6 : Int) by decide) rfl h13
          exact W.vret hx hb hr (fun t ht9 hW => ⟨⟨v, rfl, ⟨(FC.rf _), ⟨zp, (Or.inr (⟨z3, (Or.inr (⟨z6, (Or.inr (⟨z9, (Or.inl ⟨z14, rfl⟩)⟩))⟩))⟩))⟩⟩, by rw [ht9]; exact hP, hD⟩, hS.F ht9⟩) hS.2.2 dX7_changeFunction_37
        · have z15 : pb.toInt < (6 : Int) := nle_z (show (6 : Int32).toInt = (6 : Int) by decide) rfl h13
          refine lv_aload_n hx hb dX7_changeFunction_28 rfl (lv_at hl 0 rfl) ?_
          refine va_get (D := (dC, dI)) (ci := 10) (fs := oF_X7 ad pr v) (v := .ref (ad 374)) (C := RX7) (T := TX7) (N := 13) hx hb ht itX7 hown hK hP 8 rfl rfl 2 (by decide) (ht _ tw_397) (fun _ h9 => h9) rfl dX7_changeFunction_29 ?_
          refine lv_iload_n hx hb dX7_changeFunction_32 rfl (lv_at hl 1 rfl) ?_
          refine va_alda hx hb hK hP 33 4 rfl rfl (in_y (a := pa.toInt) (b := 40) rfl (om_51058f7f87 z3) (om_30d7eaa561 z6) rfl) dX7_changeFunction_33 ?_
          have hq16 : pa.toNatClampNeg < L1.length := by rw [hL1]; have h9 := nat_z (x := pa) (om_51058f7f87 z3); have h8 : pa.toInt < 40 := (om_30d7eaa561 z6); omega
          refine W.eq (g2 := F0 m 34 ls [.ref (rowA L1 pa.toNatClampNeg)]) (by rw [rowA_some hq16]; rfl) ?_
          refine lv_iload_n hx hb dX7_changeFunction_34 rfl (lv_at hl 2 rfl) ?_
          refine lv_iload_n hx hb dX7_changeFunction_35 rfl (lv_at hl 3 rfl) ?_
          obtain ⟨kr17, hk18, hk18s⟩ := row1_get (ad := ad) (pr := pr) (N := N) (cI := cI) (cR := cR) (L1 := L1) (L2 := L2) (v := v) hD (rowA_mem hq16)
          refine va_iast (D := (dC, dI)) (f := v.1 (5000 + (rowA L1 pa.toNatClampNeg))) hx hb hK hP hD hS kr17 0 hk18 rfl (in_y (a := pb.toInt) (b := 6) rfl (om_51058f7f87 z9) (om_11d3386a82 z15) rfl) dX7_changeFunction_36 (fun H locs hP hD hS => ?_)
          have rw19 : 0 ≤ pb.toInt := (om_51058f7f87 z9)
          have rw20 : pb.toInt ≠ 0 ∨ pc1.toInt ≤ 1000 := (om_c78168a6c2 zp)
          have hP := cP_ (hk18s pb.toNatClampNeg pc1) hP
          have hD := cD_ (hk18s pb.toNatClampNeg pc1) hD
          exact W.vret hx hb hr (fun t ht9 hW => ⟨⟨(wA v (5000 + (rowA L1 pa.toNatClampNeg)) pb.toNatClampNeg pc1), rfl, ⟨(FC.row (FC.rf _) _ rw19 rw20), ⟨zp, (Or.inr (⟨z3, (Or.inr (⟨z6, (Or.inr (⟨z9, (Or.inr (⟨z15, rfl⟩))⟩))⟩))⟩))⟩⟩, by rw [ht9]; exact hP, hD⟩, hS.F ht9⟩) hS.2.2 dX7_changeFunction_37
theorem om_db977a0953 {x0 x1 : Int} (h0 : 0 ≤ x0) (h1 : x1 = x0 + 1) : 0 ≤ x1 := by omega
set_option maxHeartbeats 4000000 in
set_option maxRecDepth 100000 in
theorem c_x_X7_functionNamed (l : Launch) (dC : Nat → ClassId) (dI : Nat → Nat → Nat) (cI cB cZ cJ cR : ClassId) (tb : Nat → Nat) (sz : Nat) (ad : Nat → Nat) (pr : Int32 → Nat) (N : Nat) (L1 L2 : List Nat) (v : MS) (pa : Int32) (hL1 : L1.length = 40) (hL2 : L2.length = 60) (rp : RP v) : Met l yX7_functionNamed (Cond.code yX7_functionNamed cX7_functionNamed 3 (some .int) :: tw_W) ({ frames := 1, cells := 0, slots := 0, locals := 22 }) (pc_ (dC, dI) (tyS cI cB cZ cJ cR) tb (cW ad pr N cI cR L1 L2 v) sz [.ref (ad 908), .int pa]) (qi_ (dC, dI) (cW ad pr N cI cR L1 L2 v) sz (fun (r : Int32) (u : MS) => v = u ∧ (Q_x_X7_functionNamed L1 L2 v pa r)) (fun (u : MS) => (cW ad pr N cI cR L1 L2 u))) 0 0 (va_A (cW ad pr N cI cR L1 L2 v) sz) := by
  refine Met.ofW (cc := cX7_functionNamed) (maxL := 3) (ret := (some .int)) (by decide) rfl ?_
  intro p e s m args below meth c s₁ B hml hv
  obtain ⟨rfl, hsz, hP, hKK, hD0, hFx⟩ := hv
  have hK := hKK.1
  have hx := B.exec
  have hb := B.bytes
  have hr := B.returns
  have ht : ∀ w ∈ tw_W, w.before _ s = true := fun w h => atoms_spec (ws := Cond.code yX7_functionNamed cX7_functionNamed 3 (some .int) :: tw_W) B.pre w (List.mem_cons_of_mem _ h)
  have hown : s.vm.findClass RX7 = some m.cls := findClass_of_methodNamed B.named
  have hlocks := B.notSynchronized
  subst hsz
  unfold qi_
  have hD := hD0.self (sz := s.heap.size)
  generalize hAe : va_A (cW ad pr N cI cR L1 L2 v) s.heap.size = A at hD hFx ⊢
  have hA : ∀ q : Nat, s.heap.size ≤ q → A q := fun q h => by rw [← hAe]; exact Or.inr h
  have hS : va_S A s.heap s.heap [] := va_S.rf
  have hl := lv_entry ([.ref (ad 908), .int pa]) (n := 3) (Nat.le_of_ble_eq_true rfl)
  rw [lg_entry_eq]
  generalize (lg_sl ([.ref (ad 908), .int pa]) ++ List.replicate (3 - (lg_sl ([.ref (ad 908), .int pa])).length) Slot.unset).toArray = ls at hl ⊢
  have hl : lv_has ls 3 [(0, .ref (ad 908)), (1, .int pa)] := hl
  refine lv_iconst (v := 0) hx hb dX7_functionNamed_0 (by decide) ?_
  refine lv_istore_n (lv' := [(2, .int 0), (0, .ref (ad 908)), (1, .int pa)]) hx hb dX7_functionNamed_1 rfl hl (by decide) rfl (fun ls hl => ?_)
  refine lpm_ (X := Int32) (P := (fun (x9 : Int32) (H : Heap) (locs : List Loc) (ls : Array Slot) => (0 ≤ x9.toInt) ∧ (RT (Q_x_X7_functionNamed_L0 L1 L2 v pa) 0 x9) ∧ va_P (dC, dI) vwCl (cW ad pr N cI cR L1 L2 v) H ∧ va_D A (cW ad pr N cI cR L1 L2 v) ∧ va_S A s.heap H locs ∧ lv_has ls 3 [(2, .int x9), (0, .ref (ad 908)), (1, .int pa)])) (fun x9 => ((v.1 0 375).toInt - x9.toInt).toNat) 2 (fun ka H locs ls hh ih2 => ?_) 0 _ _ _ ⟨(show 0 ≤ (0 : Int) from om_342087eeda), RT.rf, hP, hD, hS, lv_sub hl [0, 1, 2] rfl⟩
  obtain ⟨f1L2, exL2, hP, hD, hS, hl⟩ := hh
  have f1L2 : 0 ≤ ka.toInt := f1L2
  have hl : lv_has ls 3 [(2, .int ka), (0, .ref (ad 908)), (1, .int pa)] := hl
  refine lv_iload_n hx hb dX7_functionNamed_2 rfl (lv_at hl 0 rfl) ?_
  refine lv_aload_n hx hb dX7_functionNamed_3 rfl (lv_at hl 1 rfl) ?_
  refine va_get (D := (dC, dI)) (ci := 10) (fs := oF_X7 ad pr v) (v := .int (v.1 0 375)) (C := RX7) (T := TX7) (N := 13) hx hb ht itX7 hown hK hP 8 rfl rfl 3 (by decide) (ht _ tw_396) (fun _ h9 => h9) rfl dX7_functionNamed_4 ?_
  refine lv_icmp_ge (tgt := 28) hx hb dX7_functionNamed_7 (by decide) (fun h1 => ?_) (fun h1 => ?_)
  · have z2 : (v.1 0 375).toInt ≤ ka.toInt := le_z rfl rfl h1
    refine lv_iconst (v := -1) hx hb dX7_functionNamed_28 (by decide) ?_
    exact W.iret (v := (-1)) hx hb hr (fun t ht9 hW => ⟨⟨(-1), v, rfl, ⟨rfl, ⟨ka, exL2, f1L2, (Or.inl ⟨z2, rfl⟩)⟩⟩, by rw [ht9]; exact hP, hD⟩, hS.F ht9⟩) hS.2.2 dX7_functionNamed_29
  · have z3 : ka.toInt < (v.1 0 375).toInt := nle_z rfl rfl h1
    refine lv_aload_n hx hb dX7_functionNamed_10 rfl (lv_at hl 1 rfl) ?_
    refine lv_iload_n hx hb dX7_functionNamed_11 rfl (lv_at hl 0 rfl) ?_
    refine lv_iconst (v := 4) hx hb dX7_functionNamed_12 (by decide) ?_
    refine cu_i (rn_Vk (n := 2) (As := [.int ka, .int 4]) (rest := []) hx hb hml hown ht hKK hFx hP hD hS hA (c_x_X7_functionFact l dC dI cI cB cZ cJ cR tb H.size ad pr N L1 L2 v ka (4 : Int32) (show L1.length = 40 from hL1) (show L2.length = 60 from hL2) (show RP v from rp)) tw_398 tw_399 (by decide +kernel) rfl rfl ⟨Nat.le_of_ble_eq_true rfl, Nat.le_of_ble_eq_true rfl⟩ (List.range (cW ad pr N cI cR L1 L2 v).length) (rg_map _) (nd_range _) 8 rfl rfl rfl rfl hl.1 rfl (Nat.le_of_ble_eq_true rfl) dX7_functionNamed_13 ⟨Nat.le_of_ble_eq_true rfl, Nat.le_of_ble_eq_true rfl⟩) hP hD hS hA (fun r6 u5 H locs hw4 hP hD hS => ?_)
    obtain ⟨rfl, ex4, c4, d4⟩ := hw4
    have c4 : ((4 : Int) ≠ 0 ∨ r6.toInt ≤ 1000) := c4
    refine W.widen (k := 0) (n := 0) (Nat.le_refl _) (Nat.le_refl _) ?_
    refine lv_iload_n hx hb dX7_functionNamed_16 rfl (lv_at hl 2 rfl) ?_
    refine lv_icmp_ne (tgt := 22) hx hb dX7_functionNamed_17 (by decide) (fun h7 => ?_) (fun h7 => ?_)
    · have z8 : r6.toInt ≠ pa.toInt := ne_z rfl rfl h7
      refine lv_iinc (v := (ka + (1 : Int32))) (lv' := [(2, .int (ka + (1 : Int32))), (0, .ref (ad 908)), (1, .int pa)]) hx hb dX7_functionNamed_22 hl (k := 0) rfl (rfl) (by decide) rfl (fun ls hl => ?_)
      have z9 : (ka + (1 : Int32)).toInt = ka.toInt + 1 := inc_lt z3
      refine lv_goto (tgt := 2) hx hb dX7_functionNamed_25 (by decide) ?_
      exact ih2 (ka + (1 : Int32)) _ _ _ (show ((v.1 0 375).toInt - (ka + (1 : Int32)).toInt).toNat < ((v.1 0 375).toInt - ka.toInt).toNat from tn_z (om_7310d536e1 z9) (om_fe525f7549 z3)) ⟨(show 0 ≤ (ka + (1 : Int32)).toInt from (om_db977a0953 f1L2 z9)), (RT.st exL2 ⟨f1L2, z3, r6, ex4, ⟨c4, d4⟩, z8, rfl⟩), hP, hD, hS, lv_sub hl [0, 1, 2] rfl⟩
    · have z10 : r6.toInt = pa.toInt := eq_z rfl rfl h7
      refine lv_iload_n hx hb dX7_functionNamed_20 rfl (lv_at hl 0 rfl) ?_
      exact W.iret (v := ka) hx hb hr (fun t ht9 hW => ⟨⟨ka, v, rfl, ⟨rfl, ⟨ka, exL2, f1L2, (Or.inr (⟨z3, r6, ex4, ⟨c4, d4⟩, z10, rfl⟩))⟩⟩, by rw [ht9]; exact hP, hD⟩, hS.F ht9⟩) hS.2.2 dX7_functionNamed_21
theorem om_de9f9af523 {x0 : Int} (h0 : x0 < (60 : Int)) : x0 < 60 := by omega
theorem om_f0a0f28946 {x0 : Int} (h0 : x0 < (5 : Int)) : x0 < 5 := by omega
set_option maxHeartbeats 4000000 in
set_option maxRecDepth 100000 in
theorem c_x_X7_globalFact (l : Launch) (dC : Nat → ClassId) (dI : Nat → Nat → Nat) (cI cB cZ cJ cR : ClassId) (tb : Nat → Nat) (sz : Nat) (ad : Nat → Nat) (pr : Int32 → Nat) (N : Nat) (L1 L2 : List Nat) (v : MS) (pa : Int32) (pb : Int32) (hL1 : L1.length = 40) (hL2 : L2.length = 60) (rp : RP v) : Met l yX7_globalFact (Cond.code yX7_globalFact cX7_globalFact 3 (some .int) :: tw_W) ({ frames := 0, cells := 0, slots := 0, locals := 0 }) (pc_ (dC, dI) (tyS cI cB cZ cJ cR) tb (cW ad pr N cI cR L1 L2 v) sz [.ref (ad 908), .int pa, .int pb]) (qi_ (dC, dI) (cW ad pr N cI cR L1 L2 v) sz (fun (r : Int32) (u : MS) => v = u ∧ (Q_x_X7_globalFact L1 L2 v pa pb r) ∧ (pb.toInt ≠ 0 ∨ r.toInt ≤ 1000) ∧ (r.toInt ≤ 2147483647)) (fun (u : MS) => (cW ad pr N cI cR L1 L2 u))) 0 0 (va_A (cW ad pr N cI cR L1 L2 v) sz) := by
  refine Met.ofW (cc := cX7_globalFact) (maxL := 3) (ret := (some .int)) (by decide) rfl ?_
  intro p e s m args below meth c s₁ B hml hv
  obtain ⟨rfl, hsz, hP, hKK, hD0, hFx⟩ := hv
  have hK := hKK.1
  have hx := B.exec
  have hb := B.bytes
  have hr := B.returns
  have ht : ∀ w ∈ tw_W, w.before _ s = true := fun w h => atoms_spec (ws := Cond.code yX7_globalFact cX7_globalFact 3 (some .int) :: tw_W) B.pre w (List.mem_cons_of_mem _ h)
  have hown : s.vm.findClass RX7 = some m.cls := findClass_of_methodNamed B.named
  have hlocks := B.notSynchronized
  subst hsz
  unfold qi_
  have hD := hD0.self (sz := s.heap.size)
  generalize hAe : va_A (cW ad pr N cI cR L1 L2 v) s.heap.size = A at hD hFx ⊢
  have hA : ∀ q : Nat, s.heap.size ≤ q → A q := fun q h => by rw [← hAe]; exact Or.inr h
  have hS : va_S A s.heap s.heap [] := va_S.rf
  have hl := lv_entry ([.ref (ad 908), .int pa, .int pb]) (n := 3) (Nat.le_of_ble_eq_true rfl)
  rw [lg_entry_eq]
  generalize (lg_sl ([.ref (ad 908), .int pa, .int pb]) ++ List.replicate (3 - (lg_sl ([.ref (ad 908), .int pa, .int pb])).length) Slot.unset).toArray = ls at hl ⊢
  have hl : lv_has ls 3 [(0, .ref (ad 908)), (1, .int pa), (2, .int pb)] := hl
  refine lv_iload_n hx hb dX7_globalFact_0 rfl (lv_at hl 1 rfl) ?_
  refine lv_if_lt (tgt := 21) hx hb dX7_globalFact_1 (by decide) (fun h1 => ?_) (fun h1 => ?_)
  · have z2 : pa.toInt < (0 : Int) := lt_z rfl (show (0 : Int32).toInt = (0 : Int) by decide) h1
    refine lv_iconst (v := -1) hx hb dX7_globalFact_21 (by decide) ?_
    exact W.iret (v := (-1)) hx hb hr (fun t ht9 hW => ⟨⟨(-1), v, rfl, ⟨rfl, (Or.inl ⟨z2, rfl⟩), ⟨om_743a2dab1c, i32le _⟩⟩, by rw [ht9]; exact hP, hD⟩, hS.F ht9⟩) hS.2.2 dX7_globalFact_22
  · have z3 : (0 : Int) ≤ pa.toInt := nlt_z rfl (show (0 : Int32).toInt = (0 : Int) by decide) h1
    refine lv_iload_n hx hb dX7_globalFact_4 rfl (lv_at hl 1 rfl) ?_
    refine lv_aload_n hx hb dX7_globalFact_5 rfl (lv_at hl 0 rfl) ?_
    refine va_get (D := (dC, dI)) (ci := 10) (fs := oF_X7 ad pr v) (v := .int (v.1 0 377)) (C := RX7) (T := TX7) (N := 13) hx hb ht itX7 hown hK hP 8 rfl rfl 5 (by decide) (ht _ tw_400) (fun _ h9 => h9) rfl dX7_globalFact_6 ?_
    refine lv_icmp_ge (tgt := 21) hx hb dX7_globalFact_9 (by decide) (fun h4 => ?_) (fun h4 => ?_)
    · have z5 : (v.1 0 377).toInt ≤ pa.toInt := le_z rfl rfl h4
      refine lv_iconst (v := -1) hx hb dX7_globalFact_21 (by decide) ?_
      exact W.iret (v := (-1)) hx hb hr (fun t ht9 hW => ⟨⟨(-1), v, rfl, ⟨rfl, (Or.inr (⟨z3, (Or.inl ⟨z5, rfl⟩)⟩)), ⟨om_743a2dab1c, i32le _⟩⟩, by rw [ht9]; exact hP, hD⟩, hS.F ht9⟩) hS.2.2 dX7_globalFact_22
    · have z6 : pa.toInt < (v.1 0 377).toInt := nle_z rfl rfl h4
      refine lv_iload_n hx hb dX7_globalFact_12 rfl (lv_at hl 1 rfl) ?_
      refine lv_aload_n hx hb dX7_globalFact_13 rfl (lv_at hl 0 rfl) ?_
      refine va_get (D := (dC, dI)) (ci := 10) (fs := oF_X7 ad pr v) (v := .ref (ad 376)) (C := RX7) (T := TX7) (N := 13) hx hb ht itX7 hown hK hP 8 rfl rfl 4 (by decide) (ht _ tw_401) (fun _ h9 => h9) rfl dX7_globalFact_14 ?_
      refine va_alen (D := (dC, dI)) (v := 60) hx hb hK hP 34 4 rfl rfl rfl dX7_globalFact_17 ?_
      refine lv_icmp_lt (tgt := 23) hx hb dX7_globalFact_18 (by decide) (fun h7 => ?_) (fun h7 => ?_)
      · have z8 : pa.toInt < (60 : Int) := lt_z rfl (show (60 : Int32).toInt = (60 : Int) by decide) h7
        refine lv_iload_n hx hb dX7_globalFact_23 rfl (lv_at hl 2 rfl) ?_
        refine lv_if_lt (tgt := 49) hx hb dX7_globalFact_24 (by decide) (fun h9 => ?_) (fun h9 => ?_)
        · have z10 : pb.toInt < (0 : Int) := lt_z rfl (show (0 : Int32).toInt = (0 : Int) by decide) h9
          refine lv_iconst (v := -1) hx hb dX7_globalFact_49 (by decide) ?_
          exact W.iret (v := (-1)) hx hb hr (fun t ht9 hW => ⟨⟨(-1), v, rfl, ⟨rfl, (Or.inr (⟨z3, (Or.inr (⟨z6, (Or.inl ⟨z8, (Or.inl ⟨z10, rfl⟩)⟩)⟩))⟩)), ⟨om_743a2dab1c, i32le _⟩⟩, by rw [ht9]; exact hP, hD⟩, hS.F ht9⟩) hS.2.2 dX7_globalFact_50
        · have z11 : (0 : Int) ≤ pb.toInt := nlt_z rfl (show (0 : Int32).toInt = (0 : Int) by decide) h9
          refine lv_iload_n hx hb dX7_globalFact_27 rfl (lv_at hl 2 rfl) ?_
          refine lv_aload_n hx hb dX7_globalFact_28 rfl (lv_at hl 0 rfl) ?_
          refine va_get (D := (dC, dI)) (ci := 10) (fs := oF_X7 ad pr v) (v := .ref (ad 376)) (C := RX7) (T := TX7) (N := 13) hx hb ht itX7 hown hK hP 8 rfl rfl 4 (by decide) (ht _ tw_401) (fun _ h9 => h9) rfl dX7_globalFact_29 ?_
          refine lv_iload_n hx hb dX7_globalFact_32 rfl (lv_at hl 1 rfl) ?_
          refine va_alda hx hb hK hP 34 4 rfl rfl (in_y (a := pa.toInt) (b := 60) rfl (om_51058f7f87 z3) (om_de9f9af523 z8) rfl) dX7_globalFact_33 ?_
          have hq12 : pa.toNatClampNeg < L2.length := by rw [hL2]; have h9 := nat_z (x := pa) (om_51058f7f87 z3); have h8 : pa.toInt < 60 := (om_de9f9af523 z8); omega
          refine W.eq (g2 := F0 m 34 ls [.ref (rowA L2 pa.toNatClampNeg), .int pb]) (by rw [rowA_some hq12]; rfl) ?_
          obtain ⟨kr13, hk14, hk14s⟩ := row2_get (ad := ad) (pr := pr) (N := N) (cI := cI) (cR := cR) (L1 := L1) (L2 := L2) (v := v) hD (rowA_mem hq12)
          refine va_alen (D := (dC, dI)) (v := 5) hx hb hK hP kr13 0 hk14 rfl rfl dX7_globalFact_34 ?_
          refine lv_icmp_ge (tgt := 49) hx hb dX7_globalFact_35 (by decide) (fun h15 => ?_) (fun h15 => ?_)
          · have z16 : (5 : Int) ≤ pb.toInt := le_z (show (5 : Int32).toInt = (5 : Int) by decide) rfl h15
            refine lv_iconst (v := -1) hx hb dX7_globalFact_49 (by decide) ?_
            exact W.iret (v := (-1)) hx hb hr (fun t ht9 hW => ⟨⟨(-1), v, rfl, ⟨rfl, (Or.inr (⟨z3, (Or.inr (⟨z6, (Or.inl ⟨z8, (Or.inr (⟨z11, (Or.inl ⟨z16, rfl⟩)⟩))⟩)⟩))⟩)), ⟨om_743a2dab1c, i32le _⟩⟩, by rw [ht9]; exact hP, hD⟩, hS.F ht9⟩) hS.2.2 dX7_globalFact_50
          · have z17 : pb.toInt < (5 : Int) := nle_z (show (5 : Int32).toInt = (5 : Int) by decide) rfl h15
            refine lv_aload_n hx hb dX7_globalFact_38 rfl (lv_at hl 0 rfl) ?_
            refine va_get (D := (dC, dI)) (ci := 10) (fs := oF_X7 ad pr v) (v := .ref (ad 376)) (C := RX7) (T := TX7) (N := 13) hx hb ht itX7 hown hK hP 8 rfl rfl 4 (by decide) (ht _ tw_401) (fun _ h9 => h9) rfl dX7_globalFact_39 ?_
            refine lv_iload_n hx hb dX7_globalFact_42 rfl (lv_at hl 1 rfl) ?_
            refine va_alda hx hb hK hP 34 4 rfl rfl (in_y (a := pa.toInt) (b := 60) rfl (om_51058f7f87 z3) (om_de9f9af523 z8) rfl) dX7_globalFact_43 ?_
            have hq18 : pa.toNatClampNeg < L2.length := by rw [hL2]; have h9 := nat_z (x := pa) (om_51058f7f87 z3); have h8 : pa.toInt < 60 := (om_de9f9af523 z8); omega
            refine W.eq (g2 := F0 m 44 ls [.ref (rowA L2 pa.toNatClampNeg)]) (by rw [rowA_some hq18]; rfl) ?_
            refine lv_iload_n hx hb dX7_globalFact_44 rfl (lv_at hl 2 rfl) ?_
            obtain ⟨kr19, hk20, hk20s⟩ := row2_get (ad := ad) (pr := pr) (N := N) (cI := cI) (cR := cR) (L1 := L1) (L2 := L2) (v := v) hD (rowA_mem hq18)
            refine va_iald (D := (dC, dI)) (f := v.1 (5000 + (rowA L2 pa.toNatClampNeg))) hx hb hK hP kr19 0 hk20 rfl (in_y (a := pb.toInt) (b := 5) rfl (om_51058f7f87 z11) (om_f0a0f28946 z17) rfl) dX7_globalFact_45 ?_
            refine lv_goto (tgt := 50) hx hb dX7_globalFact_46 (by decide) ?_
            have q21 : pb.toInt ≠ 0 ∨ (v.1 (5000 + (rowA L2 pa.toNatClampNeg)) pb.toNatClampNeg).toInt ≤ 1000 := RP.at rp (om_51058f7f87 z11)
            exact W.iret (v := (v.1 (5000 + (rowA L2 pa.toNatClampNeg)) pb.toNatClampNeg)) hx hb hr (fun t ht9 hW => ⟨⟨(v.1 (5000 + (rowA L2 pa.toNatClampNeg)) pb.toNatClampNeg), v, rfl, ⟨rfl, (Or.inr (⟨z3, (Or.inr (⟨z6, (Or.inl ⟨z8, (Or.inr (⟨z11, (Or.inr (⟨z17, rfl⟩))⟩))⟩)⟩))⟩)), ⟨(om_c78168a6c2 q21), i32le _⟩⟩, by rw [ht9]; exact hP, hD⟩, hS.F ht9⟩) hS.2.2 dX7_globalFact_50
      · have z22 : (60 : Int) ≤ pa.toInt := nlt_z rfl (show (60 : Int32).toInt = (60 : Int) by decide) h7
        refine lv_iconst (v := -1) hx hb dX7_globalFact_21 (by decide) ?_
        exact W.iret (v := (-1)) hx hb hr (fun t ht9 hW => ⟨⟨(-1), v, rfl, ⟨rfl, (Or.inr (⟨z3, (Or.inr (⟨z6, (Or.inr (⟨z22, rfl⟩))⟩))⟩)), ⟨om_743a2dab1c, i32le _⟩⟩, by rw [ht9]; exact hP, hD⟩, hS.F ht9⟩) hS.2.2 dX7_globalFact_22
set_option maxHeartbeats 4000000 in
set_option maxRecDepth 100000 in
theorem c_x_X7_changeGlobal (l : Launch) (dC : Nat → ClassId) (dI : Nat → Nat → Nat) (cI cB cZ cJ cR : ClassId) (tb : Nat → Nat) (sz : Nat) (ad : Nat → Nat) (pr : Int32 → Nat) (N : Nat) (L1 L2 : List Nat) (v : MS) (pa : Int32) (pb : Int32) (pc1 : Int32) (hL1 : L1.length = 40) (hL2 : L2.length = 60) (rp : RP v) (zp : pb.toInt ≠ 0 ∨ pc1.toInt ≤ 1000) : Met l yX7_changeGlobal (Cond.code yX7_changeGlobal cX7_changeGlobal 4 none :: tw_W) ({ frames := 0, cells := 0, slots := 0, locals := 0 }) (pc_ (dC, dI) (tyS cI cB cZ cJ cR) tb (cW ad pr N cI cR L1 L2 v) sz [.ref (ad 908), .int pa, .int pb, .int pc1]) (qv_ (dC, dI) (cW ad pr N cI cR L1 L2 v) sz (fun (u : MS) => FC [] [0] v u ∧ (Q_x_X7_changeGlobal L1 L2 v pa pb pc1 u)) (fun (u : MS) => (cW ad pr N cI cR L1 L2 u))) 0 0 (va_A (cW ad pr N cI cR L1 L2 v) sz) := by
  refine Met.ofW (cc := cX7_changeGlobal) (maxL := 4) (ret := none) (by decide) rfl ?_
  intro p e s m args below meth c s₁ B hml hv
  obtain ⟨rfl, hsz, hP, hKK, hD0, hFx⟩ := hv
  have hK := hKK.1
  have hx := B.exec
  have hb := B.bytes
  have hr := B.returns
  have ht : ∀ w ∈ tw_W, w.before _ s = true := fun w h => atoms_spec (ws := Cond.code yX7_changeGlobal cX7_changeGlobal 4 none :: tw_W) B.pre w (List.mem_cons_of_mem _ h)
  have hown : s.vm.findClass RX7 = some m.cls := findClass_of_methodNamed B.named
  have hlocks := B.notSynchronized
  subst hsz
  unfold qv_
  have hD := hD0.self (sz := s.heap.size)
  generalize hAe : va_A (cW ad pr N cI cR L1 L2 v) s.heap.size = A at hD hFx ⊢
  have hA : ∀ q : Nat, s.heap.size ≤ q → A q := fun q h => by rw [← hAe]; exact Or.inr h
  have hS : va_S A s.heap s.heap [] := va_S.rf
  have hl := lv_entry ([.ref (ad 908), .int pa, .int pb, .int pc1]) (n := 4) (Nat.le_of_ble_eq_true rfl)
  rw [lg_entry_eq]
  generalize (lg_sl ([.ref (ad 908), .int pa, .int pb, .int pc1]) ++ List.replicate (4 - (lg_sl ([.ref (ad 908), .int pa, .int pb, .int pc1])).length) Slot.unset).toArray = ls at hl ⊢
  have hl : lv_has ls 4 [(0, .ref (ad 908)), (1, .int pa), (2, .int pb), (3, .int pc1)] := hl
  refine lv_iload_n hx hb dX7_changeGlobal_0 rfl (lv_at hl 1 rfl) ?_
  refine lv_if_lt (tgt := 37) hx hb dX7_changeGlobal_1 (by decide) (fun h1 => ?_) (fun h1 => ?_)
  · have z2 : pa.toInt < (0 : Int) := lt_z rfl (show (0 : Int32).toInt = (0 : Int) by decide) h1
    exact W.vret hx hb hr (fun t ht9 hW => ⟨⟨v, rfl, ⟨(FC.rf _), ⟨zp, (Or.inl ⟨z2, rfl⟩)⟩⟩, by rw [ht9]; exact hP, hD⟩, hS.F ht9⟩) hS.2.2 dX7_changeGlobal_37
  · have z3 : (0 : Int) ≤ pa.toInt := nlt_z rfl (show (0 : Int32).toInt = (0 : Int) by decide) h1
    refine lv_iload_n hx hb dX7_changeGlobal_4 rfl (lv_at hl 1 rfl) ?_
    refine lv_aload_n hx hb dX7_changeGlobal_5 rfl (lv_at hl 0 rfl) ?_
    refine va_get (D := (dC, dI)) (ci := 10) (fs := oF_X7 ad pr v) (v := .ref (ad 376)) (C := RX7) (T := TX7) (N := 13) hx hb ht itX7 hown hK hP 8 rfl rfl 4 (by decide) (ht _ tw_401) (fun _ h9 => h9) rfl dX7_changeGlobal_6 ?_
    refine va_alen (D := (dC, dI)) (v := 60) hx hb hK hP 34 4 rfl rfl rfl dX7_changeGlobal_9 ?_
    refine lv_icmp_ge (tgt := 37) hx hb dX7_changeGlobal_10 (by decide) (fun h4 => ?_) (fun h4 => ?_)
    · have z5 : (60 : Int) ≤ pa.toInt := le_z (show (60 : Int32).toInt = (60 : Int) by decide) rfl h4
      exact W.vret hx hb hr (fun t ht9 hW => ⟨⟨v, rfl, ⟨(FC.rf _), ⟨zp, (Or.inr (⟨z3, (Or.inl ⟨z5, rfl⟩)⟩))⟩⟩, by rw [ht9]; exact hP, hD⟩, hS.F ht9⟩) hS.2.2 dX7_changeGlobal_37
    · have z6 : pa.toInt < (60 : Int) := nle_z (show (60 : Int32).toInt = (60 : Int) by decide) rfl h4
      refine lv_iload_n hx hb dX7_changeGlobal_13 rfl (lv_at hl 2 rfl) ?_
      refine lv_if_lt (tgt := 37) hx hb dX7_changeGlobal_14 (by decide) (fun h7 => ?_) (fun h7 => ?_)
      · have z8 : pb.toInt < (0 : Int) := lt_z rfl (show (0 : Int32).toInt = (0 : Int) by decide) h7
        exact W.vret hx hb hr (fun t ht9 hW => ⟨⟨v, rfl, ⟨(FC.rf _), ⟨zp, (Or.inr (⟨z3, (Or.inr (⟨z6, (Or.inl ⟨z8, rfl⟩)⟩))⟩))⟩⟩, by rw [ht9]; exact hP, hD⟩, hS.F ht9⟩) hS.2.2 dX7_changeGlobal_37
      · have z9 : (0 : Int) ≤ pb.toInt := nlt_z rfl (show (0 : Int32).toInt = (0 : Int) by decide) h7
        refine lv_iload_n hx hb dX7_changeGlobal_17 rfl (lv_at hl 2 rfl) ?_
        refine lv_aload_n hx hb dX7_changeGlobal_18 rfl (lv_at hl 0 rfl) ?_
        refine va_get (D := (dC, dI)) (ci := 10) (fs := oF_X7 ad pr v) (v := .ref (ad 376)) (C := RX7) (T := TX7) (N := 13) hx hb ht itX7 hown hK hP 8 rfl rfl 4 (by decide) (ht _ tw_401) (fun _ h9 => h9) rfl dX7_changeGlobal_19 ?_
        refine lv_iload_n hx hb dX7_changeGlobal_22 rfl (lv_at hl 1 rfl) ?_
        refine va_alda hx hb hK hP 34 4 rfl rfl (in_y (a := pa.toInt) (b := 60) rfl (om_51058f7f87 z3) (om_de9f9af523 z6) rfl) dX7_changeGlobal_23 ?_
        have hq10 : pa.toNatClampNeg < L2.length := by rw [hL2]; have h9 := nat_z (x := pa) (om_51058f7f87 z3); have h8 : pa.toInt < 60 := (om_de9f9af523 z6); omega
        refine W.eq (g2 := F0 m 24 ls [.ref (rowA L2 pa.toNatClampNeg), .int pb]) (by rw [rowA_some hq10]; rfl) ?_
        obtain ⟨kr11, hk12, hk12s⟩ := row2_get (ad := ad) (pr := pr) (N := N) (cI := cI) (cR := cR) (L1 := L1) (L2 := L2) (v := v) hD (rowA_mem hq10)
        refine va_alen (D := (dC, dI)) (v := 5) hx hb hK hP kr11 0 hk12 rfl rfl dX7_changeGlobal_24 ?_
        refine lv_icmp_ge (tgt := 37) hx hb dX7_changeGlobal_25 (by decide) (fun h13 => ?_) (fun h13 => ?_)
        · have z14 : (5 : Int) ≤ pb.toInt := le_z (show (5 : Int32).toInt = (5 : Int) by decide) rfl h13
          exact W.vret hx hb hr (fun t ht9 hW => ⟨⟨v, rfl, ⟨(FC.rf _), ⟨zp, (Or.inr (⟨z3, (Or.inr (⟨z6, (Or.inr (⟨z9, (Or.inl ⟨z14, rfl⟩)⟩))⟩))⟩))⟩⟩, by rw [ht9]; exact hP, hD⟩, hS.F ht9⟩) hS.2.2 dX7_changeGlobal_37
        · have z15 : pb.toInt < (5 : Int) := nle_z (show (5 : Int32).toInt = (5 : Int) by decide) rfl h13
          refine lv_aload_n hx hb dX7_changeGlobal_28 rfl (lv_at hl 0 rfl) ?_
          refine va_get (D := (dC, dI)) (ci := 10) (fs := oF_X7 ad pr v) (v := .ref (ad 376)) (C := RX7) (T := TX7) (N := 13) hx hb ht itX7 hown hK hP 8 rfl rfl 4 (by decide) (ht _ tw_401) (fun _ h9 => h9) rfl dX7_changeGlobal_29 ?_
          refine lv_iload_n hx hb dX7_changeGlobal_32 rfl (lv_at hl 1 rfl) ?_
          refine va_alda hx hb hK hP 34 4 rfl rfl (in_y (a := pa.toInt) (b := 60) rfl (om_51058f7f87 z3) (om_de9f9af523 z6) rfl) dX7_changeGlobal_33 ?_
          have hq16 : pa.toNatClampNeg < L2.length := by rw [hL2]; have h9 := nat_z (x := pa) (om_51058f7f87 z3); have h8 : pa.toInt < 60 := (om_de9f9af523 z6); omega
          refine W.eq (g2 := F0 m 34 ls [.ref (rowA L2 pa.toNatClampNeg)]) (by rw [rowA_some hq16]; rfl) ?_
          refine lv_iload_n hx hb dX7_changeGlobal_34 rfl (lv_at hl 2 rfl) ?_
          refine lv_iload_n hx hb dX7_changeGlobal_35 rfl (lv_at hl 3 rfl) ?_
          obtain ⟨kr17, hk18, hk18s⟩ := row2_get (ad := ad) (pr := pr) (N := N) (cI := cI) (cR := cR) (L1 := L1) (L2 := L2) (v := v) hD (rowA_mem hq16)
          refine va_iast (D := (dC, dI)) (f := v.1 (5000 + (rowA L2 pa.toNatClampNeg))) hx hb hK hP hD hS kr17 0 hk18 rfl (in_y (a := pb.toInt) (b := 5) rfl (om_51058f7f87 z9) (om_f0a0f28946 z15) rfl) dX7_changeGlobal_36 (fun H locs hP hD hS => ?_)
          have rw19 : 0 ≤ pb.toInt := (om_51058f7f87 z9)
          have rw20 : pb.toInt ≠ 0 ∨ pc1.toInt ≤ 1000 := (om_c78168a6c2 zp)
          have hP := cP_ (hk18s pb.toNatClampNeg pc1) hP
          have hD := cD_ (hk18s pb.toNatClampNeg pc1) hD
          exact W.vret hx hb hr (fun t ht9 hW => ⟨⟨(wA v (5000 + (rowA L2 pa.toNatClampNeg)) pb.toNatClampNeg pc1), rfl, ⟨(FC.row (FC.rf _) _ rw19 rw20), ⟨zp, (Or.inr (⟨z3, (Or.inr (⟨z6, (Or.inr (⟨z9, (Or.inr (⟨z15, rfl⟩))⟩))⟩))⟩))⟩⟩, by rw [ht9]; exact hP, hD⟩, hS.F ht9⟩) hS.2.2 dX7_changeGlobal_37
set_option maxHeartbeats 4000000 in
set_option maxRecDepth 100000 in
theorem c_x_X7_globalNamed (l : Launch) (dC : Nat → ClassId) (dI : Nat → Nat → Nat) (cI cB cZ cJ cR : ClassId) (tb : Nat → Nat) (sz : Nat) (ad : Nat → Nat) (pr : Int32 → Nat) (N : Nat) (L1 L2 : List Nat) (v : MS) (pa : Int32) (hL1 : L1.length = 40) (hL2 : L2.length = 60) (rp : RP v) : Met l yX7_globalNamed (Cond.code yX7_globalNamed cX7_globalNamed 3 (some .int) :: tw_W) ({ frames := 1, cells := 0, slots := 0, locals := 22 }) (pc_ (dC, dI) (tyS cI cB cZ cJ cR) tb (cW ad pr N cI cR L1 L2 v) sz [.ref (ad 908), .int pa]) (qi_ (dC, dI) (cW ad pr N cI cR L1 L2 v) sz (fun (r : Int32) (u : MS) => v = u ∧ (Q_x_X7_globalNamed L1 L2 v pa r)) (fun (u : MS) => (cW ad pr N cI cR L1 L2 u))) 0 0 (va_A (cW ad pr N cI cR L1 L2 v) sz) := by
  refine Met.ofW (cc := cX7_globalNamed) (maxL := 3) (ret := (some .int)) (by decide) rfl ?_
  intro p e s m args below meth c s₁ B hml hv
  obtain ⟨rfl, hsz, hP, hKK, hD0, hFx⟩ := hv
  have hK := hKK.1
  have hx := B.exec
  have hb := B.bytes
  have hr := B.returns
  have ht : ∀ w ∈ tw_W, w.before _ s = true := fun w h => atoms_spec (ws := Cond.code yX7_globalNamed cX7_globalNamed 3 (some .int) :: tw_W) B.pre w (List.mem_cons_of_mem _ h)
  have hown : s.vm.findClass RX7 = some m.cls := findClass_of_methodNamed B.named
  have hlocks := B.notSynchronized
  subst hsz
  unfold qi_
  have hD := hD0.self (sz := s.heap.size)
  generalize hAe : va_A (cW ad pr N cI cR L1 L2 v) s.heap.size = A at hD hFx ⊢
  have hA : ∀ q : Nat, s.heap.size ≤ q → A q := fun q h => by rw [← hAe]; exact Or.inr h
  have hS : va_S A s.heap s.heap [] := va_S.rf
  have hl := lv_entry ([.ref (ad 908), .int pa]) (n := 3) (Nat.le_of_ble_eq_true rfl)
  rw [lg_entry_eq]
  generalize (lg_sl ([.ref (ad 908), .int pa]) ++ List.replicate (3 - (lg_sl ([.ref (ad 908), .int pa])).length) Slot.unset).toArray = ls at hl ⊢
  have hl : lv_has ls 3 [(0, .ref (ad 908)), (1, .int pa)] := hl
  refine lv_iconst (v := 0) hx hb dX7_globalNamed_0 (by decide) ?_
  refine lv_istore_n (lv' := [(2, .int 0), (0, .ref (ad 908)), (1, .int pa)]) hx hb dX7_globalNamed_1 rfl hl (by decide) rfl (fun ls hl => ?_)
  refine lpm_ (X := Int32) (P := (fun (x9 : Int32) (H : Heap) (locs : List Loc) (ls : Array Slot) => (0 ≤ x9.toInt) ∧ (RT (Q_x_X7_globalNamed_L0 L1 L2 v pa) 0 x9) ∧ va_P (dC, dI) vwCl (cW ad pr N cI cR L1 L2 v) H ∧ va_D A (cW ad pr N cI cR L1 L2 v) ∧ va_S A s.heap H locs ∧ lv_has ls 3 [(2, .int x9), (0, .ref (ad 908)), (1, .int pa)])) (fun x9 => ((v.1 0 377).toInt - x9.toInt).toNat) 2 (fun ka H locs ls hh ih2 => ?_) 0 _ _ _ ⟨(show 0 ≤ (0 : Int) from om_342087eeda), RT.rf, hP, hD, hS, lv_sub hl [0, 1, 2] rfl⟩
  obtain ⟨f1L2, exL2, hP, hD, hS, hl⟩ := hh
  have f1L2 : 0 ≤ ka.toInt := f1L2
  have hl : lv_has ls 3 [(2, .int ka), (0, .ref (ad 908)), (1, .int pa)] := hl
  refine lv_iload_n hx hb dX7_globalNamed_2 rfl (lv_at hl 0 rfl) ?_
  refine lv_aload_n hx hb dX7_globalNamed_3 rfl (lv_at hl 1 rfl) ?_
  refine va_get (D := (dC, dI)) (ci := 10) (fs := oF_X7 ad pr v) (v := .int (v.1 0 377)) (C := RX7) (T := TX7) (N := 13) hx hb ht itX7 hown hK hP 8 rfl rfl 5 (by decide) (ht _ tw_400) (fun _ h9 => h9) rfl dX7_globalNamed_4 ?_
  refine lv_icmp_ge (tgt := 28) hx hb dX7_globalNamed_7 (by decide) (fun h1 => ?_) (fun h1 => ?_)
  · have z2 : (v.1 0 377).toInt ≤ ka.toInt := le_z rfl rfl h1
    refine lv_iconst (v := -1) hx hb dX7_globalNamed_28 (by decide) ?_
    exact W.iret (v := (-1)) hx hb hr (fun t ht9 hW => ⟨⟨(-1), v, rfl, ⟨rfl, ⟨ka, exL2, f1L2, (Or.inl ⟨z2, rfl⟩)⟩⟩, by rw [ht9]; exact hP, hD⟩, hS.F ht9⟩) hS.2.2 dX7_globalNamed_29
  · have z3 : ka.toInt < (v.1 0 377).toInt := nle_z rfl rfl h1
    refine lv_aload_n hx hb dX7_globalNamed_10 rfl (lv_at hl 1 rfl) ?_
    refine lv_iload_n hx hb dX7_globalNamed_11 rfl (lv_at hl 0 rfl) ?_
    refine lv_iconst (v := 4) hx hb dX7_globalNamed_12 (by decide) ?_
    refine cu_i (rn_Vk (n := 2) (As := [.int ka, .int 4]) (rest := []) hx hb hml hown ht hKK hFx hP hD hS hA (c_x_X7_globalFact l dC dI cI cB cZ cJ cR tb H.size ad pr N L1 L2 v ka (4 : Int32) (show L1.length = 40 from hL1) (show L2.length = 60 from hL2) (show RP v from rp)) tw_402 tw_403 (by decide +kernel) rfl rfl ⟨Nat.le_of_ble_eq_true rfl, Nat.le_of_ble_eq_true rfl⟩ (List.range (cW ad pr N cI cR L1 L2 v).length) (rg_map _) (nd_range _) 8 rfl rfl rfl rfl hl.1 rfl (Nat.le_of_ble_eq_true rfl) dX7_globalNamed_13 ⟨Nat.le_of_ble_eq_true rfl, Nat.le_of_ble_eq_true rfl⟩) hP hD hS hA (fun r6 u5 H locs hw4 hP hD hS => ?_)
    obtain ⟨rfl, ex4, c4, d4⟩ := hw4
    have c4 : ((4 : Int) ≠ 0 ∨ r6.toInt ≤ 1000) := c4
    refine W.widen (k := 0) (n := 0) (Nat.le_refl _) (Nat.le_refl _) ?_
    refine lv_iload_n hx hb dX7_globalNamed_16 rfl (lv_at hl 2 rfl) ?_
    refine lv_icmp_ne (tgt := 22) hx hb dX7_globalNamed_17 (by decide) (fun h7 => ?_) (fun h7 => ?_)
    · have z8 : r6.toInt ≠ pa.toInt := ne_z rfl rfl h7
      refine lv_iinc (v := (ka + (1 : Int32))) (lv' := [(2, .int (ka + (1 : Int32))), (0, .ref (ad 908)), (1, .int pa)]) hx hb dX7_globalNamed_22 hl (k := 0) rfl (rfl) (by decide) rfl (fun ls hl => ?_)
      have z9 : (ka + (1 : Int32)).toInt = ka.toInt + 1 := inc_lt z3
      refine lv_goto (tgt := 2) hx hb dX7_globalNamed_25 (by decide) ?_
      exact ih2 (ka + (1 : Int32)) _ _ _ (show ((v.1 0 377).toInt - (ka + (1 : Int32)).toInt).toNat < ((v.1 0 377).toInt - ka.toInt).toNat from tn_z (om_7310d536e1 z9) (om_fe525f7549 z3)) ⟨(show 0 ≤ (ka + (1 : Int32)).toInt from (om_db977a0953 f1L2 z9)), (RT.st exL2 ⟨f1L2, z3, r6, ex4, ⟨c4, d4⟩, z8, rfl⟩), hP, hD, hS, lv_sub hl [0, 1, 2] rfl⟩
    · have z10 : r6.toInt = pa.toInt := eq_z rfl rfl h7
      refine lv_iload_n hx hb dX7_globalNamed_20 rfl (lv_at hl 0 rfl) ?_
      exact W.iret (v := ka) hx hb hr (fun t ht9 hW => ⟨⟨ka, v, rfl, ⟨rfl, ⟨ka, exL2, f1L2, (Or.inr (⟨z3, r6, ex4, ⟨c4, d4⟩, z10, rfl⟩))⟩⟩, by rw [ht9]; exact hP, hD⟩, hS.F ht9⟩) hS.2.2 dX7_globalNamed_21
set_option maxHeartbeats 4000000 in
set_option maxRecDepth 100000 in
theorem c_x_X7_firstCell (l : Launch) (dC : Nat → ClassId) (dI : Nat → Nat → Nat) (cI cB cZ cJ cR : ClassId) (tb : Nat → Nat) (sz : Nat) (ad : Nat → Nat) (pr : Int32 → Nat) (N : Nat) (L1 L2 : List Nat) (v : MS) (pa : Int32) (hL1 : L1.length = 40) (hL2 : L2.length = 60) (rp : RP v) : Met l yX7_firstCell (Cond.code yX7_firstCell cX7_firstCell 2 (some .int) :: tw_W) ({ frames := 1, cells := 0, slots := 0, locals := 22 }) (pc_ (dC, dI) (tyS cI cB cZ cJ cR) tb (cW ad pr N cI cR L1 L2 v) sz [.ref (ad 908), .int pa]) (qi_ (dC, dI) (cW ad pr N cI cR L1 L2 v) sz (fun (r : Int32) (u : MS) => v = u ∧ (Q_x_X7_firstCell L1 L2 v pa r)) (fun (u : MS) => (cW ad pr N cI cR L1 L2 u))) 0 0 (va_A (cW ad pr N cI cR L1 L2 v) sz) := by
  refine Met.ofW (cc := cX7_firstCell) (maxL := 2) (ret := (some .int)) (by decide) rfl ?_
  intro p e s m args below meth c s₁ B hml hv
  obtain ⟨rfl, hsz, hP, hKK, hD0, hFx⟩ := hv
  have hK := hKK.1
  have hx := B.exec
  have hb := B.bytes
  have hr := B.returns
  have ht : ∀ w ∈ tw_W, w.before _ s = true := fun w h => atoms_spec (ws := Cond.code yX7_firstCell cX7_firstCell 2 (some .int) :: tw_W) B.pre w (List.mem_cons_of_mem _ h)
  have hown : s.vm.findClass RX7 = some m.cls := findClass_of_methodNamed B.named
  have hlocks := B.notSynchronized
  subst hsz
  unfold qi_
  have hD := hD0.self (sz := s.heap.size)
  generalize hAe : va_A (cW ad pr N cI cR L1 L2 v) s.heap.size = A at hD hFx ⊢
  have hA : ∀ q : Nat, s.heap.size ≤ q → A q := fun q h => by rw [← hAe]; exact Or.inr h
  have hS : va_S A s.heap s.heap [] := va_S.rf
  have hl := lv_entry ([.ref (ad 908), .int pa]) (n := 2) (Nat.le_of_ble_eq_true rfl)
  rw [lg_entry_eq]
  generalize (lg_sl ([.ref (ad 908), .int pa]) ++ List.replicate (2 - (lg_sl ([.ref (ad 908), .int pa])).length) Slot.unset).toArray = ls at hl ⊢
  have hl : lv_has ls 2 [(0, .ref (ad 908)), (1, .int pa)] := hl
  refine lv_aload_n hx hb dX7_firstCell_0 rfl (lv_at hl 0 rfl) ?_
  refine lv_iload_n hx hb dX7_firstCell_1 rfl (lv_at hl 1 rfl) ?_
  refine lv_iconst (v := 1) hx hb dX7_firstCell_2 (by decide) ?_
  refine cu_i (rn_Vk (n := 2) (As := [.int pa, .int 1]) (rest := []) hx hb hml hown ht hKK hFx hP hD hS hA (c_x_X7_globalFact l dC dI cI cB cZ cJ cR tb s.heap.size ad pr N L1 L2 v pa (1 : Int32) (show L1.length = 40 from hL1) (show L2.length = 60 from hL2) (show RP v from rp)) tw_402 tw_403 (by decide +kernel) rfl rfl ⟨Nat.le_of_ble_eq_true rfl, Nat.le_of_ble_eq_true rfl⟩ (List.range (cW ad pr N cI cR L1 L2 v).length) (rg_map _) (nd_range _) 8 rfl rfl rfl rfl hl.1 rfl (Nat.le_of_ble_eq_true rfl) dX7_firstCell_3 ⟨Nat.le_of_ble_eq_true rfl, Nat.le_of_ble_eq_true rfl⟩) hP hD hS hA (fun r3 u2 H locs hw1 hP hD hS => ?_)
  obtain ⟨rfl, ex1, c1, d1⟩ := hw1
  have c1 : ((1 : Int) ≠ 0 ∨ r3.toInt ≤ 1000) := c1
  refine W.widen (k := 0) (n := 0) (Nat.le_refl _) (Nat.le_refl _) ?_
  refine lv_iconst (v := 2) hx hb dX7_firstCell_6 (by decide) ?_
  refine lv_ishr hx hb dX7_firstCell_7 ?_
  refine lv_aload_n hx hb dX7_firstCell_8 rfl (lv_at hl 0 rfl) ?_
  refine va_get (D := (dC, dI)) (ci := 10) (fs := oF_X7 ad pr v) (v := .int (v.1 0 383)) (C := RX7) (T := TX7) (N := 13) hx hb ht itX7 hown hK hP 8 rfl rfl 11 (by decide) (ht _ tw_404) (fun _ h9 => h9) rfl dX7_firstCell_9 ?_
  refine lv_isub hx hb dX7_firstCell_12 ?_
  exact W.iret (v := ((r3 >>> ((2 : Int32) &&& 31)) - (v.1 0 383))) hx hb hr (fun t ht9 hW => ⟨⟨((r3 >>> ((2 : Int32) &&& 31)) - (v.1 0 383)), v, rfl, ⟨rfl, ⟨r3, ex1, ⟨c1, d1⟩, rfl⟩⟩, by rw [ht9]; exact hP, hD⟩, hS.F ht9⟩) hS.2.2 dX7_firstCell_13
theorem om_1c2c49c46c {n0 : Nat} (h0 : (n0 : Int) ≤ 4096) : (n0 : Int) ≤ 4096 := by omega
set_option maxHeartbeats 4000000 in
set_option maxRecDepth 100000 in
theorem c_x_X7_wordAt (l : Launch) (dC : Nat → ClassId) (dI : Nat → Nat → Nat) (cI cB cZ cJ cR : ClassId) (tb : Nat → Nat) (sz : Nat) (ad : Nat → Nat) (pr : Int32 → Nat) (N : Nat) (L1 L2 : List Nat) (v : MS) (pa : Int32) (zNN : (N : Int) ≤ 4096) : Met l yX7_wordAt (Cond.code yX7_wordAt cX7_wordAt 2 (some .int) :: tw_W) ({ frames := 0, cells := 0, slots := 0, locals := 0 }) (pc_ (dC, dI) (tyS cI cB cZ cJ cR) tb (cW ad pr N cI cR L1 L2 v) sz [.ref (ad 908), .int pa]) (qi_ (dC, dI) (cW ad pr N cI cR L1 L2 v) sz (fun (r : Int32) (u : MS) => v = u ∧ (Q_x_X7_wordAt L1 L2 N v pa r)) (fun (u : MS) => (cW ad pr N cI cR L1 L2 u))) 0 0 (va_A (cW ad pr N cI cR L1 L2 v) sz) := by
  refine Met.ofW (cc := cX7_wordAt) (maxL := 2) (ret := (some .int)) (by decide) rfl ?_
  intro p e s m args below meth c s₁ B hml hv
  obtain ⟨rfl, hsz, hP, hKK, hD0, hFx⟩ := hv
  have hK := hKK.1
  have hx := B.exec
  have hb := B.bytes
  have hr := B.returns
  have ht : ∀ w ∈ tw_W, w.before _ s = true := fun w h => atoms_spec (ws := Cond.code yX7_wordAt cX7_wordAt 2 (some .int) :: tw_W) B.pre w (List.mem_cons_of_mem _ h)
  have hown : s.vm.findClass RX7 = some m.cls := findClass_of_methodNamed B.named
  have hlocks := B.notSynchronized
  subst hsz
  unfold qi_
  have hD := hD0.self (sz := s.heap.size)
  generalize hAe : va_A (cW ad pr N cI cR L1 L2 v) s.heap.size = A at hD hFx ⊢
  have hA : ∀ q : Nat, s.heap.size ≤ q → A q := fun q h => by rw [← hAe]; exact Or.inr h
  have hS : va_S A s.heap s.heap [] := va_S.rf
  have hl := lv_entry ([.ref (ad 908), .int pa]) (n := 2) (Nat.le_of_ble_eq_true rfl)
  rw [lg_entry_eq]
  generalize (lg_sl ([.ref (ad 908), .int pa]) ++ List.replicate (2 - (lg_sl ([.ref (ad 908), .int pa])).length) Slot.unset).toArray = ls at hl ⊢
  have hl : lv_has ls 2 [(0, .ref (ad 908)), (1, .int pa)] := hl
  refine lv_iload_n hx hb dX7_wordAt_0 rfl (lv_at hl 1 rfl) ?_
  refine lv_if_lt (tgt := 30) hx hb dX7_wordAt_1 (by decide) (fun h1 => ?_) (fun h1 => ?_)
  · have z2 : pa.toInt < (0 : Int) := lt_z rfl (show (0 : Int32).toInt = (0 : Int) by decide) h1
    refine lv_iconst (v := 0) hx hb dX7_wordAt_30 (by decide) ?_
    exact W.iret (v := 0) hx hb hr (fun t ht9 hW => ⟨⟨0, v, rfl, ⟨rfl, (Or.inl ⟨z2, rfl⟩)⟩, by rw [ht9]; exact hP, hD⟩, hS.F ht9⟩) hS.2.2 dX7_wordAt_31
  · have z3 : (0 : Int) ≤ pa.toInt := nlt_z rfl (show (0 : Int32).toInt = (0 : Int) by decide) h1
    refine lv_iload_n hx hb dX7_wordAt_4 rfl (lv_at hl 1 rfl) ?_
    refine lv_aload_n hx hb dX7_wordAt_5 rfl (lv_at hl 0 rfl) ?_
    refine va_get (D := (dC, dI)) (ci := 10) (fs := oF_X7 ad pr v) (v := .int (v.1 0 383)) (C := RX7) (T := TX7) (N := 13) hx hb ht itX7 hown hK hP 8 rfl rfl 11 (by decide) (ht _ tw_404) (fun _ h9 => h9) rfl dX7_wordAt_6 ?_
    refine lv_icmp_ge (tgt := 30) hx hb dX7_wordAt_9 (by decide) (fun h4 => ?_) (fun h4 => ?_)
    · have z5 : (v.1 0 383).toInt ≤ pa.toInt := le_z rfl rfl h4
      refine lv_iconst (v := 0) hx hb dX7_wordAt_30 (by decide) ?_
      exact W.iret (v := 0) hx hb hr (fun t ht9 hW => ⟨⟨0, v, rfl, ⟨rfl, (Or.inr (⟨z3, (Or.inl ⟨z5, rfl⟩)⟩))⟩, by rw [ht9]; exact hP, hD⟩, hS.F ht9⟩) hS.2.2 dX7_wordAt_31
    · have z6 : pa.toInt < (v.1 0 383).toInt := nle_z rfl rfl h4
      refine lv_iload_n hx hb dX7_wordAt_12 rfl (lv_at hl 1 rfl) ?_
      refine lv_aload_n hx hb dX7_wordAt_13 rfl (lv_at hl 0 rfl) ?_
      refine va_get (D := (dC, dI)) (ci := 10) (fs := oF_X7 ad pr v) (v := .ref (ad 382)) (C := RX7) (T := TX7) (N := 13) hx hb ht itX7 hown hK hP 8 rfl rfl 10 (by decide) (ht _ tw_405) (fun _ h9 => h9) rfl dX7_wordAt_14 ?_
      refine va_alen (D := (dC, dI)) (v := (nI N)) hx hb hK hP 32 0 rfl rfl rfl dX7_wordAt_17 ?_
      have zN7 : (nI N).toInt = (N : Int) := nI_N (by have := (om_1c2c49c46c zNN); omega)
      refine lv_icmp_ge (tgt := 30) hx hb dX7_wordAt_18 (by decide) (fun h8 => ?_) (fun h8 => ?_)
      · have z9 : (nI N).toInt ≤ pa.toInt := le_z rfl rfl h8
        refine lv_iconst (v := 0) hx hb dX7_wordAt_30 (by decide) ?_
        exact W.iret (v := 0) hx hb hr (fun t ht9 hW => ⟨⟨0, v, rfl, ⟨rfl, (Or.inr (⟨z3, (Or.inr (⟨z6, (Or.inl ⟨z9, rfl⟩)⟩))⟩))⟩, by rw [ht9]; exact hP, hD⟩, hS.F ht9⟩) hS.2.2 dX7_wordAt_31
      · have z10 : pa.toInt < (nI N).toInt := nle_z rfl rfl h8
        refine lv_aload_n hx hb dX7_wordAt_21 rfl (lv_at hl 0 rfl) ?_
        refine va_get (D := (dC, dI)) (ci := 10) (fs := oF_X7 ad pr v) (v := .ref (ad 382)) (C := RX7) (T := TX7) (N := 13) hx hb ht itX7 hown hK hP 8 rfl rfl 10 (by decide) (ht _ tw_405) (fun _ h9 => h9) rfl dX7_wordAt_22 ?_
        refine lv_iload_n hx hb dX7_wordAt_25 rfl (lv_at hl 1 rfl) ?_
        refine va_iald (D := (dC, dI)) (f := (v.1 382)) hx hb hK hP 32 0 rfl rfl (in_y (a := pa.toInt) (b := (N : Int)) rfl (om_51058f7f87 z3) (om_267f7d2370 zN7 z10) rfl) dX7_wordAt_26 ?_
        refine lv_goto (tgt := 31) hx hb dX7_wordAt_27 (by decide) ?_
        exact W.iret (v := ((v.1 382) pa.toNatClampNeg)) hx hb hr (fun t ht9 hW => ⟨⟨((v.1 382) pa.toNatClampNeg), v, rfl, ⟨rfl, (Or.inr (⟨z3, (Or.inr (⟨z6, (Or.inr (⟨z10, rfl⟩))⟩))⟩))⟩, by rw [ht9]; exact hP, hD⟩, hS.F ht9⟩) hS.2.2 dX7_wordAt_31
theorem om_bf0998abe5 : 0 ≤ (0 : Int) ∧ (0 : Int) ≤ 3008 := by omega
set_option maxHeartbeats 4000000 in
set_option maxRecDepth 100000 in
theorem c_x_X7_clear (l : Launch) (dC : Nat → ClassId) (dI : Nat → Nat → Nat) (cI cB cZ cJ cR : ClassId) (tb : Nat → Nat) (sz : Nat) (ad : Nat → Nat) (pr : Int32 → Nat) (N : Nat) (L1 L2 : List Nat) (v : MS)   : Met l yX7_clear (Cond.code yX7_clear cX7_clear 1 none :: tw_W) ({ frames := 0, cells := 0, slots := 0, locals := 0 }) (pc_ (dC, dI) (tyS cI cB cZ cJ cR) tb (cW ad pr N cI cR L1 L2 v) sz [.ref (ad 908)]) (qv_ (dC, dI) (cW ad pr N cI cR L1 L2 v) sz (fun (u : MS) => FC [375, 377, 381, 383, 384] [0] v u ∧ (Q_x_X7_clear L1 L2 v u) ∧ (0 ≤ (u.1 0 381).toInt ∧ (u.1 0 381).toInt ≤ 3008) ∧ ((u.1 0 381).toInt = 0) ∧ (RS0 v u)) (fun (u : MS) => (cW ad pr N cI cR L1 L2 u))) 0 0 (va_A (cW ad pr N cI cR L1 L2 v) sz) := by
  refine Met.ofW (cc := cX7_clear) (maxL := 1) (ret := none) (by decide) rfl ?_
  intro p e s m args below meth c s₁ B hml hv
  obtain ⟨rfl, hsz, hP, hKK, hD0, hFx⟩ := hv
  have hK := hKK.1
  have hx := B.exec
  have hb := B.bytes
  have hr := B.returns
  have ht : ∀ w ∈ tw_W, w.before _ s = true := fun w h => atoms_spec (ws := Cond.code yX7_clear cX7_clear 1 none :: tw_W) B.pre w (List.mem_cons_of_mem _ h)
  have hown : s.vm.findClass RX7 = some m.cls := findClass_of_methodNamed B.named
  have hlocks := B.notSynchronized
  subst hsz
  unfold qv_
  have hD := hD0.self (sz := s.heap.size)
  generalize hAe : va_A (cW ad pr N cI cR L1 L2 v) s.heap.size = A at hD hFx ⊢
  have hA : ∀ q : Nat, s.heap.size ≤ q → A q := fun q h => by rw [← hAe]; exact Or.inr h
  have hS : va_S A s.heap s.heap [] := va_S.rf
  have hl := lv_entry ([.ref (ad 908)]) (n := 1) (Nat.le_of_ble_eq_true rfl)
  rw [lg_entry_eq]
  generalize (lg_sl ([.ref (ad 908)]) ++ List.replicate (1 - (lg_sl ([.ref (ad 908)])).length) Slot.unset).toArray = ls at hl ⊢
  have hl : lv_has ls 1 [(0, .ref (ad 908))] := hl
  refine lv_aload_n hx hb dX7_clear_0 rfl (lv_at hl 0 rfl) ?_
  refine lv_iconst (v := 0) hx hb dX7_clear_1 (by decide) ?_
  refine va_put (D := (dC, dI)) (ci := 10) (fs := oF_X7 ad pr v) (v := .int 0) (ty := .int) (C := RX7) (T := TX7) (N := 13) hx hb ht itX7 tyX7 tyX7_ok nmX7 hown hK hP hD hS 8 rfl rfl 3 (by decide) (ht _ tw_396) (fun _ h9 => h9) rfl (by decide +kernel) rfl rfl (Nat.le_of_ble_eq_true rfl) dX7_clear_2 (fun H locs hP hD hS => ?_)
  have hP := cP_ (cw_375 ad pr N cI cR L1 L2 v 0) hP
  have hD := cD_ (cw_375 ad pr N cI cR L1 L2 v 0) hD
  refine lv_aload_n hx hb dX7_clear_5 rfl (lv_at hl 0 rfl) ?_
  refine lv_iconst (v := 0) hx hb dX7_clear_6 (by decide) ?_
  refine va_put (D := (dC, dI)) (ci := 10) (fs := oF_X7 ad pr (wA v 0 375 0)) (v := .int 0) (ty := .int) (C := RX7) (T := TX7) (N := 13) hx hb ht itX7 tyX7 tyX7_ok nmX7 hown hK hP hD hS 8 rfl rfl 5 (by decide) (ht _ tw_400) (fun _ h9 => h9) rfl (by decide +kernel) rfl rfl (Nat.le_of_ble_eq_true rfl) dX7_clear_7 (fun H locs hP hD hS => ?_)
  have hP := cP_ (cw_377 ad pr N cI cR L1 L2 (wA v 0 375 0) 0) hP
  have hD := cD_ (cw_377 ad pr N cI cR L1 L2 (wA v 0 375 0) 0) hD
  refine lv_aload_n hx hb dX7_clear_10 rfl (lv_at hl 0 rfl) ?_
  refine lv_iconst (v := 0) hx hb dX7_clear_11 (by decide) ?_
  refine va_put (D := (dC, dI)) (ci := 10) (fs := oF_X7 ad pr (wA (wA v 0 375 0) 0 377 0)) (v := .int 0) (ty := .int) (C := RX7) (T := TX7) (N := 13) hx hb ht itX7 tyX7 tyX7_ok nmX7 hown hK hP hD hS 8 rfl rfl 9 (by decide) (ht _ tw_406) (fun _ h9 => h9) rfl (by decide +kernel) rfl rfl (Nat.le_of_ble_eq_true rfl) dX7_clear_12 (fun H locs hP hD hS => ?_)
  have hP := cP_ (cw_381 ad pr N cI cR L1 L2 (wA (wA v 0 375 0) 0 377 0) 0) hP
  have hD := cD_ (cw_381 ad pr N cI cR L1 L2 (wA (wA v 0 375 0) 0 377 0) 0) hD
  refine lv_aload_n hx hb dX7_clear_15 rfl (lv_at hl 0 rfl) ?_
  refine lv_iconst (v := 0) hx hb dX7_clear_16 (by decide) ?_
  refine va_put (D := (dC, dI)) (ci := 10) (fs := oF_X7 ad pr (wA (wA (wA v 0 375 0) 0 377 0) 0 381 0)) (v := .int 0) (ty := .int) (C := RX7) (T := TX7) (N := 13) hx hb ht itX7 tyX7 tyX7_ok nmX7 hown hK hP hD hS 8 rfl rfl 11 (by decide) (ht _ tw_404) (fun _ h9 => h9) rfl (by decide +kernel) rfl rfl (Nat.le_of_ble_eq_true rfl) dX7_clear_17 (fun H locs hP hD hS => ?_)
  have hP := cP_ (cw_383 ad pr N cI cR L1 L2 (wA (wA (wA v 0 375 0) 0 377 0) 0 381 0) 0) hP
  have hD := cD_ (cw_383 ad pr N cI cR L1 L2 (wA (wA (wA v 0 375 0) 0 377 0) 0 381 0) 0) hD
  refine lv_aload_n hx hb dX7_clear_20 rfl (lv_at hl 0 rfl) ?_
  refine lv_iconst (v := 0) hx hb dX7_clear_21 (by decide) ?_
  refine va_put (D := (dC, dI)) (ci := 10) (fs := oF_X7 ad pr (wA (wA (wA (wA v 0 375 0) 0 377 0) 0 381 0) 0 383 0)) (v := .int 0) (ty := .int) (C := RX7) (T := TX7) (N := 13) hx hb ht itX7 tyX7 tyX7_ok nmX7 hown hK hP hD hS 8 rfl rfl 12 (by decide) (ht _ tw_407) (fun _ h9 => h9) rfl (by decide +kernel) rfl rfl (Nat.le_of_ble_eq_true rfl) dX7_clear_22 (fun H locs hP hD hS => ?_)
  have hP := cP_ (cw_384 ad pr N cI cR L1 L2 (wA (wA (wA (wA v 0 375 0) 0 377 0) 0 381 0) 0 383 0) 0) hP
  have hD := cD_ (cw_384 ad pr N cI cR L1 L2 (wA (wA (wA (wA v 0 375 0) 0 377 0) 0 381 0) 0 383 0) 0) hD
  exact W.vret hx hb hr (fun t ht9 hW => ⟨⟨(wA (wA (wA (wA (wA v 0 375 0) 0 377 0) 0 381 0) 0 383 0) 0 384 0), rfl, ⟨(FC.f (FC.f (FC.f (FC.f (FC.f (FC.rf _) 0 (by decide)) 0 (by decide)) 0 (by decide)) 0 (by decide)) 0 (by decide)), rfl, (show 0 ≤ (0 : Int) ∧ (0 : Int) ≤ 3008 from om_bf0998abe5), (show (0 : Int) = 0 from om_3ff73904e8), (RS0.w (RS0.w (RS0.w (RS0.w (RS0.w RS0.rf (by decide)) (by decide)) (by decide)) (by decide)) (by decide))⟩, by rw [ht9]; exact hP, hD⟩, hS.F ht9⟩) hS.2.2 dX7_clear_25
