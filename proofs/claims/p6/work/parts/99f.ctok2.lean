theorem dX9_kind_0 : decode cX9_kind 0 = .ok (.aload_n 0, 1) := by decide +kernel
theorem dX9_kind_1 : decode cX9_kind 1 = .ok (.getfield 32, 3) := by decide +kernel
theorem dX9_kind_4 : decode cX9_kind 4 = .ok (.ifCond .lt 26, 3) := by decide +kernel
theorem dX9_kind_7 : decode cX9_kind 7 = .ok (.aload_n 0, 1) := by decide +kernel
theorem dX9_kind_8 : decode cX9_kind 8 = .ok (.getfield 32, 3) := by decide +kernel
theorem dX9_kind_11 : decode cX9_kind 11 = .ok (.aload_n 0, 1) := by decide +kernel
theorem dX9_kind_12 : decode cX9_kind 12 = .ok (.getfield 28, 3) := by decide +kernel
theorem dX9_kind_15 : decode cX9_kind 15 = .ok (.if_icmp .ge 15, 3) := by decide +kernel
theorem dX9_kind_30 : decode cX9_kind 30 = .ok (.iconst 0, 1) := by decide +kernel
theorem dX9_kind_31 : decode cX9_kind 31 = .ok (.ireturn, 1) := by decide +kernel
theorem dX9_kind_18 : decode cX9_kind 18 = .ok (.aload_n 0, 1) := by decide +kernel
theorem dX9_kind_19 : decode cX9_kind 19 = .ok (.getfield 11, 3) := by decide +kernel
theorem dX9_kind_22 : decode cX9_kind 22 = .ok (.aload_n 0, 1) := by decide +kernel
theorem dX9_kind_23 : decode cX9_kind 23 = .ok (.getfield 32, 3) := by decide +kernel
theorem dX9_kind_26 : decode cX9_kind 26 = .ok (.iaload, 1) := by decide +kernel
theorem dX9_kind_27 : decode cX9_kind 27 = .ok (.goto 4, 3) := by decide +kernel
theorem dX9_kindBehind_0 : decode cX9_kindBehind 0 = .ok (.aload_n 0, 1) := by decide +kernel
theorem dX9_kindBehind_1 : decode cX9_kindBehind 1 = .ok (.getfield 32, 3) := by decide +kernel
theorem dX9_kindBehind_4 : decode cX9_kindBehind 4 = .ok (.iconst 1, 1) := by decide +kernel
theorem dX9_kindBehind_5 : decode cX9_kindBehind 5 = .ok (.iadd, 1) := by decide +kernel
theorem dX9_kindBehind_6 : decode cX9_kindBehind 6 = .ok (.ifCond .lt 30, 3) := by decide +kernel
theorem dX9_kindBehind_9 : decode cX9_kindBehind 9 = .ok (.aload_n 0, 1) := by decide +kernel
theorem dX9_kindBehind_10 : decode cX9_kindBehind 10 = .ok (.getfield 32, 3) := by decide +kernel
theorem dX9_kindBehind_13 : decode cX9_kindBehind 13 = .ok (.iconst 1, 1) := by decide +kernel
theorem dX9_kindBehind_14 : decode cX9_kindBehind 14 = .ok (.iadd, 1) := by decide +kernel
theorem dX9_kindBehind_15 : decode cX9_kindBehind 15 = .ok (.aload_n 0, 1) := by decide +kernel
theorem dX9_kindBehind_16 : decode cX9_kindBehind 16 = .ok (.getfield 28, 3) := by decide +kernel
theorem dX9_kindBehind_19 : decode cX9_kindBehind 19 = .ok (.if_icmp .ge 17, 3) := by decide +kernel
theorem dX9_kindBehind_36 : decode cX9_kindBehind 36 = .ok (.iconst 0, 1) := by decide +kernel
theorem dX9_kindBehind_37 : decode cX9_kindBehind 37 = .ok (.ireturn, 1) := by decide +kernel
theorem dX9_kindBehind_22 : decode cX9_kindBehind 22 = .ok (.aload_n 0, 1) := by decide +kernel
theorem dX9_kindBehind_23 : decode cX9_kindBehind 23 = .ok (.getfield 11, 3) := by decide +kernel
theorem dX9_kindBehind_26 : decode cX9_kindBehind 26 = .ok (.aload_n 0, 1) := by decide +kernel
theorem dX9_kindBehind_27 : decode cX9_kindBehind 27 = .ok (.getfield 32, 3) := by decide +kernel
theorem dX9_kindBehind_30 : decode cX9_kindBehind 30 = .ok (.iconst 1, 1) := by decide +kernel
theorem dX9_kindBehind_31 : decode cX9_kindBehind 31 = .ok (.iadd, 1) := by decide +kernel
theorem dX9_kindBehind_32 : decode cX9_kindBehind 32 = .ok (.iaload, 1) := by decide +kernel
theorem dX9_kindBehind_33 : decode cX9_kindBehind 33 = .ok (.goto 4, 3) := by decide +kernel
theorem dX9_value_0 : decode cX9_value 0 = .ok (.aload_n 0, 1) := by decide +kernel
theorem dX9_value_1 : decode cX9_value 1 = .ok (.getfield 32, 3) := by decide +kernel
theorem dX9_value_4 : decode cX9_value 4 = .ok (.ifCond .lt 26, 3) := by decide +kernel
theorem dX9_value_7 : decode cX9_value 7 = .ok (.aload_n 0, 1) := by decide +kernel
theorem dX9_value_8 : decode cX9_value 8 = .ok (.getfield 32, 3) := by decide +kernel
theorem dX9_value_11 : decode cX9_value 11 = .ok (.aload_n 0, 1) := by decide +kernel
theorem dX9_value_12 : decode cX9_value 12 = .ok (.getfield 28, 3) := by decide +kernel
theorem dX9_value_15 : decode cX9_value 15 = .ok (.if_icmp .ge 15, 3) := by decide +kernel
theorem dX9_value_30 : decode cX9_value 30 = .ok (.iconst 0, 1) := by decide +kernel
theorem dX9_value_31 : decode cX9_value 31 = .ok (.ireturn, 1) := by decide +kernel
theorem dX9_value_18 : decode cX9_value 18 = .ok (.aload_n 0, 1) := by decide +kernel
theorem dX9_value_19 : decode cX9_value 19 = .ok (.getfield 18, 3) := by decide +kernel
theorem dX9_value_22 : decode cX9_value 22 = .ok (.aload_n 0, 1) := by decide +kernel
theorem dX9_value_23 : decode cX9_value 23 = .ok (.getfield 32, 3) := by decide +kernel
theorem dX9_value_26 : decode cX9_value 26 = .ok (.iaload, 1) := by decide +kernel
theorem dX9_value_27 : decode cX9_value 27 = .ok (.goto 4, 3) := by decide +kernel
theorem dX9_place_0 : decode cX9_place 0 = .ok (.aload_n 0, 1) := by decide +kernel
theorem dX9_place_1 : decode cX9_place 1 = .ok (.getfield 32, 3) := by decide +kernel
theorem dX9_place_4 : decode cX9_place 4 = .ok (.ifCond .lt 26, 3) := by decide +kernel
theorem dX9_place_7 : decode cX9_place 7 = .ok (.aload_n 0, 1) := by decide +kernel
theorem dX9_place_8 : decode cX9_place 8 = .ok (.getfield 32, 3) := by decide +kernel
theorem dX9_place_11 : decode cX9_place 11 = .ok (.aload_n 0, 1) := by decide +kernel
theorem dX9_place_12 : decode cX9_place 12 = .ok (.getfield 28, 3) := by decide +kernel
theorem dX9_place_15 : decode cX9_place 15 = .ok (.if_icmp .ge 15, 3) := by decide +kernel
theorem dX9_place_30 : decode cX9_place 30 = .ok (.aload_n 0, 1) := by decide +kernel
theorem dX9_place_31 : decode cX9_place 31 = .ok (.getfield 21, 3) := by decide +kernel
theorem dX9_place_34 : decode cX9_place 34 = .ok (.getfield 54, 3) := by decide +kernel
theorem dX9_place_37 : decode cX9_place 37 = .ok (.ireturn, 1) := by decide +kernel
theorem dX9_place_18 : decode cX9_place 18 = .ok (.aload_n 0, 1) := by decide +kernel
theorem dX9_place_19 : decode cX9_place 19 = .ok (.getfield 15, 3) := by decide +kernel
theorem dX9_place_22 : decode cX9_place 22 = .ok (.aload_n 0, 1) := by decide +kernel
theorem dX9_place_23 : decode cX9_place 23 = .ok (.getfield 32, 3) := by decide +kernel
theorem dX9_place_26 : decode cX9_place 26 = .ok (.iaload, 1) := by decide +kernel
theorem dX9_place_27 : decode cX9_place 27 = .ok (.goto 10, 3) := by decide +kernel
theorem dX9_isTooMuch_0 : decode cX9_isTooMuch 0 = .ok (.aload_n 0, 1) := by decide +kernel
theorem dX9_isTooMuch_1 : decode cX9_isTooMuch 1 = .ok (.getfield 32, 3) := by decide +kernel
theorem dX9_isTooMuch_4 : decode cX9_isTooMuch 4 = .ok (.sipush 1500, 3) := by decide +kernel
theorem dX9_isTooMuch_7 : decode cX9_isTooMuch 7 = .ok (.if_icmp .ge 14, 3) := by decide +kernel
theorem dX9_isTooMuch_21 : decode cX9_isTooMuch 21 = .ok (.iconst 1, 1) := by decide +kernel
theorem dX9_isTooMuch_22 : decode cX9_isTooMuch 22 = .ok (.goto 4, 3) := by decide +kernel
theorem dX9_isTooMuch_26 : decode cX9_isTooMuch 26 = .ok (.ireturn, 1) := by decide +kernel
theorem dX9_isTooMuch_10 : decode cX9_isTooMuch 10 = .ok (.aload_n 0, 1) := by decide +kernel
theorem dX9_isTooMuch_11 : decode cX9_isTooMuch 11 = .ok (.getfield 32, 3) := by decide +kernel
theorem dX9_isTooMuch_14 : decode cX9_isTooMuch 14 = .ok (.aload_n 0, 1) := by decide +kernel
theorem dX9_isTooMuch_15 : decode cX9_isTooMuch 15 = .ok (.getfield 38, 3) := by decide +kernel
theorem dX9_isTooMuch_18 : decode cX9_isTooMuch 18 = .ok (.if_icmp .ne 7, 3) := by decide +kernel
theorem dX9_isTooMuch_25 : decode cX9_isTooMuch 25 = .ok (.iconst 0, 1) := by decide +kernel
theorem dX9_refuse_0 : decode cX9_refuse 0 = .ok (.aload_n 0, 1) := by decide +kernel
theorem dX9_refuse_1 : decode cX9_refuse 1 = .ok (.iload_n 1, 1) := by decide +kernel
theorem dX9_refuse_2 : decode cX9_refuse 2 = .ok (.putfield 41, 3) := by decide +kernel
theorem dX9_refuse_5 : decode cX9_refuse 5 = .ok (.aload_n 0, 1) := by decide +kernel
theorem dX9_refuse_6 : decode cX9_refuse 6 = .ok (.iload_n 2, 1) := by decide +kernel
theorem dX9_refuse_7 : decode cX9_refuse 7 = .ok (.putfield 44, 3) := by decide +kernel
theorem dX9_refuse_10 : decode cX9_refuse 10 = .ok (.new 121, 3) := by decide +kernel
theorem dX9_refuse_13 : decode cX9_refuse 13 = .ok (.dup, 1) := by decide +kernel
theorem dX9_refuse_14 : decode cX9_refuse 14 = .ok (.ldc 123, 2) := by decide +kernel
theorem dX9_refuse_16 : decode cX9_refuse 16 = .ok (.invokespecial 125, 3) := by decide +kernel
theorem dX9_refuse_19 : decode cX9_refuse 19 = .ok (.athrow, 1) := by decide +kernel
theorem tw_453 : (.classLink RX9 121 "java/lang/IllegalStateException" : Cond) ∈ tw_W := tw_in (t8_3 (List.mem_of_getElem? (i := 124) rfl)) rfl
theorem tw_454 : (.initialized "java/lang/IllegalStateException" : Cond) ∈ tw_W := tw_in (t8_1 (List.mem_of_getElem? (i := 21) rfl)) rfl
theorem xat_9 : ∀ w ∈ (vx_atS RX9 125 "java/lang/IllegalStateException" ["java/lang/RuntimeException", "java/lang/Exception"]).filter goodWord, w ∈ tw_W := tw_all (by decide +kernel)
theorem xat_9n : ∀ w ∈ (vx_atS RX9 125 "java/lang/IllegalStateException" ["java/lang/RuntimeException", "java/lang/Exception"]).filter (fun w => !goodWord w), w ∈ ([.castable "java/lang/IllegalStateException" "java/lang/IllegalStateException", .declares (Bundle.initS "java/lang/RuntimeException"), .declares (Bundle.initS "java/lang/Exception"), .declares (Bundle.initS Bundle.tN)] : List Cond) := by decide +kernel
theorem xat_9o : ∀ w ∈ Cond.classLink RX9 121 "java/lang/IllegalStateException" :: Cond.initialized "java/lang/IllegalStateException" :: vx_atS RX9 125 "java/lang/IllegalStateException" ["java/lang/RuntimeException", "java/lang/Exception"], vx_ot w = true := by decide +kernel
theorem dX9_refuseMisfit_0 : decode cX9_refuseMisfit 0 = .ok (.aload_n 0, 1) := by decide +kernel
theorem dX9_refuseMisfit_1 : decode cX9_refuseMisfit 1 = .ok (.aload_n 0, 1) := by decide +kernel
theorem dX9_refuseMisfit_2 : decode cX9_refuseMisfit 2 = .ok (.invokevirtual 128, 3) := by decide +kernel
theorem tw_455 : (.code yX9_kind cX9_kind 1 (some .int) : Cond) ∈ tw_W := tw_in (t8_3 (List.mem_of_getElem? (i := 106) rfl)) rfl
theorem tw_456 : ∀ w ∈ ([.methodLink RX9 128 yX9_kind, .instanceMethod yX9_kind, .selects RX9 yX9_kind yX9_kind, .initialized RX9] : List Cond), w ∈ tw_W := al_c (tw_in (t8_3 (List.mem_of_getElem? (i := 115) rfl)) rfl) (al_c (tw_in (t8_3 (List.mem_of_getElem? (i := 104) rfl)) rfl) (al_c (tw_in (t8_3 (List.mem_of_getElem? (i := 105) rfl)) rfl) (al_c (tw_in (t8_1 (List.mem_of_getElem? (i := 10) rfl)) rfl) al_n)))
theorem dX9_refuseMisfit_5 : decode cX9_refuseMisfit 5 = .ok (.iconst 1, 1) := by decide +kernel
theorem dX9_refuseMisfit_6 : decode cX9_refuseMisfit 6 = .ok (.if_icmp .ne 7, 3) := by decide +kernel
theorem dX9_refuseMisfit_13 : decode cX9_refuseMisfit 13 = .ok (.iconst 2, 1) := by decide +kernel
theorem dX9_refuseMisfit_14 : decode cX9_refuseMisfit 14 = .ok (.aload_n 0, 1) := by decide +kernel
theorem dX9_refuseMisfit_15 : decode cX9_refuseMisfit 15 = .ok (.invokevirtual 131, 3) := by decide +kernel
theorem tw_457 : (.code yX9_place cX9_place 1 (some .int) : Cond) ∈ tw_W := tw_in (t8_3 (List.mem_of_getElem? (i := 119) rfl)) rfl
theorem tw_458 : ∀ w ∈ ([.methodLink RX9 131 yX9_place, .instanceMethod yX9_place, .selects RX9 yX9_place yX9_place, .initialized RX9] : List Cond), w ∈ tw_W := al_c (tw_in (t8_3 (List.mem_of_getElem? (i := 116) rfl)) rfl) (al_c (tw_in (t8_3 (List.mem_of_getElem? (i := 117) rfl)) rfl) (al_c (tw_in (t8_3 (List.mem_of_getElem? (i := 118) rfl)) rfl) (al_c (tw_in (t8_1 (List.mem_of_getElem? (i := 10) rfl)) rfl) al_n)))
theorem dX9_refuseMisfit_18 : decode cX9_refuseMisfit 18 = .ok (.invokevirtual 134, 3) := by decide +kernel
theorem tw_459 : (.code yX9_refuse cX9_refuse 3 none : Cond) ∈ tw_W := tw_in (t8_3 (List.mem_of_getElem? (i := 123) rfl)) rfl
theorem tw_460 : ∀ w ∈ ([.methodLink RX9 134 yX9_refuse, .instanceMethod yX9_refuse, .selects RX9 yX9_refuse yX9_refuse, .initialized RX9] : List Cond), w ∈ tw_W := al_c (tw_in (t8_3 (List.mem_of_getElem? (i := 120) rfl)) rfl) (al_c (tw_in (t8_3 (List.mem_of_getElem? (i := 121) rfl)) rfl) (al_c (tw_in (t8_3 (List.mem_of_getElem? (i := 122) rfl)) rfl) (al_c (tw_in (t8_1 (List.mem_of_getElem? (i := 10) rfl)) rfl) al_n)))
theorem dX9_refuseMisfit_9 : decode cX9_refuseMisfit 9 = .ok (.iconst 1, 1) := by decide +kernel
theorem dX9_refuseMisfit_10 : decode cX9_refuseMisfit 10 = .ok (.goto 4, 3) := by decide +kernel
theorem dX9_need_0 : decode cX9_need 0 = .ok (.aload_n 0, 1) := by decide +kernel
theorem dX9_need_1 : decode cX9_need 1 = .ok (.invokevirtual 128, 3) := by decide +kernel
theorem dX9_need_4 : decode cX9_need 4 = .ok (.iload_n 1, 1) := by decide +kernel
theorem dX9_need_5 : decode cX9_need 5 = .ok (.if_icmp .eq 24, 3) := by decide +kernel
theorem dX9_need_29 : decode cX9_need 29 = .ok (.return_, 1) := by decide +kernel
theorem dX9_need_8 : decode cX9_need 8 = .ok (.aload_n 0, 1) := by decide +kernel
theorem dX9_need_9 : decode cX9_need 9 = .ok (.aload_n 0, 1) := by decide +kernel
theorem dX9_need_10 : decode cX9_need 10 = .ok (.invokevirtual 128, 3) := by decide +kernel
theorem dX9_need_13 : decode cX9_need 13 = .ok (.iconst 1, 1) := by decide +kernel
theorem dX9_need_14 : decode cX9_need 14 = .ok (.if_icmp .ne 7, 3) := by decide +kernel
theorem dX9_need_21 : decode cX9_need 21 = .ok (.iconst 2, 1) := by decide +kernel
theorem dX9_need_22 : decode cX9_need 22 = .ok (.aload_n 0, 1) := by decide +kernel
theorem dX9_need_23 : decode cX9_need 23 = .ok (.invokevirtual 131, 3) := by decide +kernel
theorem dX9_need_26 : decode cX9_need 26 = .ok (.invokevirtual 134, 3) := by decide +kernel
theorem dX9_need_17 : decode cX9_need 17 = .ok (.iconst 1, 1) := by decide +kernel
theorem dX9_need_18 : decode cX9_need 18 = .ok (.goto 4, 3) := by decide +kernel
theorem dX9_take_0 : decode cX9_take 0 = .ok (.aload_n 0, 1) := by decide +kernel
theorem dX9_take_1 : decode cX9_take 1 = .ok (.invokevirtual 138, 3) := by decide +kernel
theorem tw_461 : (.code yX9_isTooMuch cX9_isTooMuch 1 (some .boolean) : Cond) ∈ tw_W := tw_in (t8_3 (List.mem_of_getElem? (i := 198) rfl)) rfl
theorem tw_462 : ∀ w ∈ ([.methodLink RX9 138 yX9_isTooMuch, .instanceMethod yX9_isTooMuch, .selects RX9 yX9_isTooMuch yX9_isTooMuch, .initialized RX9] : List Cond), w ∈ tw_W := al_c (tw_in (t8_3 (List.mem_of_getElem? (i := 195) rfl)) rfl) (al_c (tw_in (t8_3 (List.mem_of_getElem? (i := 197) rfl)) rfl) (al_c (tw_in (t7_1 (q := (yX9_isTooMuch, 10)) (List.mem_of_getElem? (i := 12) rfl)) rfl) (al_c (tw_in (t8_1 (List.mem_of_getElem? (i := 10) rfl)) rfl) al_n)))
theorem dX9_take_4 : decode cX9_take 4 = .ok (.ifCond .eq 12, 3) := by decide +kernel
theorem dX9_take_16 : decode cX9_take 16 = .ok (.aload_n 0, 1) := by decide +kernel
theorem dX9_take_17 : decode cX9_take 17 = .ok (.dup, 1) := by decide +kernel
theorem dX9_take_18 : decode cX9_take 18 = .ok (.getfield 32, 3) := by decide +kernel
theorem dX9_take_21 : decode cX9_take 21 = .ok (.iconst 1, 1) := by decide +kernel
theorem dX9_take_22 : decode cX9_take 22 = .ok (.iadd, 1) := by decide +kernel
theorem dX9_take_23 : decode cX9_take 23 = .ok (.putfield 32, 3) := by decide +kernel
theorem dX9_take_26 : decode cX9_take 26 = .ok (.return_, 1) := by decide +kernel
theorem dX9_take_7 : decode cX9_take 7 = .ok (.aload_n 0, 1) := by decide +kernel
theorem dX9_take_8 : decode cX9_take 8 = .ok (.iconst 5, 1) := by decide +kernel
theorem dX9_take_9 : decode cX9_take 9 = .ok (.aload_n 0, 1) := by decide +kernel
theorem dX9_take_10 : decode cX9_take 10 = .ok (.invokevirtual 131, 3) := by decide +kernel
theorem dX9_take_13 : decode cX9_take 13 = .ok (.invokevirtual 134, 3) := by decide +kernel
theorem dX9_expect_0 : decode cX9_expect 0 = .ok (.aload_n 0, 1) := by decide +kernel
theorem dX9_expect_1 : decode cX9_expect 1 = .ok (.invokevirtual 128, 3) := by decide +kernel
theorem dX9_expect_4 : decode cX9_expect 4 = .ok (.iload_n 1, 1) := by decide +kernel
theorem dX9_expect_5 : decode cX9_expect 5 = .ok (.if_icmp .eq 24, 3) := by decide +kernel
theorem dX9_expect_29 : decode cX9_expect 29 = .ok (.aload_n 0, 1) := by decide +kernel
theorem dX9_expect_30 : decode cX9_expect 30 = .ok (.invokevirtual 138, 3) := by decide +kernel
theorem dX9_expect_33 : decode cX9_expect 33 = .ok (.ifCond .eq 12, 3) := by decide +kernel
theorem dX9_expect_45 : decode cX9_expect 45 = .ok (.aload_n 0, 1) := by decide +kernel
theorem dX9_expect_46 : decode cX9_expect 46 = .ok (.dup, 1) := by decide +kernel
theorem dX9_expect_47 : decode cX9_expect 47 = .ok (.getfield 32, 3) := by decide +kernel
theorem dX9_expect_50 : decode cX9_expect 50 = .ok (.iconst 1, 1) := by decide +kernel
theorem dX9_expect_51 : decode cX9_expect 51 = .ok (.iadd, 1) := by decide +kernel
theorem dX9_expect_52 : decode cX9_expect 52 = .ok (.putfield 32, 3) := by decide +kernel
theorem dX9_expect_55 : decode cX9_expect 55 = .ok (.return_, 1) := by decide +kernel
theorem dX9_expect_36 : decode cX9_expect 36 = .ok (.aload_n 0, 1) := by decide +kernel
theorem dX9_expect_37 : decode cX9_expect 37 = .ok (.iconst 5, 1) := by decide +kernel
theorem dX9_expect_38 : decode cX9_expect 38 = .ok (.aload_n 0, 1) := by decide +kernel
theorem dX9_expect_39 : decode cX9_expect 39 = .ok (.invokevirtual 131, 3) := by decide +kernel
theorem dX9_expect_42 : decode cX9_expect 42 = .ok (.invokevirtual 134, 3) := by decide +kernel
theorem dX9_expect_8 : decode cX9_expect 8 = .ok (.aload_n 0, 1) := by decide +kernel
theorem dX9_expect_9 : decode cX9_expect 9 = .ok (.aload_n 0, 1) := by decide +kernel
theorem dX9_expect_10 : decode cX9_expect 10 = .ok (.invokevirtual 128, 3) := by decide +kernel
theorem dX9_expect_13 : decode cX9_expect 13 = .ok (.iconst 1, 1) := by decide +kernel
theorem dX9_expect_14 : decode cX9_expect 14 = .ok (.if_icmp .ne 7, 3) := by decide +kernel
theorem dX9_expect_21 : decode cX9_expect 21 = .ok (.iconst 2, 1) := by decide +kernel
theorem dX9_expect_22 : decode cX9_expect 22 = .ok (.aload_n 0, 1) := by decide +kernel
theorem dX9_expect_23 : decode cX9_expect 23 = .ok (.invokevirtual 131, 3) := by decide +kernel
theorem dX9_expect_26 : decode cX9_expect 26 = .ok (.invokevirtual 134, 3) := by decide +kernel
theorem dX9_expect_17 : decode cX9_expect 17 = .ok (.iconst 1, 1) := by decide +kernel
theorem dX9_expect_18 : decode cX9_expect 18 = .ok (.goto 4, 3) := by decide +kernel
theorem dX9_open_0 : decode cX9_open 0 = .ok (.aload_n 0, 1) := by decide +kernel
theorem dX9_open_1 : decode cX9_open 1 = .ok (.getfield 35, 3) := by decide +kernel
theorem dX9_open_4 : decode cX9_open 4 = .ok (.bipush 40, 2) := by decide +kernel
theorem dX9_open_6 : decode cX9_open 6 = .ok (.if_icmp .ge 10, 3) := by decide +kernel
theorem dX9_open_16 : decode cX9_open 16 = .ok (.aload_n 0, 1) := by decide +kernel
theorem dX9_open_17 : decode cX9_open 17 = .ok (.iconst 5, 1) := by decide +kernel
theorem dX9_open_18 : decode cX9_open 18 = .ok (.aload_n 0, 1) := by decide +kernel
theorem dX9_open_19 : decode cX9_open 19 = .ok (.invokevirtual 131, 3) := by decide +kernel
theorem dX9_open_22 : decode cX9_open 22 = .ok (.invokevirtual 134, 3) := by decide +kernel
theorem dX9_open_9 : decode cX9_open 9 = .ok (.aload_n 0, 1) := by decide +kernel
theorem dX9_open_10 : decode cX9_open 10 = .ok (.invokevirtual 138, 3) := by decide +kernel
theorem dX9_open_13 : decode cX9_open 13 = .ok (.ifCond .eq 12, 3) := by decide +kernel
theorem dX9_open_25 : decode cX9_open 25 = .ok (.aload_n 0, 1) := by decide +kernel
theorem dX9_open_26 : decode cX9_open 26 = .ok (.dup, 1) := by decide +kernel
theorem dX9_open_27 : decode cX9_open 27 = .ok (.getfield 35, 3) := by decide +kernel
theorem dX9_open_30 : decode cX9_open 30 = .ok (.iconst 1, 1) := by decide +kernel
theorem dX9_open_31 : decode cX9_open 31 = .ok (.iadd, 1) := by decide +kernel
theorem dX9_open_32 : decode cX9_open 32 = .ok (.putfield 35, 3) := by decide +kernel
theorem dX9_open_35 : decode cX9_open 35 = .ok (.aload_n 0, 1) := by decide +kernel
theorem dX9_open_36 : decode cX9_open 36 = .ok (.dup, 1) := by decide +kernel
theorem dX9_open_37 : decode cX9_open 37 = .ok (.getfield 32, 3) := by decide +kernel
theorem dX9_open_40 : decode cX9_open 40 = .ok (.iconst 1, 1) := by decide +kernel
theorem dX9_open_41 : decode cX9_open 41 = .ok (.iadd, 1) := by decide +kernel
theorem dX9_open_42 : decode cX9_open 42 = .ok (.putfield 32, 3) := by decide +kernel
theorem dX9_open_45 : decode cX9_open 45 = .ok (.return_, 1) := by decide +kernel
theorem dX9_close_0 : decode cX9_close 0 = .ok (.aload_n 0, 1) := by decide +kernel
theorem dX9_close_1 : decode cX9_close 1 = .ok (.dup, 1) := by decide +kernel
theorem dX9_close_2 : decode cX9_close 2 = .ok (.getfield 35, 3) := by decide +kernel
theorem dX9_close_5 : decode cX9_close 5 = .ok (.iconst 1, 1) := by decide +kernel
theorem dX9_close_6 : decode cX9_close 6 = .ok (.isub, 1) := by decide +kernel
theorem dX9_close_7 : decode cX9_close 7 = .ok (.putfield 35, 3) := by decide +kernel
theorem dX9_close_10 : decode cX9_close 10 = .ok (.return_, 1) := by decide +kernel
theorem dX9_makeDue_0 : decode cX9_makeDue 0 = .ok (.aload_n 0, 1) := by decide +kernel
theorem dX9_makeDue_1 : decode cX9_makeDue 1 = .ok (.aload_n 0, 1) := by decide +kernel
theorem dX9_makeDue_2 : decode cX9_makeDue 2 = .ok (.getfield 32, 3) := by decide +kernel
theorem dX9_makeDue_5 : decode cX9_makeDue 5 = .ok (.putfield 38, 3) := by decide +kernel
theorem dX9_makeDue_8 : decode cX9_makeDue 8 = .ok (.return_, 1) := by decide +kernel
/-- that a class declares its constructor follows from the words that say its code -/
theorem dcl_of {args : Array Value} {s : State} {x : MethodName} {b : ByteArray} {n : Nat} {r : Option FieldType} (h1 : (Cond.instanceMethod x).before args s = true) (h2 : (Cond.code x b n r).before args s = true) : (Cond.declares x).before args s = true := by
  obtain ⟨m, meth, hn, hm, hs, -⟩ := Cond.instanceMethod_spec h1
  obtain ⟨meth', c, hm', -, -, -, -, -, -, hd⟩ := Cond.code_spec hn h2
  have e := Option.some.inj (hm.symm.trans hm')
  subst e
  show (Cond.declares x).holds args s none s [] = true
  simp [Cond.holds, Cond.value, hn, hm, hs, hd]
def isIM (x : MethodName) : Cond → Bool
  | .instanceMethod y => decide (y = x)
  | _ => false
def isCd (x : MethodName) : Cond → Bool
  | .code y _ _ _ => decide (y = x)
  | _ => false
theorem dcl_in {args : Array Value} {s : State} (ht : ∀ w ∈ tw_W, w.before args s = true) {x : MethodName} (h1 : lw_tbl.any (isIM x) = true) (h2 : lw_tbl.any (isCd x) = true) : (Cond.declares x).before args s = true := by
  obtain ⟨w, hw, e⟩ := List.any_eq_true.mp h1
  obtain ⟨v, hv, f⟩ := List.any_eq_true.mp h2
  cases w <;> simp only [isIM, decide_eq_true_eq, Bool.false_eq_true] at e
  cases v <;> simp only [isCd, decide_eq_true_eq, Bool.false_eq_true] at f
  subst e; subst f
  exact dcl_of (ht _ (tw_in hw rfl)) (ht _ (tw_in hv rfl))
theorem dcl_0 {args : Array Value} {s : State} (ht : ∀ w ∈ tw_W, w.before args s = true) : (Cond.declares (Bundle.initS "java/lang/RuntimeException")).before args s = true := dcl_in ht (by decide +kernel) (by decide +kernel)
theorem dcl_1 {args : Array Value} {s : State} (ht : ∀ w ∈ tw_W, w.before args s = true) : (Cond.declares (Bundle.initS "java/lang/Exception")).before args s = true := dcl_in ht (by decide +kernel) (by decide +kernel)
theorem dcl_2 {args : Array Value} {s : State} (ht : ∀ w ∈ tw_W, w.before args s = true) : (Cond.declares (Bundle.initS Bundle.tN)).before args s = true := dcl_in ht (by decide +kernel) (by decide +kernel)
theorem om_0c7119ae80 {x0 : Int} (h0 : 0 ≤ x0 ∧ x0 ≤ 1500) (h1 : x0 < (0 : Int)) : False := by omega
theorem om_62a27e6381 {x0 : Int} (h0 : 0 ≤ x0 ∧ x0 ≤ 1500) : x0 < 1503 := by omega
set_option maxHeartbeats 4000000 in
set_option maxRecDepth 100000 in
theorem c_x_X9_kind (l : Launch) (dC : Nat → ClassId) (dI : Nat → Nat → Nat) (cI cB cZ cJ cR : ClassId) (tb : Nat → Nat) (sz : Nat) (ad : Nat → Nat) (pr : Int32 → Nat) (N : Nat) (L1 L2 : List Nat) (v : MS)  (z304 : 0 ≤ (v.1 0 304).toInt ∧ (v.1 0 304).toInt ≤ 1503) (z305 : 0 ≤ (v.1 0 305).toInt ∧ (v.1 0 305).toInt ≤ 1500) : Met l yX9_kind (Cond.code yX9_kind cX9_kind 1 (some .int) :: tw_W) ({ frames := 0, cells := 0, slots := 0, locals := 0 }) (pc_ (dC, dI) (tyS cI cB cZ cJ cR) tb (cW ad pr N cI cR L1 L2 v) sz [.ref (ad 900)]) (qi_ (dC, dI) (cW ad pr N cI cR L1 L2 v) sz (fun (r : Int32) (u : MS) => v = u ∧ (Q_x_X9_kind L1 L2 v r)) (fun (u : MS) => (cW ad pr N cI cR L1 L2 u))) 0 0 (va_A (cW ad pr N cI cR L1 L2 v) sz) := by
  refine Met.ofW (cc := cX9_kind) (maxL := 1) (ret := (some .int)) (by decide) rfl ?_
  intro p e s m args below meth c s₁ B hml hv
  obtain ⟨rfl, hsz, hP, hKK, hD0, hFx⟩ := hv
  have hK := hKK.1
  have hx := B.exec
  have hb := B.bytes
  have hr := B.returns
  have ht : ∀ w ∈ tw_W, w.before _ s = true := fun w h => atoms_spec (ws := Cond.code yX9_kind cX9_kind 1 (some .int) :: tw_W) B.pre w (List.mem_cons_of_mem _ h)
  have hown : s.vm.findClass RX9 = some m.cls := findClass_of_methodNamed B.named
  have hlocks := B.notSynchronized
  subst hsz
  unfold qi_
  have hD := hD0.self (sz := s.heap.size)
  generalize hAe : va_A (cW ad pr N cI cR L1 L2 v) s.heap.size = A at hD hFx ⊢
  have hA : ∀ q : Nat, s.heap.size ≤ q → A q := fun q h => by rw [← hAe]; exact Or.inr h
  have hS : va_S A s.heap s.heap [] := va_S.rf
  have hl := lv_entry ([.ref (ad 900)]) (n := 1) (Nat.le_of_ble_eq_true rfl)
  rw [lg_entry_eq]
  generalize (lg_sl ([.ref (ad 900)]) ++ List.replicate (1 - (lg_sl ([.ref (ad 900)])).length) Slot.unset).toArray = ls at hl ⊢
  have hl : lv_has ls 1 [(0, .ref (ad 900))] := hl
  refine lv_aload_n hx hb dX9_kind_0 rfl (lv_at hl 0 rfl) ?_
  refine va_get (D := (dC, dI)) (ci := 12) (fs := oF_X9 ad pr v) (v := .int (v.1 0 305)) (C := RX9) (T := TX9) (N := 10) hx hb ht itX9 hown hK hP 0 rfl rfl 5 (by decide) (ht _ tw_444) (fun _ h9 => h9) rfl dX9_kind_1 ?_
  refine lv_if_lt (tgt := 30) hx hb dX9_kind_4 (by decide) (fun h1 => ?_) (fun h1 => ?_)
  · have z2 : (v.1 0 305).toInt < (0 : Int) := lt_z rfl (show (0 : Int32).toInt = (0 : Int) by decide) h1
    exact False.elim (om_0c7119ae80 z305 z2)
  · have z3 : (0 : Int) ≤ (v.1 0 305).toInt := nlt_z rfl (show (0 : Int32).toInt = (0 : Int) by decide) h1
    refine lv_aload_n hx hb dX9_kind_7 rfl (lv_at hl 0 rfl) ?_
    refine va_get (D := (dC, dI)) (ci := 12) (fs := oF_X9 ad pr v) (v := .int (v.1 0 305)) (C := RX9) (T := TX9) (N := 10) hx hb ht itX9 hown hK hP 0 rfl rfl 5 (by decide) (ht _ tw_444) (fun _ h9 => h9) rfl dX9_kind_8 ?_
    refine lv_aload_n hx hb dX9_kind_11 rfl (lv_at hl 0 rfl) ?_
    refine va_get (D := (dC, dI)) (ci := 12) (fs := oF_X9 ad pr v) (v := .int (v.1 0 304)) (C := RX9) (T := TX9) (N := 10) hx hb ht itX9 hown hK hP 0 rfl rfl 4 (by decide) (ht _ tw_411) (fun _ h9 => h9) rfl dX9_kind_12 ?_
    refine lv_icmp_ge (tgt := 30) hx hb dX9_kind_15 (by decide) (fun h4 => ?_) (fun h4 => ?_)
    · have z5 : (v.1 0 304).toInt ≤ (v.1 0 305).toInt := le_z rfl rfl h4
      refine lv_iconst (v := 0) hx hb dX9_kind_30 (by decide) ?_
      exact W.iret (v := 0) hx hb hr (fun t ht9 hW => ⟨⟨0, v, rfl, ⟨rfl, ⟨z304, z305, z3, (Or.inl ⟨z5, rfl⟩)⟩⟩, by rw [ht9]; exact hP, hD⟩, hS.F ht9⟩) hS.2.2 dX9_kind_31
    · have z6 : (v.1 0 305).toInt < (v.1 0 304).toInt := nle_z rfl rfl h4
      refine lv_aload_n hx hb dX9_kind_18 rfl (lv_at hl 0 rfl) ?_
      refine va_get (D := (dC, dI)) (ci := 12) (fs := oF_X9 ad pr v) (v := .ref (ad 301)) (C := RX9) (T := TX9) (N := 10) hx hb ht itX9 hown hK hP 0 rfl rfl 1 (by decide) (ht _ tw_412) (fun _ h9 => h9) rfl dX9_kind_19 ?_
      refine lv_aload_n hx hb dX9_kind_22 rfl (lv_at hl 0 rfl) ?_
      refine va_get (D := (dC, dI)) (ci := 12) (fs := oF_X9 ad pr v) (v := .int (v.1 0 305)) (C := RX9) (T := TX9) (N := 10) hx hb ht itX9 hown hK hP 0 rfl rfl 5 (by decide) (ht _ tw_444) (fun _ h9 => h9) rfl dX9_kind_23 ?_
      refine va_iald (D := (dC, dI)) (f := (v.1 301)) hx hb hK hP 10 0 rfl rfl (in_y (a := (v.1 0 305).toInt) (b := 1503) rfl (om_0ea0e431d3 z305) (om_62a27e6381 z305) rfl) dX9_kind_26 ?_
      refine lv_goto (tgt := 31) hx hb dX9_kind_27 (by decide) ?_
      exact W.iret (v := ((v.1 301) (v.1 0 305).toNatClampNeg)) hx hb hr (fun t ht9 hW => ⟨⟨((v.1 301) (v.1 0 305).toNatClampNeg), v, rfl, ⟨rfl, ⟨z304, z305, z3, (Or.inr (⟨z6, rfl⟩))⟩⟩, by rw [ht9]; exact hP, hD⟩, hS.F ht9⟩) hS.2.2 dX9_kind_31
theorem om_28fa29c528 {x0 : Int} (h0 : 0 ≤ x0 ∧ x0 ≤ 1500) (h1 : ((x0) + (1 : Int)) < (0 : Int)) : False := by omega
theorem om_1bd31077a2 {x0 : Int} (h0 : 0 ≤ x0 ∧ x0 ≤ 1500) : 0 ≤ ((x0) + (1 : Int)) := by omega
theorem om_55f5fd53d5 {x0 : Int} (h0 : 0 ≤ x0 ∧ x0 ≤ 1500) : ((x0) + (1 : Int)) < 1503 := by omega
set_option maxHeartbeats 4000000 in
set_option maxRecDepth 100000 in
theorem c_x_X9_kindBehind (l : Launch) (dC : Nat → ClassId) (dI : Nat → Nat → Nat) (cI cB cZ cJ cR : ClassId) (tb : Nat → Nat) (sz : Nat) (ad : Nat → Nat) (pr : Int32 → Nat) (N : Nat) (L1 L2 : List Nat) (v : MS)  (z304 : 0 ≤ (v.1 0 304).toInt ∧ (v.1 0 304).toInt ≤ 1503) (z305 : 0 ≤ (v.1 0 305).toInt ∧ (v.1 0 305).toInt ≤ 1500) : Met l yX9_kindBehind (Cond.code yX9_kindBehind cX9_kindBehind 1 (some .int) :: tw_W) ({ frames := 0, cells := 0, slots := 0, locals := 0 }) (pc_ (dC, dI) (tyS cI cB cZ cJ cR) tb (cW ad pr N cI cR L1 L2 v) sz [.ref (ad 900)]) (qi_ (dC, dI) (cW ad pr N cI cR L1 L2 v) sz (fun (r : Int32) (u : MS) => v = u ∧ (Q_x_X9_kindBehind L1 L2 v r)) (fun (u : MS) => (cW ad pr N cI cR L1 L2 u))) 0 0 (va_A (cW ad pr N cI cR L1 L2 v) sz) := by
  refine Met.ofW (cc := cX9_kindBehind) (maxL := 1) (ret := (some .int)) (by decide) rfl ?_
  intro p e s m args below meth c s₁ B hml hv
  obtain ⟨rfl, hsz, hP, hKK, hD0, hFx⟩ := hv
  have hK := hKK.1
  have hx := B.exec
  have hb := B.bytes
  have hr := B.returns
  have ht : ∀ w ∈ tw_W, w.before _ s = true := fun w h => atoms_spec (ws := Cond.code yX9_kindBehind cX9_kindBehind 1 (some .int) :: tw_W) B.pre w (List.mem_cons_of_mem _ h)
  have hown : s.vm.findClass RX9 = some m.cls := findClass_of_methodNamed B.named
  have hlocks := B.notSynchronized
  subst hsz
  unfold qi_
  have hD := hD0.self (sz := s.heap.size)
  generalize hAe : va_A (cW ad pr N cI cR L1 L2 v) s.heap.size = A at hD hFx ⊢
  have hA : ∀ q : Nat, s.heap.size ≤ q → A q := fun q h => by rw [← hAe]; exact Or.inr h
  have hS : va_S A s.heap s.heap [] := va_S.rf
  have hl := lv_entry ([.ref (ad 900)]) (n := 1) (Nat.le_of_ble_eq_true rfl)
  rw [lg_entry_eq]
  generalize (lg_sl ([.ref (ad 900)]) ++ List.replicate (1 - (lg_sl ([.ref (ad 900)])).length) Slot.unset).toArray = ls at hl ⊢
  have hl : lv_has ls 1 [(0, .ref (ad 900))] := hl
  refine lv_aload_n hx hb dX9_kindBehind_0 rfl (lv_at hl 0 rfl) ?_
  refine va_get (D := (dC, dI)) (ci := 12) (fs := oF_X9 ad pr v) (v := .int (v.1 0 305)) (C := RX9) (T := TX9) (N := 10) hx hb ht itX9 hown hK hP 0 rfl rfl 5 (by decide) (ht _ tw_444) (fun _ h9 => h9) rfl dX9_kindBehind_1 ?_
  refine lv_iconst (v := 1) hx hb dX9_kindBehind_4 (by decide) ?_
  refine lv_iadd hx hb dX9_kindBehind_5 ?_
  have z1 : ((v.1 0 305) + (1 : Int32)).toInt = ((v.1 0 305).toInt) + (1 : Int) := add_z rfl (show (1 : Int32).toInt = (1 : Int) by decide) (om_ecb8303fc5 z305) (om_27eb55d06c z305)
  refine lv_if_lt (tgt := 36) hx hb dX9_kindBehind_6 (by decide) (fun h2 => ?_) (fun h2 => ?_)
  · have z3 : (((v.1 0 305).toInt) + (1 : Int)) < (0 : Int) := lt_z z1 (show (0 : Int32).toInt = (0 : Int) by decide) h2
    exact False.elim (om_28fa29c528 z305 z3)
  · have z4 : (0 : Int) ≤ (((v.1 0 305).toInt) + (1 : Int)) := nlt_z z1 (show (0 : Int32).toInt = (0 : Int) by decide) h2
    refine lv_aload_n hx hb dX9_kindBehind_9 rfl (lv_at hl 0 rfl) ?_
    refine va_get (D := (dC, dI)) (ci := 12) (fs := oF_X9 ad pr v) (v := .int (v.1 0 305)) (C := RX9) (T := TX9) (N := 10) hx hb ht itX9 hown hK hP 0 rfl rfl 5 (by decide) (ht _ tw_444) (fun _ h9 => h9) rfl dX9_kindBehind_10 ?_
    refine lv_iconst (v := 1) hx hb dX9_kindBehind_13 (by decide) ?_
    refine lv_iadd hx hb dX9_kindBehind_14 ?_
    have z5 : ((v.1 0 305) + (1 : Int32)).toInt = ((v.1 0 305).toInt) + (1 : Int) := add_z rfl (show (1 : Int32).toInt = (1 : Int) by decide) (om_ecb8303fc5 z305) (om_27eb55d06c z305)
    refine lv_aload_n hx hb dX9_kindBehind_15 rfl (lv_at hl 0 rfl) ?_
    refine va_get (D := (dC, dI)) (ci := 12) (fs := oF_X9 ad pr v) (v := .int (v.1 0 304)) (C := RX9) (T := TX9) (N := 10) hx hb ht itX9 hown hK hP 0 rfl rfl 4 (by decide) (ht _ tw_411) (fun _ h9 => h9) rfl dX9_kindBehind_16 ?_
    refine lv_icmp_ge (tgt := 36) hx hb dX9_kindBehind_19 (by decide) (fun h6 => ?_) (fun h6 => ?_)
    · have z7 : (v.1 0 304).toInt ≤ (((v.1 0 305).toInt) + (1 : Int)) := le_z rfl z5 h6
      refine lv_iconst (v := 0) hx hb dX9_kindBehind_36 (by decide) ?_
      exact W.iret (v := 0) hx hb hr (fun t ht9 hW => ⟨⟨0, v, rfl, ⟨rfl, ⟨z304, z305, z4, (Or.inl ⟨z7, rfl⟩)⟩⟩, by rw [ht9]; exact hP, hD⟩, hS.F ht9⟩) hS.2.2 dX9_kindBehind_37
    · have z8 : (((v.1 0 305).toInt) + (1 : Int)) < (v.1 0 304).toInt := nle_z rfl z5 h6
      refine lv_aload_n hx hb dX9_kindBehind_22 rfl (lv_at hl 0 rfl) ?_
      refine va_get (D := (dC, dI)) (ci := 12) (fs := oF_X9 ad pr v) (v := .ref (ad 301)) (C := RX9) (T := TX9) (N := 10) hx hb ht itX9 hown hK hP 0 rfl rfl 1 (by decide) (ht _ tw_412) (fun _ h9 => h9) rfl dX9_kindBehind_23 ?_
      refine lv_aload_n hx hb dX9_kindBehind_26 rfl (lv_at hl 0 rfl) ?_
      refine va_get (D := (dC, dI)) (ci := 12) (fs := oF_X9 ad pr v) (v := .int (v.1 0 305)) (C := RX9) (T := TX9) (N := 10) hx hb ht itX9 hown hK hP 0 rfl rfl 5 (by decide) (ht _ tw_444) (fun _ h9 => h9) rfl dX9_kindBehind_27 ?_
      refine lv_iconst (v := 1) hx hb dX9_kindBehind_30 (by decide) ?_
      refine lv_iadd hx hb dX9_kindBehind_31 ?_
      have z9 : ((v.1 0 305) + (1 : Int32)).toInt = ((v.1 0 305).toInt) + (1 : Int) := add_z rfl (show (1 : Int32).toInt = (1 : Int) by decide) (om_ecb8303fc5 z305) (om_27eb55d06c z305)
      refine va_iald (D := (dC, dI)) (f := (v.1 301)) hx hb hK hP 10 0 rfl rfl (in_y (a := (((v.1 0 305).toInt) + (1 : Int))) (b := 1503) z9 (om_1bd31077a2 z305) (om_55f5fd53d5 z305) rfl) dX9_kindBehind_32 ?_
      refine lv_goto (tgt := 37) hx hb dX9_kindBehind_33 (by decide) ?_
      exact W.iret (v := ((v.1 301) ((v.1 0 305) + (1 : Int32)).toNatClampNeg)) hx hb hr (fun t ht9 hW => ⟨⟨((v.1 301) ((v.1 0 305) + (1 : Int32)).toNatClampNeg), v, rfl, ⟨rfl, ⟨z304, z305, z4, (Or.inr (⟨z8, rfl⟩))⟩⟩, by rw [ht9]; exact hP, hD⟩, hS.F ht9⟩) hS.2.2 dX9_kindBehind_37
set_option maxHeartbeats 4000000 in
set_option maxRecDepth 100000 in
theorem c_x_X9_value (l : Launch) (dC : Nat → ClassId) (dI : Nat → Nat → Nat) (cI cB cZ cJ cR : ClassId) (tb : Nat → Nat) (sz : Nat) (ad : Nat → Nat) (pr : Int32 → Nat) (N : Nat) (L1 L2 : List Nat) (v : MS)  (z304 : 0 ≤ (v.1 0 304).toInt ∧ (v.1 0 304).toInt ≤ 1503) (z305 : 0 ≤ (v.1 0 305).toInt ∧ (v.1 0 305).toInt ≤ 1500) : Met l yX9_value (Cond.code yX9_value cX9_value 1 (some .int) :: tw_W) ({ frames := 0, cells := 0, slots := 0, locals := 0 }) (pc_ (dC, dI) (tyS cI cB cZ cJ cR) tb (cW ad pr N cI cR L1 L2 v) sz [.ref (ad 900)]) (qi_ (dC, dI) (cW ad pr N cI cR L1 L2 v) sz (fun (r : Int32) (u : MS) => v = u ∧ (Q_x_X9_value L1 L2 v r)) (fun (u : MS) => (cW ad pr N cI cR L1 L2 u))) 0 0 (va_A (cW ad pr N cI cR L1 L2 v) sz) := by
  refine Met.ofW (cc := cX9_value) (maxL := 1) (ret := (some .int)) (by decide) rfl ?_
  intro p e s m args below meth c s₁ B hml hv
  obtain ⟨rfl, hsz, hP, hKK, hD0, hFx⟩ := hv
  have hK := hKK.1
  have hx := B.exec
  have hb := B.bytes
  have hr := B.returns
  have ht : ∀ w ∈ tw_W, w.before _ s = true := fun w h => atoms_spec (ws := Cond.code yX9_value cX9_value 1 (some .int) :: tw_W) B.pre w (List.mem_cons_of_mem _ h)
  have hown : s.vm.findClass RX9 = some m.cls := findClass_of_methodNamed B.named
  have hlocks := B.notSynchronized
  subst hsz
  unfold qi_
  have hD := hD0.self (sz := s.heap.size)
  generalize hAe : va_A (cW ad pr N cI cR L1 L2 v) s.heap.size = A at hD hFx ⊢
  have hA : ∀ q : Nat, s.heap.size ≤ q → A q := fun q h => by rw [← hAe]; exact Or.inr h
  have hS : va_S A s.heap s.heap [] := va_S.rf
  have hl := lv_entry ([.ref (ad 900)]) (n := 1) (Nat.le_of_ble_eq_true rfl)
  rw [lg_entry_eq]
  generalize (lg_sl ([.ref (ad 900)]) ++ List.replicate (1 - (lg_sl ([.ref (ad 900)])).length) Slot.unset).toArray = ls at hl ⊢
  have hl : lv_has ls 1 [(0, .ref (ad 900))] := hl
  refine lv_aload_n hx hb dX9_value_0 rfl (lv_at hl 0 rfl) ?_
  refine va_get (D := (dC, dI)) (ci := 12) (fs := oF_X9 ad pr v) (v := .int (v.1 0 305)) (C := RX9) (T := TX9) (N := 10) hx hb ht itX9 hown hK hP 0 rfl rfl 5 (by decide) (ht _ tw_444) (fun _ h9 => h9) rfl dX9_value_1 ?_
  refine lv_if_lt (tgt := 30) hx hb dX9_value_4 (by decide) (fun h1 => ?_) (fun h1 => ?_)
  · have z2 : (v.1 0 305).toInt < (0 : Int) := lt_z rfl (show (0 : Int32).toInt = (0 : Int) by decide) h1
    exact False.elim (om_0c7119ae80 z305 z2)
  · have z3 : (0 : Int) ≤ (v.1 0 305).toInt := nlt_z rfl (show (0 : Int32).toInt = (0 : Int) by decide) h1
    refine lv_aload_n hx hb dX9_value_7 rfl (lv_at hl 0 rfl) ?_
    refine va_get (D := (dC, dI)) (ci := 12) (fs := oF_X9 ad pr v) (v := .int (v.1 0 305)) (C := RX9) (T := TX9) (N := 10) hx hb ht itX9 hown hK hP 0 rfl rfl 5 (by decide) (ht _ tw_444) (fun _ h9 => h9) rfl dX9_value_8 ?_
    refine lv_aload_n hx hb dX9_value_11 rfl (lv_at hl 0 rfl) ?_
    refine va_get (D := (dC, dI)) (ci := 12) (fs := oF_X9 ad pr v) (v := .int (v.1 0 304)) (C := RX9) (T := TX9) (N := 10) hx hb ht itX9 hown hK hP 0 rfl rfl 4 (by decide) (ht _ tw_411) (fun _ h9 => h9) rfl dX9_value_12 ?_
    refine lv_icmp_ge (tgt := 30) hx hb dX9_value_15 (by decide) (fun h4 => ?_) (fun h4 => ?_)
    · have z5 : (v.1 0 304).toInt ≤ (v.1 0 305).toInt := le_z rfl rfl h4
      refine lv_iconst (v := 0) hx hb dX9_value_30 (by decide) ?_
      exact W.iret (v := 0) hx hb hr (fun t ht9 hW => ⟨⟨0, v, rfl, ⟨rfl, ⟨z304, z305, z3, (Or.inl ⟨z5, rfl⟩)⟩⟩, by rw [ht9]; exact hP, hD⟩, hS.F ht9⟩) hS.2.2 dX9_value_31
    · have z6 : (v.1 0 305).toInt < (v.1 0 304).toInt := nle_z rfl rfl h4
      refine lv_aload_n hx hb dX9_value_18 rfl (lv_at hl 0 rfl) ?_
      refine va_get (D := (dC, dI)) (ci := 12) (fs := oF_X9 ad pr v) (v := .ref (ad 303)) (C := RX9) (T := TX9) (N := 10) hx hb ht itX9 hown hK hP 0 rfl rfl 3 (by decide) (ht _ tw_414) (fun _ h9 => h9) rfl dX9_value_19 ?_
      refine lv_aload_n hx hb dX9_value_22 rfl (lv_at hl 0 rfl) ?_
      refine va_get (D := (dC, dI)) (ci := 12) (fs := oF_X9 ad pr v) (v := .int (v.1 0 305)) (C := RX9) (T := TX9) (N := 10) hx hb ht itX9 hown hK hP 0 rfl rfl 5 (by decide) (ht _ tw_444) (fun _ h9 => h9) rfl dX9_value_23 ?_
      refine va_iald (D := (dC, dI)) (f := (v.1 303)) hx hb hK hP 12 0 rfl rfl (in_y (a := (v.1 0 305).toInt) (b := 1503) rfl (om_0ea0e431d3 z305) (om_62a27e6381 z305) rfl) dX9_value_26 ?_
      refine lv_goto (tgt := 31) hx hb dX9_value_27 (by decide) ?_
      exact W.iret (v := ((v.1 303) (v.1 0 305).toNatClampNeg)) hx hb hr (fun t ht9 hW => ⟨⟨((v.1 303) (v.1 0 305).toNatClampNeg), v, rfl, ⟨rfl, ⟨z304, z305, z3, (Or.inr (⟨z6, rfl⟩))⟩⟩, by rw [ht9]; exact hP, hD⟩, hS.F ht9⟩) hS.2.2 dX9_value_31
set_option maxHeartbeats 4000000 in
set_option maxRecDepth 100000 in
theorem c_x_X9_place (l : Launch) (dC : Nat → ClassId) (dI : Nat → Nat → Nat) (cI cB cZ cJ cR : ClassId) (tb : Nat → Nat) (sz : Nat) (ad : Nat → Nat) (pr : Int32 → Nat) (N : Nat) (L1 L2 : List Nat) (v : MS) (ps : Int32) (z304 : 0 ≤ (v.1 0 304).toInt ∧ (v.1 0 304).toInt ≤ 1503) (z305 : 0 ≤ (v.1 0 305).toInt ∧ (v.1 0 305).toInt ≤ 1500) (z373 : 0 ≤ (v.1 0 373).toInt ∧ (v.1 0 373).toInt ≤ 4000) (hps : pr ps = ad 908) (es300 : (v.1 0 300) = ps) : Met l yX9_place (Cond.code yX9_place cX9_place 1 (some .int) :: tw_W) ({ frames := 0, cells := 0, slots := 0, locals := 0 }) (pc_ (dC, dI) (tyS cI cB cZ cJ cR) tb (cW ad pr N cI cR L1 L2 v) sz [.ref (ad 900)]) (qi_ (dC, dI) (cW ad pr N cI cR L1 L2 v) sz (fun (r : Int32) (u : MS) => v = u ∧ (Q_x_X9_place L1 L2 v r)) (fun (u : MS) => (cW ad pr N cI cR L1 L2 u))) 0 0 (va_A (cW ad pr N cI cR L1 L2 v) sz) := by
  refine Met.ofW (cc := cX9_place) (maxL := 1) (ret := (some .int)) (by decide) rfl ?_
  intro p e s m args below meth c s₁ B hml hv
  obtain ⟨rfl, hsz, hP, hKK, hD0, hFx⟩ := hv
  have hK := hKK.1
  have hx := B.exec
  have hb := B.bytes
  have hr := B.returns
  have ht : ∀ w ∈ tw_W, w.before _ s = true := fun w h => atoms_spec (ws := Cond.code yX9_place cX9_place 1 (some .int) :: tw_W) B.pre w (List.mem_cons_of_mem _ h)
  have hown : s.vm.findClass RX9 = some m.cls := findClass_of_methodNamed B.named
  have hlocks := B.notSynchronized
  subst hsz
  unfold qi_
  have hD := hD0.self (sz := s.heap.size)
  generalize hAe : va_A (cW ad pr N cI cR L1 L2 v) s.heap.size = A at hD hFx ⊢
  have hA : ∀ q : Nat, s.heap.size ≤ q → A q := fun q h => by rw [← hAe]; exact Or.inr h
  have hS : va_S A s.heap s.heap [] := va_S.rf
  have hl := lv_entry ([.ref (ad 900)]) (n := 1) (Nat.le_of_ble_eq_true rfl)
  rw [lg_entry_eq]
  generalize (lg_sl ([.ref (ad 900)]) ++ List.replicate (1 - (lg_sl ([.ref (ad 900)])).length) Slot.unset).toArray = ls at hl ⊢
  have hl : lv_has ls 1 [(0, .ref (ad 900))] := hl
  refine lv_aload_n hx hb dX9_place_0 rfl (lv_at hl 0 rfl) ?_
  refine va_get (D := (dC, dI)) (ci := 12) (fs := oF_X9 ad pr v) (v := .int (v.1 0 305)) (C := RX9) (T := TX9) (N := 10) hx hb ht itX9 hown hK hP 0 rfl rfl 5 (by decide) (ht _ tw_444) (fun _ h9 => h9) rfl dX9_place_1 ?_
  refine lv_if_lt (tgt := 30) hx hb dX9_place_4 (by decide) (fun h1 => ?_) (fun h1 => ?_)
  · have z2 : (v.1 0 305).toInt < (0 : Int) := lt_z rfl (show (0 : Int32).toInt = (0 : Int) by decide) h1
    exact False.elim (om_0c7119ae80 z305 z2)
  · have z3 : (0 : Int) ≤ (v.1 0 305).toInt := nlt_z rfl (show (0 : Int32).toInt = (0 : Int) by decide) h1
    refine lv_aload_n hx hb dX9_place_7 rfl (lv_at hl 0 rfl) ?_
    refine va_get (D := (dC, dI)) (ci := 12) (fs := oF_X9 ad pr v) (v := .int (v.1 0 305)) (C := RX9) (T := TX9) (N := 10) hx hb ht itX9 hown hK hP 0 rfl rfl 5 (by decide) (ht _ tw_444) (fun _ h9 => h9) rfl dX9_place_8 ?_
    refine lv_aload_n hx hb dX9_place_11 rfl (lv_at hl 0 rfl) ?_
    refine va_get (D := (dC, dI)) (ci := 12) (fs := oF_X9 ad pr v) (v := .int (v.1 0 304)) (C := RX9) (T := TX9) (N := 10) hx hb ht itX9 hown hK hP 0 rfl rfl 4 (by decide) (ht _ tw_411) (fun _ h9 => h9) rfl dX9_place_12 ?_
    refine lv_icmp_ge (tgt := 30) hx hb dX9_place_15 (by decide) (fun h4 => ?_) (fun h4 => ?_)
    · have z5 : (v.1 0 304).toInt ≤ (v.1 0 305).toInt := le_z rfl rfl h4
      refine lv_aload_n hx hb dX9_place_30 rfl (lv_at hl 0 rfl) ?_
      refine va_get (D := (dC, dI)) (ci := 12) (fs := oF_X9 ad pr v) (v := .ref (pr (v.1 0 300))) (C := RX9) (T := TX9) (N := 10) hx hb ht itX9 hown hK hP 0 rfl rfl 0 (by decide) (ht _ tw_415) (fun _ h9 => h9) rfl dX9_place_31 ?_
      refine W.eq (g2 := F0 m 34 ls [.ref (ad 908)]) (by rw [show pr (v.1 0 300) = (ad 908) from (by rw [show (v.1 0 300) = ps from es300]; exact hps)]) ?_
      refine va_get (D := (dC, dI)) (ci := 10) (fs := oF_X7 ad pr v) (v := .int (v.1 0 373)) (C := RX7) (T := TX7) (N := 13) hx hb ht itX7 hown hK hP 8 rfl rfl 1 (by decide) (ht _ tw_416) (fun _ h9 => h9) rfl dX9_place_34 ?_
      exact W.iret (v := (v.1 0 373)) hx hb hr (fun t ht9 hW => ⟨⟨(v.1 0 373), v, rfl, ⟨rfl, ⟨z304, z305, z373, z3, (Or.inl ⟨z5, rfl⟩)⟩⟩, by rw [ht9]; exact hP, hD⟩, hS.F ht9⟩) hS.2.2 dX9_place_37
    · have z6 : (v.1 0 305).toInt < (v.1 0 304).toInt := nle_z rfl rfl h4
      refine lv_aload_n hx hb dX9_place_18 rfl (lv_at hl 0 rfl) ?_
      refine va_get (D := (dC, dI)) (ci := 12) (fs := oF_X9 ad pr v) (v := .ref (ad 302)) (C := RX9) (T := TX9) (N := 10) hx hb ht itX9 hown hK hP 0 rfl rfl 2 (by decide) (ht _ tw_413) (fun _ h9 => h9) rfl dX9_place_19 ?_
      refine lv_aload_n hx hb dX9_place_22 rfl (lv_at hl 0 rfl) ?_
      refine va_get (D := (dC, dI)) (ci := 12) (fs := oF_X9 ad pr v) (v := .int (v.1 0 305)) (C := RX9) (T := TX9) (N := 10) hx hb ht itX9 hown hK hP 0 rfl rfl 5 (by decide) (ht _ tw_444) (fun _ h9 => h9) rfl dX9_place_23 ?_
      refine va_iald (D := (dC, dI)) (f := (v.1 302)) hx hb hK hP 11 0 rfl rfl (in_y (a := (v.1 0 305).toInt) (b := 1503) rfl (om_0ea0e431d3 z305) (om_62a27e6381 z305) rfl) dX9_place_26 ?_
      refine lv_goto (tgt := 37) hx hb dX9_place_27 (by decide) ?_
      exact W.iret (v := ((v.1 302) (v.1 0 305).toNatClampNeg)) hx hb hr (fun t ht9 hW => ⟨⟨((v.1 302) (v.1 0 305).toNatClampNeg), v, rfl, ⟨rfl, ⟨z304, z305, z373, z3, (Or.inr (⟨z6, rfl⟩))⟩⟩, by rw [ht9]; exact hP, hD⟩, hS.F ht9⟩) hS.2.2 dX9_place_37
theorem om_c052cde6d1 {x0 : Int} : (1 : Int) = 1 ∨ x0 < 1500 := by omega
theorem om_d13dff2398 {x0 : Int} (h0 : x0 < (1500 : Int)) : (0 : Int) = 1 ∨ x0 < 1500 := by omega
theorem om_4e23a2d609 {x0 : Int} (h0 : x0 < (1500 : Int)) : (1 : Int) = 1 ∨ x0 < 1500 := by omega
set_option maxHeartbeats 4000000 in
set_option maxRecDepth 100000 in
theorem c_x_X9_isTooMuch (l : Launch) (dC : Nat → ClassId) (dI : Nat → Nat → Nat) (cI cB cZ cJ cR : ClassId) (tb : Nat → Nat) (sz : Nat) (ad : Nat → Nat) (pr : Int32 → Nat) (N : Nat) (L1 L2 : List Nat) (v : MS)  (z305 : 0 ≤ (v.1 0 305).toInt ∧ (v.1 0 305).toInt ≤ 1500) : Met l yX9_isTooMuch (Cond.code yX9_isTooMuch cX9_isTooMuch 1 (some .boolean) :: tw_W) ({ frames := 0, cells := 0, slots := 0, locals := 0 }) (pc_ (dC, dI) (tyS cI cB cZ cJ cR) tb (cW ad pr N cI cR L1 L2 v) sz [.ref (ad 900)]) (qi_ (dC, dI) (cW ad pr N cI cR L1 L2 v) sz (fun (r : Int32) (u : MS) => v = u ∧ (Q_x_X9_isTooMuch L1 L2 v r) ∧ (r = 0 ∨ r = 1) ∧ (0 ≤ r.toInt ∧ r.toInt ≤ 1) ∧ (r.toInt = 1 ∨ (v.1 0 305).toInt < 1500)) (fun (u : MS) => (cW ad pr N cI cR L1 L2 u))) 0 0 (va_A (cW ad pr N cI cR L1 L2 v) sz) := by
  refine Met.ofW (cc := cX9_isTooMuch) (maxL := 1) (ret := (some .boolean)) (by decide) rfl ?_
  intro p e s m args below meth c s₁ B hml hv
  obtain ⟨rfl, hsz, hP, hKK, hD0, hFx⟩ := hv
  have hK := hKK.1
  have hx := B.exec
  have hb := B.bytes
  have hr := B.returns
  have ht : ∀ w ∈ tw_W, w.before _ s = true := fun w h => atoms_spec (ws := Cond.code yX9_isTooMuch cX9_isTooMuch 1 (some .boolean) :: tw_W) B.pre w (List.mem_cons_of_mem _ h)
  have hown : s.vm.findClass RX9 = some m.cls := findClass_of_methodNamed B.named
  have hlocks := B.notSynchronized
  subst hsz
  unfold qi_
  have hD := hD0.self (sz := s.heap.size)
  generalize hAe : va_A (cW ad pr N cI cR L1 L2 v) s.heap.size = A at hD hFx ⊢
  have hA : ∀ q : Nat, s.heap.size ≤ q → A q := fun q h => by rw [← hAe]; exact Or.inr h
  have hS : va_S A s.heap s.heap [] := va_S.rf
  have hl := lv_entry ([.ref (ad 900)]) (n := 1) (Nat.le_of_ble_eq_true rfl)
  rw [lg_entry_eq]
  generalize (lg_sl ([.ref (ad 900)]) ++ List.replicate (1 - (lg_sl ([.ref (ad 900)])).length) Slot.unset).toArray = ls at hl ⊢
  have hl : lv_has ls 1 [(0, .ref (ad 900))] := hl
  refine lv_aload_n hx hb dX9_isTooMuch_0 rfl (lv_at hl 0 rfl) ?_
  refine va_get (D := (dC, dI)) (ci := 12) (fs := oF_X9 ad pr v) (v := .int (v.1 0 305)) (C := RX9) (T := TX9) (N := 10) hx hb ht itX9 hown hK hP 0 rfl rfl 5 (by decide) (ht _ tw_444) (fun _ h9 => h9) rfl dX9_isTooMuch_1 ?_
  refine lv_sipush (v := 1500) hx hb dX9_isTooMuch_4 (by decide) ?_
  refine lv_icmp_ge (tgt := 21) hx hb dX9_isTooMuch_7 (by decide) (fun h1 => ?_) (fun h1 => ?_)
  · have z2 : (1500 : Int) ≤ (v.1 0 305).toInt := le_z (show (1500 : Int32).toInt = (1500 : Int) by decide) rfl h1
    refine lv_iconst (v := 1) hx hb dX9_isTooMuch_21 (by decide) ?_
    refine lv_goto (tgt := 26) hx hb dX9_isTooMuch_22 (by decide) ?_
    exact W.zret (v := 1) hx hb hr rfl (fun t ht9 hW => ⟨⟨1, v, rfl, ⟨rfl, ⟨z305, (Or.inl ⟨z2, rfl⟩)⟩, ⟨Or.inr rfl, (by decide), om_c052cde6d1⟩⟩, by rw [ht9]; exact hP, hD⟩, hS.F ht9⟩) hS.2.2 dX9_isTooMuch_26
  · have z3 : (v.1 0 305).toInt < (1500 : Int) := nle_z (show (1500 : Int32).toInt = (1500 : Int) by decide) rfl h1
    refine lv_aload_n hx hb dX9_isTooMuch_10 rfl (lv_at hl 0 rfl) ?_
    refine va_get (D := (dC, dI)) (ci := 12) (fs := oF_X9 ad pr v) (v := .int (v.1 0 305)) (C := RX9) (T := TX9) (N := 10) hx hb ht itX9 hown hK hP 0 rfl rfl 5 (by decide) (ht _ tw_444) (fun _ h9 => h9) rfl dX9_isTooMuch_11 ?_
    refine lv_aload_n hx hb dX9_isTooMuch_14 rfl (lv_at hl 0 rfl) ?_
    refine va_get (D := (dC, dI)) (ci := 12) (fs := oF_X9 ad pr v) (v := .int (v.1 0 307)) (C := RX9) (T := TX9) (N := 10) hx hb ht itX9 hown hK hP 0 rfl rfl 7 (by decide) (ht _ tw_446) (fun _ h9 => h9) rfl dX9_isTooMuch_15 ?_
    refine lv_icmp_ne (tgt := 25) hx hb dX9_isTooMuch_18 (by decide) (fun h4 => ?_) (fun h4 => ?_)
    · have z5 : (v.1 0 305).toInt ≠ (v.1 0 307).toInt := ne_z rfl rfl h4
      refine lv_iconst (v := 0) hx hb dX9_isTooMuch_25 (by decide) ?_
      exact W.zret (v := 0) hx hb hr rfl (fun t ht9 hW => ⟨⟨0, v, rfl, ⟨rfl, ⟨z305, (Or.inr (⟨z3, (Or.inl ⟨z5, rfl⟩)⟩))⟩, ⟨Or.inl rfl, (by decide), (om_d13dff2398 z3)⟩⟩, by rw [ht9]; exact hP, hD⟩, hS.F ht9⟩) hS.2.2 dX9_isTooMuch_26
    · have z6 : (v.1 0 305).toInt = (v.1 0 307).toInt := eq_z rfl rfl h4
      refine lv_iconst (v := 1) hx hb dX9_isTooMuch_21 (by decide) ?_
      refine lv_goto (tgt := 26) hx hb dX9_isTooMuch_22 (by decide) ?_
      exact W.zret (v := 1) hx hb hr rfl (fun t ht9 hW => ⟨⟨1, v, rfl, ⟨rfl, ⟨z305, (Or.inr (⟨z3, (Or.inr (⟨z6, rfl⟩))⟩))⟩, ⟨Or.inr rfl, (by decide), (om_4e23a2d609 z3)⟩⟩, by rw [ht9]; exact hP, hD⟩, hS.F ht9⟩) hS.2.2 dX9_isTooMuch_26
theorem om_e676661a9a {x0 : Int} (h0 : x0 ≠ 0) : x0 ≠ 0 := by omega
set_option maxHeartbeats 4000000 in
set_option maxRecDepth 100000 in
theorem c_x_X9_refuse (l : Launch) (dC : Nat → ClassId) (dI : Nat → Nat → Nat) (cI cB cZ cJ cR : ClassId) (tb : Nat → Nat) (sz : Nat) (ad : Nat → Nat) (pr : Int32 → Nat) (N : Nat) (L1 L2 : List Nat) (v : MS) (pa : Int32) (pb : Int32) (hst : l.stackTraces = false) (zk : pa.toInt ≠ 0) : vx_Met l yX9_refuse (Cond.code yX9_refuse cX9_refuse 3 none :: tw_W) ({ frames := 6, cells := 1, slots := 6, locals := 82 }) (pc_ (dC, dI) (tyS cI cB cZ cJ cR) tb (cW ad pr N cI cR L1 L2 v) sz [.ref (ad 900), .int pa, .int pb]) (qvz_ (dC, dI) (cW ad pr N cI cR L1 L2 v) sz (fun (u : MS) => FC [] [] v u ∧ (Q_x_X9_refuse L1 L2 v pa pb false u) ∧ (False) ∧ (RS v u)) (fun (u : MS) => (cW ad pr N cI cR L1 L2 u))) (qxc (dC, dI) (cW ad pr N cI cR L1 L2 v) sz (fun (u : MS) => (cW ad pr N cI cR L1 L2 u)) (fun (u : MS) => FC xfl xal v u ∧ (u.1 0 308).toInt ≠ 0 ∧ (Q_x_X9_refuse L1 L2 v pa pb true u))) 1 6 (va_A (cW ad pr N cI cR L1 L2 v) sz) := by
  refine vx_ofW (cc := cX9_refuse) (maxL := 3) (ret := none) (by decide) rfl ?_
  intro p e s m args below meth c s₁ B hml hnt hv
  obtain ⟨rfl, hsz, hP, hKK, hD0, hFx⟩ := hv
  have hK := hKK.1
  have hx := B.exec
  have hb := B.bytes
  have hr := B.returns
  have ht : ∀ w ∈ tw_W, w.before _ s = true := fun w h => atoms_spec (ws := Cond.code yX9_refuse cX9_refuse 3 none :: tw_W) B.pre w (List.mem_cons_of_mem _ h)
  have hown : s.vm.findClass RX9 = some m.cls := findClass_of_methodNamed B.named
  have hlocks := B.notSynchronized
  subst hsz
  unfold qvz_ qxc
  have hD := hD0.self (sz := s.heap.size)
  generalize hAe : va_A (cW ad pr N cI cR L1 L2 v) s.heap.size = A at hD hFx ⊢
  have hA : ∀ q : Nat, s.heap.size ≤ q → A q := fun q h => by rw [← hAe]; exact Or.inr h
  have hS : va_S A s.heap s.heap [] := va_S.rf
  have hl := lv_entry ([.ref (ad 900), .int pa, .int pb]) (n := 3) (Nat.le_of_ble_eq_true rfl)
  rw [lg_entry_eq]
  generalize (lg_sl ([.ref (ad 900), .int pa, .int pb]) ++ List.replicate (3 - (lg_sl ([.ref (ad 900), .int pa, .int pb])).length) Slot.unset).toArray = ls at hl ⊢
  have hl : lv_has ls 3 [(0, .ref (ad 900)), (1, .int pa), (2, .int pb)] := hl
  refine lv_aload_n hx hb dX9_refuse_0 rfl (lv_at hl 0 rfl) ?_
  refine lv_iload_n hx hb dX9_refuse_1 rfl (lv_at hl 1 rfl) ?_
  refine va_put (D := (dC, dI)) (ci := 12) (fs := oF_X9 ad pr v) (v := .int pa) (ty := .int) (C := RX9) (T := TX9) (N := 10) hx hb ht itX9 tyX9 tyX9_ok nmX9 hown hK hP hD hS 0 rfl rfl 8 (by decide) (ht _ tw_447) (fun _ h9 => h9) rfl (by decide +kernel) rfl rfl (Nat.le_of_ble_eq_true rfl) dX9_refuse_2 (fun H locs hP hD hS => ?_)
  have hP := cP_ (cw_308 ad pr N cI cR L1 L2 v pa) hP
  have hD := cD_ (cw_308 ad pr N cI cR L1 L2 v pa) hD
  refine lv_aload_n hx hb dX9_refuse_5 rfl (lv_at hl 0 rfl) ?_
  refine lv_iload_n hx hb dX9_refuse_6 rfl (lv_at hl 2 rfl) ?_
  refine va_put (D := (dC, dI)) (ci := 12) (fs := oF_X9 ad pr (wA v 0 308 pa)) (v := .int pb) (ty := .int) (C := RX9) (T := TX9) (N := 10) hx hb ht itX9 tyX9 tyX9_ok nmX9 hown hK hP hD hS 0 rfl rfl 9 (by decide) (ht _ tw_448) (fun _ h9 => h9) rfl (by decide +kernel) rfl rfl (Nat.le_of_ble_eq_true rfl) dX9_refuse_7 (fun H locs hP hD hS => ?_)
  have hP := cP_ (cw_309 ad pr N cI cR L1 L2 (wA v 0 308 pa) pb) hP
  have hD := cD_ (cw_309 ad pr N cI cR L1 L2 (wA v 0 308 pa) pb) hD
  obtain ⟨cE9, hcE9, -⟩ := Cond.initialized_iff.mp (ht _ tw_454)
  refine vx_throwS (names := ["java/lang/RuntimeException", "java/lang/Exception"]) (A := A) hx hb hst hown (by decide +kernel) (by decide +kernel) (ht _ tw_453) (ht _ tw_454) (st_ hKK 2 (own := RX9) (idx := 123) (tx := "a fault in the text") (n := 2) rfl) (vx_hat (fun w h => ht w (xat_9 w h)) xat_9n (vx_c (cast_self hcE9) (vx_c (dcl_0 ht) (vx_c (dcl_1 ht) (vx_c (dcl_2 ht) vx_n))))) xat_9o hFx.2.2.2.2.1 hFx.2.2.2.2.2.1 hS (by rw [hml]; exact hl.1) dX9_refuse_10 dX9_refuse_13 dX9_refuse_14 dX9_refuse_16 dX9_refuse_19 (fun x h9 => (hnt x h9).elim) (Nat.le_of_ble_eq_true rfl) (Nat.le_of_ble_eq_true rfl) (Nat.le_of_ble_eq_true rfl) (Nat.le_of_ble_eq_true rfl) hlocks (fun t9 hv9 hz9 hk9 => ⟨(wA (wA v 0 308 pa) 0 309 pb), ⟨(FC.f (FC.f (FC.rf _) pa (by decide)) pb (by decide)), (show pa.toInt ≠ 0 from (om_e676661a9a zk)), ⟨zk, rfl, rfl⟩⟩, ⟨rfl, hP.kept (fun k q hk => hk9 _ ((hP k q hk).lt)), hD⟩, ⟨Nat.le_trans hS.1 hz9, fun q h1 h2 => (hk9 q (Nat.lt_of_lt_of_le h1 hS.1)).trans (hS.2.1 q h1 h2)⟩⟩) hS.2.2 (Nat.le_of_ble_eq_true rfl) (Nat.le_of_ble_eq_true rfl)
theorem om_e8e86a3929 : (2 : Int) ≠ 0 := by omega
theorem om_3c82301f8e : (1 : Int) ≠ 0 := by omega
set_option maxHeartbeats 4000000 in
set_option maxRecDepth 100000 in
theorem c_x_X9_refuseMisfit (l : Launch) (dC : Nat → ClassId) (dI : Nat → Nat → Nat) (cI cB cZ cJ cR : ClassId) (tb : Nat → Nat) (sz : Nat) (ad : Nat → Nat) (pr : Int32 → Nat) (N : Nat) (L1 L2 : List Nat) (v : MS) (ps : Int32) (z304 : 0 ≤ (v.1 0 304).toInt ∧ (v.1 0 304).toInt ≤ 1503) (z305 : 0 ≤ (v.1 0 305).toInt ∧ (v.1 0 305).toInt ≤ 1500) (z373 : 0 ≤ (v.1 0 373).toInt ∧ (v.1 0 373).toInt ≤ 4000) (hps : pr ps = ad 908) (es300 : (v.1 0 300) = ps) (hst : l.stackTraces = false) : vx_Met l yX9_refuseMisfit (Cond.code yX9_refuseMisfit cX9_refuseMisfit 1 none :: tw_W) ({ frames := 7, cells := 1, slots := 6, locals := 104 }) (pc_ (dC, dI) (tyS cI cB cZ cJ cR) tb (cW ad pr N cI cR L1 L2 v) sz [.ref (ad 900)]) (qvz_ (dC, dI) (cW ad pr N cI cR L1 L2 v) sz (fun (u : MS) => FC [] [] v u ∧ (Q_x_X9_refuseMisfit L1 L2 v false u) ∧ (False) ∧ (RS v u)) (fun (u : MS) => (cW ad pr N cI cR L1 L2 u))) (qxc (dC, dI) (cW ad pr N cI cR L1 L2 v) sz (fun (u : MS) => (cW ad pr N cI cR L1 L2 u)) (fun (u : MS) => FC xfl xal v u ∧ (u.1 0 308).toInt ≠ 0 ∧ (Q_x_X9_refuseMisfit L1 L2 v true u))) 1 6 (va_A (cW ad pr N cI cR L1 L2 v) sz) := by
  refine vx_ofW (cc := cX9_refuseMisfit) (maxL := 1) (ret := none) (by decide) rfl ?_
  intro p e s m args below meth c s₁ B hml hnt hv
  obtain ⟨rfl, hsz, hP, hKK, hD0, hFx⟩ := hv
  have hK := hKK.1
  have hx := B.exec
  have hb := B.bytes
  have hr := B.returns
  have ht : ∀ w ∈ tw_W, w.before _ s = true := fun w h => atoms_spec (ws := Cond.code yX9_refuseMisfit cX9_refuseMisfit 1 none :: tw_W) B.pre w (List.mem_cons_of_mem _ h)
  have hown : s.vm.findClass RX9 = some m.cls := findClass_of_methodNamed B.named
  have hlocks := B.notSynchronized
  subst hsz
  unfold qvz_ qxc
  have hD := hD0.self (sz := s.heap.size)
  generalize hAe : va_A (cW ad pr N cI cR L1 L2 v) s.heap.size = A at hD hFx ⊢
  have hA : ∀ q : Nat, s.heap.size ≤ q → A q := fun q h => by rw [← hAe]; exact Or.inr h
  have hS : va_S A s.heap s.heap [] := va_S.rf
  have hl := lv_entry ([.ref (ad 900)]) (n := 1) (Nat.le_of_ble_eq_true rfl)
  rw [lg_entry_eq]
  generalize (lg_sl ([.ref (ad 900)]) ++ List.replicate (1 - (lg_sl ([.ref (ad 900)])).length) Slot.unset).toArray = ls at hl ⊢
  have hl : lv_has ls 1 [(0, .ref (ad 900))] := hl
  refine lv_aload_n hx hb dX9_refuseMisfit_0 rfl (lv_at hl 0 rfl) ?_
  refine lv_aload_n hx hb dX9_refuseMisfit_1 rfl (lv_at hl 0 rfl) ?_
  refine cu_i (rn_Vk (n := 0) (As := []) (rest := [.ref (ad 900)]) hx hb hml hown ht hKK hFx hP hD hS hA (c_x_X9_kind l dC dI cI cB cZ cJ cR tb s.heap.size ad pr N L1 L2 v  (show 0 ≤ (v.1 0 304).toInt ∧ (v.1 0 304).toInt ≤ 1503 from (om_c99648273b z304)) (show 0 ≤ (v.1 0 305).toInt ∧ (v.1 0 305).toInt ≤ 1500 from (om_7897b4ccef z305))) tw_455 tw_456 (by decide +kernel) rfl rfl ⟨Nat.le_of_ble_eq_true rfl, Nat.le_of_ble_eq_true rfl⟩ (List.range (cW ad pr N cI cR L1 L2 v).length) (rg_map _) (nd_range _) 0 rfl rfl rfl rfl hl.1 rfl (Nat.le_of_ble_eq_true rfl) dX9_refuseMisfit_2 ⟨Nat.le_of_ble_eq_true rfl, Nat.le_of_ble_eq_true rfl⟩) hP hD hS hA (fun r3 u2 H locs hw1 hP hD hS => ?_)
  obtain ⟨rfl, ex1⟩ := hw1
  refine W.widen (k := 0) (n := 0) (Nat.le_refl _) (Nat.le_refl _) ?_
  refine lv_iconst (v := 1) hx hb dX9_refuseMisfit_5 (by decide) ?_
  refine lv_icmp_ne (tgt := 13) hx hb dX9_refuseMisfit_6 (by decide) (fun h4 => ?_) (fun h4 => ?_)
  · have z5 : r3.toInt ≠ (1 : Int) := ne_z rfl (show (1 : Int32).toInt = (1 : Int) by decide) h4
    refine lv_iconst (v := 2) hx hb dX9_refuseMisfit_13 (by decide) ?_
    refine lv_aload_n hx hb dX9_refuseMisfit_14 rfl (lv_at hl 0 rfl) ?_
    refine cu_i (rn_Vk (n := 0) (As := []) (rest := [.int 2, .ref (ad 900)]) hx hb hml hown ht hKK hFx hP hD hS hA (c_x_X9_place l dC dI cI cB cZ cJ cR tb H.size ad pr N L1 L2 v ps (show 0 ≤ (v.1 0 304).toInt ∧ (v.1 0 304).toInt ≤ 1503 from (om_c99648273b z304)) (show 0 ≤ (v.1 0 305).toInt ∧ (v.1 0 305).toInt ≤ 1500 from (om_7897b4ccef z305)) (show 0 ≤ (v.1 0 373).toInt ∧ (v.1 0 373).toInt ≤ 4000 from (om_c74a68af25 z373)) (show pr ps = ad 908 from hps) (show (v.1 0 300) = ps from es300)) tw_457 tw_458 (by decide +kernel) rfl rfl ⟨Nat.le_of_ble_eq_true rfl, Nat.le_of_ble_eq_true rfl⟩ (List.range (cW ad pr N cI cR L1 L2 v).length) (rg_map _) (nd_range _) 0 rfl rfl rfl rfl hl.1 rfl (Nat.le_of_ble_eq_true rfl) dX9_refuseMisfit_15 ⟨Nat.le_of_ble_eq_true rfl, Nat.le_of_ble_eq_true rfl⟩) hP hD hS hA (fun r8 u7 H locs hw6 hP hD hS => ?_)
    obtain ⟨rfl, ex6⟩ := hw6
    refine W.widen (k := 0) (n := 0) (Nat.le_refl _) (Nat.le_refl _) ?_
    refine W.sz (fun hz9 => ?_)
    refine czx_v (rx_Vk (n := 2) (As := [.int 2, .int r8]) (rest := []) hx hb hml hown ht hKK hFx hP hD hS hA (c_x_X9_refuse l dC dI cI cB cZ cJ cR tb H.size ad pr N L1 L2 v (2 : Int32) r8 (show l.stackTraces = false from hst) (show (2 : Int) ≠ 0 from om_e8e86a3929)) tw_459 tw_460 (by decide +kernel) rfl rfl ⟨Nat.le_of_ble_eq_true rfl, Nat.le_of_ble_eq_true rfl⟩ (List.range (cW ad pr N cI cR L1 L2 v).length) (rg_map _) (nd_range _) 0 rfl rfl rfl rfl hl.1 rfl (Nat.le_of_ble_eq_true rfl) dX9_refuseMisfit_18 ⟨Nat.le_of_ble_eq_true rfl, Nat.le_of_ble_eq_true rfl⟩) hP hD hS hA (fun u9 ce9 q9 H locs hx9 hP hD hS hc9 hv9 hf9 => ?_) (fun u10 H locs hw9 hP hD hS hz8 => ?_)
    · exact vx_out (fun x h9 => (hnt x h9).elim) hlocks hc9 hv9 hf9 (fun t9 ht9 hv8 => ⟨u9, ⟨FC.tr (FC.rf _) hx9.1, hx9.2.1, ⟨z304, z305, z373, r3, ex1, (Or.inl ⟨z5, r8, ex6, u9, hx9.2.2, rfl, rfl⟩)⟩⟩, ⟨rfl, by rw [ht9]; exact hP, hD⟩, hS.F ht9⟩) hS.2.2 (Nat.le_refl _) (Nat.le_refl _)
    refine W.shrink (hz8.trans hz9) ?_
    obtain ⟨fr9, ex9, no9, rs9⟩ := hw9
    exact no9.elim
  · have z12 : r3.toInt = (1 : Int) := eq_z rfl (show (1 : Int32).toInt = (1 : Int) by decide) h4
    refine lv_iconst (v := 1) hx hb dX9_refuseMisfit_9 (by decide) ?_
    refine lv_goto (tgt := 14) hx hb dX9_refuseMisfit_10 (by decide) ?_
    refine lv_aload_n hx hb dX9_refuseMisfit_14 rfl (lv_at hl 0 rfl) ?_
    refine cu_i (rn_Vk (n := 0) (As := []) (rest := [.int 1, .ref (ad 900)]) hx hb hml hown ht hKK hFx hP hD hS hA (c_x_X9_place l dC dI cI cB cZ cJ cR tb H.size ad pr N L1 L2 v ps (show 0 ≤ (v.1 0 304).toInt ∧ (v.1 0 304).toInt ≤ 1503 from (om_c99648273b z304)) (show 0 ≤ (v.1 0 305).toInt ∧ (v.1 0 305).toInt ≤ 1500 from (om_7897b4ccef z305)) (show 0 ≤ (v.1 0 373).toInt ∧ (v.1 0 373).toInt ≤ 4000 from (om_c74a68af25 z373)) (show pr ps = ad 908 from hps) (show (v.1 0 300) = ps from es300)) tw_457 tw_458 (by decide +kernel) rfl rfl ⟨Nat.le_of_ble_eq_true rfl, Nat.le_of_ble_eq_true rfl⟩ (List.range (cW ad pr N cI cR L1 L2 v).length) (rg_map _) (nd_range _) 0 rfl rfl rfl rfl hl.1 rfl (Nat.le_of_ble_eq_true rfl) dX9_refuseMisfit_15 ⟨Nat.le_of_ble_eq_true rfl, Nat.le_of_ble_eq_true rfl⟩) hP hD hS hA (fun r15 u14 H locs hw13 hP hD hS => ?_)
    obtain ⟨rfl, ex13⟩ := hw13
    refine W.widen (k := 0) (n := 0) (Nat.le_refl _) (Nat.le_refl _) ?_
    refine W.sz (fun hz9 => ?_)
    refine czx_v (rx_Vk (n := 2) (As := [.int 1, .int r15]) (rest := []) hx hb hml hown ht hKK hFx hP hD hS hA (c_x_X9_refuse l dC dI cI cB cZ cJ cR tb H.size ad pr N L1 L2 v (1 : Int32) r15 (show l.stackTraces = false from hst) (show (1 : Int) ≠ 0 from om_3c82301f8e)) tw_459 tw_460 (by decide +kernel) rfl rfl ⟨Nat.le_of_ble_eq_true rfl, Nat.le_of_ble_eq_true rfl⟩ (List.range (cW ad pr N cI cR L1 L2 v).length) (rg_map _) (nd_range _) 0 rfl rfl rfl rfl hl.1 rfl (Nat.le_of_ble_eq_true rfl) dX9_refuseMisfit_18 ⟨Nat.le_of_ble_eq_true rfl, Nat.le_of_ble_eq_true rfl⟩) hP hD hS hA (fun u9 ce9 q9 H locs hx9 hP hD hS hc9 hv9 hf9 => ?_) (fun u17 H locs hw16 hP hD hS hz8 => ?_)
    · exact vx_out (fun x h9 => (hnt x h9).elim) hlocks hc9 hv9 hf9 (fun t9 ht9 hv8 => ⟨u9, ⟨FC.tr (FC.rf _) hx9.1, hx9.2.1, ⟨z304, z305, z373, r3, ex1, (Or.inr (⟨z12, r15, ex13, u9, hx9.2.2, rfl, rfl⟩))⟩⟩, ⟨rfl, by rw [ht9]; exact hP, hD⟩, hS.F ht9⟩) hS.2.2 (Nat.le_refl _) (Nat.le_refl _)
    refine W.shrink (hz8.trans hz9) ?_
    obtain ⟨fr16, ex16, no16, rs16⟩ := hw16
    exact no16.elim
set_option maxHeartbeats 4000000 in
set_option maxRecDepth 100000 in
theorem c_x_X9_need (l : Launch) (dC : Nat → ClassId) (dI : Nat → Nat → Nat) (cI cB cZ cJ cR : ClassId) (tb : Nat → Nat) (sz : Nat) (ad : Nat → Nat) (pr : Int32 → Nat) (N : Nat) (L1 L2 : List Nat) (v : MS) (pa : Int32) (ps : Int32) (z304 : 0 ≤ (v.1 0 304).toInt ∧ (v.1 0 304).toInt ≤ 1503) (z305 : 0 ≤ (v.1 0 305).toInt ∧ (v.1 0 305).toInt ≤ 1500) (z373 : 0 ≤ (v.1 0 373).toInt ∧ (v.1 0 373).toInt ≤ 4000) (hps : pr ps = ad 908) (es300 : (v.1 0 300) = ps) (hst : l.stackTraces = false) : vx_Met l yX9_need (Cond.code yX9_need cX9_need 2 none :: tw_W) ({ frames := 7, cells := 1, slots := 6, locals := 104 }) (pc_ (dC, dI) (tyS cI cB cZ cJ cR) tb (cW ad pr N cI cR L1 L2 v) sz [.ref (ad 900), .int pa]) (qvz_ (dC, dI) (cW ad pr N cI cR L1 L2 v) sz (fun (u : MS) => FC [] [] v u ∧ (Q_x_X9_need L1 L2 v pa false u) ∧ (RS v u)) (fun (u : MS) => (cW ad pr N cI cR L1 L2 u))) (qxc (dC, dI) (cW ad pr N cI cR L1 L2 v) sz (fun (u : MS) => (cW ad pr N cI cR L1 L2 u)) (fun (u : MS) => FC xfl xal v u ∧ (u.1 0 308).toInt ≠ 0 ∧ (Q_x_X9_need L1 L2 v pa true u))) 1 6 (va_A (cW ad pr N cI cR L1 L2 v) sz) := by
  refine vx_ofW (cc := cX9_need) (maxL := 2) (ret := none) (by decide) rfl ?_
  intro p e s m args below meth c s₁ B hml hnt hv
  obtain ⟨rfl, hsz, hP, hKK, hD0, hFx⟩ := hv
  have hK := hKK.1
  have hx := B.exec
  have hb := B.bytes
  have hr := B.returns
  have ht : ∀ w ∈ tw_W, w.before _ s = true := fun w h => atoms_spec (ws := Cond.code yX9_need cX9_need 2 none :: tw_W) B.pre w (List.mem_cons_of_mem _ h)
  have hown : s.vm.findClass RX9 = some m.cls := findClass_of_methodNamed B.named
  have hlocks := B.notSynchronized
  subst hsz
  unfold qvz_ qxc
  have hD := hD0.self (sz := s.heap.size)
  generalize hAe : va_A (cW ad pr N cI cR L1 L2 v) s.heap.size = A at hD hFx ⊢
  have hA : ∀ q : Nat, s.heap.size ≤ q → A q := fun q h => by rw [← hAe]; exact Or.inr h
  have hS : va_S A s.heap s.heap [] := va_S.rf
  have hl := lv_entry ([.ref (ad 900), .int pa]) (n := 2) (Nat.le_of_ble_eq_true rfl)
  rw [lg_entry_eq]
  generalize (lg_sl ([.ref (ad 900), .int pa]) ++ List.replicate (2 - (lg_sl ([.ref (ad 900), .int pa])).length) Slot.unset).toArray = ls at hl ⊢
  have hl : lv_has ls 2 [(0, .ref (ad 900)), (1, .int pa)] := hl
  refine lv_aload_n hx hb dX9_need_0 rfl (lv_at hl 0 rfl) ?_
  refine cu_i (rn_Vk (n := 0) (As := []) (rest := []) hx hb hml hown ht hKK hFx hP hD hS hA (c_x_X9_kind l dC dI cI cB cZ cJ cR tb s.heap.size ad pr N L1 L2 v  (show 0 ≤ (v.1 0 304).toInt ∧ (v.1 0 304).toInt ≤ 1503 from (om_c99648273b z304)) (show 0 ≤ (v.1 0 305).toInt ∧ (v.1 0 305).toInt ≤ 1500 from (om_7897b4ccef z305))) tw_455 tw_456 (by decide +kernel) rfl rfl ⟨Nat.le_of_ble_eq_true rfl, Nat.le_of_ble_eq_true rfl⟩ (List.range (cW ad pr N cI cR L1 L2 v).length) (rg_map _) (nd_range _) 0 rfl rfl rfl rfl hl.1 rfl (Nat.le_of_ble_eq_true rfl) dX9_need_1 ⟨Nat.le_of_ble_eq_true rfl, Nat.le_of_ble_eq_true rfl⟩) hP hD hS hA (fun r3 u2 H locs hw1 hP hD hS => ?_)
  obtain ⟨rfl, ex1⟩ := hw1
  refine W.widen (k := 0) (n := 0) (Nat.le_refl _) (Nat.le_refl _) ?_
  refine lv_iload_n hx hb dX9_need_4 rfl (lv_at hl 1 rfl) ?_
  refine lv_icmp_eq (tgt := 29) hx hb dX9_need_5 (by decide) (fun h4 => ?_) (fun h4 => ?_)
  · have z5 : r3.toInt = pa.toInt := eq_z rfl rfl h4
    refine W.sz (fun hz => ?_)
    refine vx_ret ?_
    refine W.widen (k := 1) (n := 6) (Nat.le_of_ble_eq_true rfl) (Nat.le_of_ble_eq_true rfl) ?_
    exact W.vret hx hb hr (fun t ht9 hW => ⟨⟨v, rfl, ⟨(FC.rf _), ⟨z304, z305, z373, r3, ex1, (Or.inl ⟨z5, rfl, rfl⟩)⟩, RS.rf⟩, ⟨by rw [ht9]; exact hP, hD⟩, by rw [ht9]; exact hz⟩, hS.F ht9⟩) hS.2.2 dX9_need_29
  · have z6 : r3.toInt ≠ pa.toInt := ne_z rfl rfl h4
    refine lv_aload_n hx hb dX9_need_8 rfl (lv_at hl 0 rfl) ?_
    refine lv_aload_n hx hb dX9_need_9 rfl (lv_at hl 0 rfl) ?_
    refine cu_i (rn_Vk (n := 0) (As := []) (rest := [.ref (ad 900)]) hx hb hml hown ht hKK hFx hP hD hS hA (c_x_X9_kind l dC dI cI cB cZ cJ cR tb H.size ad pr N L1 L2 v  (show 0 ≤ (v.1 0 304).toInt ∧ (v.1 0 304).toInt ≤ 1503 from (om_c99648273b z304)) (show 0 ≤ (v.1 0 305).toInt ∧ (v.1 0 305).toInt ≤ 1500 from (om_7897b4ccef z305))) tw_455 tw_456 (by decide +kernel) rfl rfl ⟨Nat.le_of_ble_eq_true rfl, Nat.le_of_ble_eq_true rfl⟩ (List.range (cW ad pr N cI cR L1 L2 v).length) (rg_map _) (nd_range _) 0 rfl rfl rfl rfl hl.1 rfl (Nat.le_of_ble_eq_true rfl) dX9_need_10 ⟨Nat.le_of_ble_eq_true rfl, Nat.le_of_ble_eq_true rfl⟩) hP hD hS hA (fun r9 u8 H locs hw7 hP hD hS => ?_)
    obtain ⟨rfl, ex7⟩ := hw7
    refine W.widen (k := 0) (n := 0) (Nat.le_refl _) (Nat.le_refl _) ?_
    refine lv_iconst (v := 1) hx hb dX9_need_13 (by decide) ?_
    refine lv_icmp_ne (tgt := 21) hx hb dX9_need_14 (by decide) (fun h10 => ?_) (fun h10 => ?_)
    · have z11 : r9.toInt ≠ (1 : Int) := ne_z rfl (show (1 : Int32).toInt = (1 : Int) by decide) h10
      refine lv_iconst (v := 2) hx hb dX9_need_21 (by decide) ?_
      refine lv_aload_n hx hb dX9_need_22 rfl (lv_at hl 0 rfl) ?_
      refine cu_i (rn_Vk (n := 0) (As := []) (rest := [.int 2, .ref (ad 900)]) hx hb hml hown ht hKK hFx hP hD hS hA (c_x_X9_place l dC dI cI cB cZ cJ cR tb H.size ad pr N L1 L2 v ps (show 0 ≤ (v.1 0 304).toInt ∧ (v.1 0 304).toInt ≤ 1503 from (om_c99648273b z304)) (show 0 ≤ (v.1 0 305).toInt ∧ (v.1 0 305).toInt ≤ 1500 from (om_7897b4ccef z305)) (show 0 ≤ (v.1 0 373).toInt ∧ (v.1 0 373).toInt ≤ 4000 from (om_c74a68af25 z373)) (show pr ps = ad 908 from hps) (show (v.1 0 300) = ps from es300)) tw_457 tw_458 (by decide +kernel) rfl rfl ⟨Nat.le_of_ble_eq_true rfl, Nat.le_of_ble_eq_true rfl⟩ (List.range (cW ad pr N cI cR L1 L2 v).length) (rg_map _) (nd_range _) 0 rfl rfl rfl rfl hl.1 rfl (Nat.le_of_ble_eq_true rfl) dX9_need_23 ⟨Nat.le_of_ble_eq_true rfl, Nat.le_of_ble_eq_true rfl⟩) hP hD hS hA (fun r14 u13 H locs hw12 hP hD hS => ?_)
      obtain ⟨rfl, ex12⟩ := hw12
      refine W.widen (k := 0) (n := 0) (Nat.le_refl _) (Nat.le_refl _) ?_
      refine W.sz (fun hz9 => ?_)
      refine czx_v (rx_Vk (n := 2) (As := [.int 2, .int r14]) (rest := []) hx hb hml hown ht hKK hFx hP hD hS hA (c_x_X9_refuse l dC dI cI cB cZ cJ cR tb H.size ad pr N L1 L2 v (2 : Int32) r14 (show l.stackTraces = false from hst) (show (2 : Int) ≠ 0 from om_e8e86a3929)) tw_459 tw_460 (by decide +kernel) rfl rfl ⟨Nat.le_of_ble_eq_true rfl, Nat.le_of_ble_eq_true rfl⟩ (List.range (cW ad pr N cI cR L1 L2 v).length) (rg_map _) (nd_range _) 0 rfl rfl rfl rfl hl.1 rfl (Nat.le_of_ble_eq_true rfl) dX9_need_26 ⟨Nat.le_of_ble_eq_true rfl, Nat.le_of_ble_eq_true rfl⟩) hP hD hS hA (fun u9 ce9 q9 H locs hx9 hP hD hS hc9 hv9 hf9 => ?_) (fun u16 H locs hw15 hP hD hS hz8 => ?_)
      · exact vx_out (fun x h9 => (hnt x h9).elim) hlocks hc9 hv9 hf9 (fun t9 ht9 hv8 => ⟨u9, ⟨FC.tr (FC.rf _) hx9.1, hx9.2.1, ⟨z304, z305, z373, r3, ex1, (Or.inr (⟨z6, r9, ex7, (Or.inl ⟨z11, r14, ex12, u9, hx9.2.2, rfl, rfl⟩)⟩))⟩⟩, ⟨rfl, by rw [ht9]; exact hP, hD⟩, hS.F ht9⟩) hS.2.2 (Nat.le_refl _) (Nat.le_refl _)
      refine W.shrink (hz8.trans hz9) ?_
      obtain ⟨fr15, ex15, no15, rs15⟩ := hw15
      exact no15.elim
    · have z18 : r9.toInt = (1 : Int) := eq_z rfl (show (1 : Int32).toInt = (1 : Int) by decide) h10
      refine lv_iconst (v := 1) hx hb dX9_need_17 (by decide) ?_
      refine lv_goto (tgt := 22) hx hb dX9_need_18 (by decide) ?_
      refine lv_aload_n hx hb dX9_need_22 rfl (lv_at hl 0 rfl) ?_
      refine cu_i (rn_Vk (n := 0) (As := []) (rest := [.int 1, .ref (ad 900)]) hx hb hml hown ht hKK hFx hP hD hS hA (c_x_X9_place l dC dI cI cB cZ cJ cR tb H.size ad pr N L1 L2 v ps (show 0 ≤ (v.1 0 304).toInt ∧ (v.1 0 304).toInt ≤ 1503 from (om_c99648273b z304)) (show 0 ≤ (v.1 0 305).toInt ∧ (v.1 0 305).toInt ≤ 1500 from (om_7897b4ccef z305)) (show 0 ≤ (v.1 0 373).toInt ∧ (v.1 0 373).toInt ≤ 4000 from (om_c74a68af25 z373)) (show pr ps = ad 908 from hps) (show (v.1 0 300) = ps from es300)) tw_457 tw_458 (by decide +kernel) rfl rfl ⟨Nat.le_of_ble_eq_true rfl, Nat.le_of_ble_eq_true rfl⟩ (List.range (cW ad pr N cI cR L1 L2 v).length) (rg_map _) (nd_range _) 0 rfl rfl rfl rfl hl.1 rfl (Nat.le_of_ble_eq_true rfl) dX9_need_23 ⟨Nat.le_of_ble_eq_true rfl, Nat.le_of_ble_eq_true rfl⟩) hP hD hS hA (fun r21 u20 H locs hw19 hP hD hS => ?_)
      obtain ⟨rfl, ex19⟩ := hw19
      refine W.widen (k := 0) (n := 0) (Nat.le_refl _) (Nat.le_refl _) ?_
      refine W.sz (fun hz9 => ?_)
      refine czx_v (rx_Vk (n := 2) (As := [.int 1, .int r21]) (rest := []) hx hb hml hown ht hKK hFx hP hD hS hA (c_x_X9_refuse l dC dI cI cB cZ cJ cR tb H.size ad pr N L1 L2 v (1 : Int32) r21 (show l.stackTraces = false from hst) (show (1 : Int) ≠ 0 from om_3c82301f8e)) tw_459 tw_460 (by decide +kernel) rfl rfl ⟨Nat.le_of_ble_eq_true rfl, Nat.le_of_ble_eq_true rfl⟩ (List.range (cW ad pr N cI cR L1 L2 v).length) (rg_map _) (nd_range _) 0 rfl rfl rfl rfl hl.1 rfl (Nat.le_of_ble_eq_true rfl) dX9_need_26 ⟨Nat.le_of_ble_eq_true rfl, Nat.le_of_ble_eq_true rfl⟩) hP hD hS hA (fun u9 ce9 q9 H locs hx9 hP hD hS hc9 hv9 hf9 => ?_) (fun u23 H locs hw22 hP hD hS hz8 => ?_)
      · exact vx_out (fun x h9 => (hnt x h9).elim) hlocks hc9 hv9 hf9 (fun t9 ht9 hv8 => ⟨u9, ⟨FC.tr (FC.rf _) hx9.1, hx9.2.1, ⟨z304, z305, z373, r3, ex1, (Or.inr (⟨z6, r9, ex7, (Or.inr (⟨z18, r21, ex19, u9, hx9.2.2, rfl, rfl⟩))⟩))⟩⟩, ⟨rfl, by rw [ht9]; exact hP, hD⟩, hS.F ht9⟩) hS.2.2 (Nat.le_refl _) (Nat.le_refl _)
      refine W.shrink (hz8.trans hz9) ?_
      obtain ⟨fr22, ex22, no22, rs22⟩ := hw22
      exact no22.elim
theorem om_ae64b72666 {x0 x1 x2 : Int} (h0 : 0 ≤ x0 ∧ x0 ≤ 1500) (h1 : (x1 = 1 ∨ x0 < 1500)) (h2 : x1 = (0 : Int)) (h3 : x2 = (x0) + (1 : Int)) : 0 ≤ x2 ∧ x2 ≤ 1500 := by omega
theorem om_5e02973d50 : (5 : Int) ≠ 0 := by omega
set_option maxHeartbeats 4000000 in
set_option maxRecDepth 100000 in
theorem c_x_X9_take (l : Launch) (dC : Nat → ClassId) (dI : Nat → Nat → Nat) (cI cB cZ cJ cR : ClassId) (tb : Nat → Nat) (sz : Nat) (ad : Nat → Nat) (pr : Int32 → Nat) (N : Nat) (L1 L2 : List Nat) (v : MS) (ps : Int32) (z304 : 0 ≤ (v.1 0 304).toInt ∧ (v.1 0 304).toInt ≤ 1503) (z305 : 0 ≤ (v.1 0 305).toInt ∧ (v.1 0 305).toInt ≤ 1500) (z373 : 0 ≤ (v.1 0 373).toInt ∧ (v.1 0 373).toInt ≤ 4000) (hps : pr ps = ad 908) (es300 : (v.1 0 300) = ps) (hst : l.stackTraces = false) : vx_Met l yX9_take (Cond.code yX9_take cX9_take 1 none :: tw_W) ({ frames := 7, cells := 1, slots := 6, locals := 104 }) (pc_ (dC, dI) (tyS cI cB cZ cJ cR) tb (cW ad pr N cI cR L1 L2 v) sz [.ref (ad 900)]) (qvz_ (dC, dI) (cW ad pr N cI cR L1 L2 v) sz (fun (u : MS) => FC [305] [0] v u ∧ (Q_x_X9_take L1 L2 v false u) ∧ (0 ≤ (u.1 0 305).toInt ∧ (u.1 0 305).toInt ≤ 1500) ∧ ((u.1 0 305).toInt = (v.1 0 305).toInt + 1) ∧ (RS v u)) (fun (u : MS) => (cW ad pr N cI cR L1 L2 u))) (qxc (dC, dI) (cW ad pr N cI cR L1 L2 v) sz (fun (u : MS) => (cW ad pr N cI cR L1 L2 u)) (fun (u : MS) => FC xfl xal v u ∧ (u.1 0 308).toInt ≠ 0 ∧ (Q_x_X9_take L1 L2 v true u))) 1 6 (va_A (cW ad pr N cI cR L1 L2 v) sz) := by
  refine vx_ofW (cc := cX9_take) (maxL := 1) (ret := none) (by decide) rfl ?_
  intro p e s m args below meth c s₁ B hml hnt hv
  obtain ⟨rfl, hsz, hP, hKK, hD0, hFx⟩ := hv
  have hK := hKK.1
  have hx := B.exec
  have hb := B.bytes
  have hr := B.returns
  have ht : ∀ w ∈ tw_W, w.before _ s = true := fun w h => atoms_spec (ws := Cond.code yX9_take cX9_take 1 none :: tw_W) B.pre w (List.mem_cons_of_mem _ h)
  have hown : s.vm.findClass RX9 = some m.cls := findClass_of_methodNamed B.named
  have hlocks := B.notSynchronized
  subst hsz
  unfold qvz_ qxc
  have hD := hD0.self (sz := s.heap.size)
  generalize hAe : va_A (cW ad pr N cI cR L1 L2 v) s.heap.size = A at hD hFx ⊢
  have hA : ∀ q : Nat, s.heap.size ≤ q → A q := fun q h => by rw [← hAe]; exact Or.inr h
  have hS : va_S A s.heap s.heap [] := va_S.rf
  have hl := lv_entry ([.ref (ad 900)]) (n := 1) (Nat.le_of_ble_eq_true rfl)
  rw [lg_entry_eq]
  generalize (lg_sl ([.ref (ad 900)]) ++ List.replicate (1 - (lg_sl ([.ref (ad 900)])).length) Slot.unset).toArray = ls at hl ⊢
  have hl : lv_has ls 1 [(0, .ref (ad 900))] := hl
  refine lv_aload_n hx hb dX9_take_0 rfl (lv_at hl 0 rfl) ?_
  refine cu_i (rn_Vk (n := 0) (As := []) (rest := []) hx hb hml hown ht hKK hFx hP hD hS hA (c_x_X9_isTooMuch l dC dI cI cB cZ cJ cR tb s.heap.size ad pr N L1 L2 v  (show 0 ≤ (v.1 0 305).toInt ∧ (v.1 0 305).toInt ≤ 1500 from (om_7897b4ccef z305))) tw_461 tw_462 (by decide +kernel) rfl rfl ⟨Nat.le_of_ble_eq_true rfl, Nat.le_of_ble_eq_true rfl⟩ (List.range (cW ad pr N cI cR L1 L2 v).length) (rg_map _) (nd_range _) 0 rfl rfl rfl rfl hl.1 rfl (Nat.le_of_ble_eq_true rfl) dX9_take_1 ⟨Nat.le_of_ble_eq_true rfl, Nat.le_of_ble_eq_true rfl⟩) hP hD hS hA (fun r3 u2 H locs hw1 hP hD hS => ?_)
  obtain ⟨rfl, ex1, b1, e1, f1⟩ := hw1
  refine W.widen (k := 0) (n := 0) (Nat.le_refl _) (Nat.le_refl _) ?_
  refine lv_if_eq (tgt := 16) hx hb dX9_take_4 (by decide) (fun h4 => ?_) (fun h4 => ?_)
  · have z5 : r3.toInt = (0 : Int) := eq_z rfl (show (0 : Int32).toInt = (0 : Int) by decide) h4
    refine lv_aload_n hx hb dX9_take_16 rfl (lv_at hl 0 rfl) ?_
    refine lv_dup hx hb dX9_take_17 rfl ?_
    refine va_get (D := (dC, dI)) (ci := 12) (fs := oF_X9 ad pr v) (v := .int (v.1 0 305)) (C := RX9) (T := TX9) (N := 10) hx hb ht itX9 hown hK hP 0 rfl rfl 5 (by decide) (ht _ tw_444) (fun _ h9 => h9) rfl dX9_take_18 ?_
    refine lv_iconst (v := 1) hx hb dX9_take_21 (by decide) ?_
    refine lv_iadd hx hb dX9_take_22 ?_
    have z6 : ((v.1 0 305) + (1 : Int32)).toInt = ((v.1 0 305).toInt) + (1 : Int) := add_z rfl (show (1 : Int32).toInt = (1 : Int) by decide) (om_ecb8303fc5 z305) (om_27eb55d06c z305)
    refine va_put (D := (dC, dI)) (ci := 12) (fs := oF_X9 ad pr v) (v := .int ((v.1 0 305) + (1 : Int32))) (ty := .int) (C := RX9) (T := TX9) (N := 10) hx hb ht itX9 tyX9 tyX9_ok nmX9 hown hK hP hD hS 0 rfl rfl 5 (by decide) (ht _ tw_444) (fun _ h9 => h9) rfl (by decide +kernel) rfl rfl (Nat.le_of_ble_eq_true rfl) dX9_take_23 (fun H locs hP hD hS => ?_)
    have hP := cP_ (cw_305 ad pr N cI cR L1 L2 v ((v.1 0 305) + (1 : Int32))) hP
    have hD := cD_ (cw_305 ad pr N cI cR L1 L2 v ((v.1 0 305) + (1 : Int32))) hD
    refine W.sz (fun hz => ?_)
    refine vx_ret ?_
    refine W.widen (k := 1) (n := 6) (Nat.le_of_ble_eq_true rfl) (Nat.le_of_ble_eq_true rfl) ?_
    exact W.vret hx hb hr (fun t ht9 hW => ⟨⟨(wA v 0 305 ((v.1 0 305) + (1 : Int32))), rfl, ⟨(FC.f (FC.rf _) ((v.1 0 305) + (1 : Int32)) (by decide)), ⟨z304, z305, z373, r3, ex1, ⟨b1, e1, f1⟩, (Or.inl ⟨z5, rfl, rfl⟩)⟩, (show 0 ≤ ((v.1 0 305) + (1 : Int32)).toInt ∧ ((v.1 0 305) + (1 : Int32)).toInt ≤ 1500 from (om_ae64b72666 z305 f1 z5 z6)), (show ((v.1 0 305) + (1 : Int32)).toInt = (v.1 0 305).toInt + 1 from (om_5bccfc38cf z6)), (RS.w0 RS.rf (by decide))⟩, ⟨by rw [ht9]; exact hP, hD⟩, by rw [ht9]; exact hz⟩, hS.F ht9⟩) hS.2.2 dX9_take_26
  · have z7 : r3.toInt ≠ (0 : Int) := ne_z rfl (show (0 : Int32).toInt = (0 : Int) by decide) h4
    refine lv_aload_n hx hb dX9_take_7 rfl (lv_at hl 0 rfl) ?_
    refine lv_iconst (v := 5) hx hb dX9_take_8 (by decide) ?_
    refine lv_aload_n hx hb dX9_take_9 rfl (lv_at hl 0 rfl) ?_
    refine cu_i (rn_Vk (n := 0) (As := []) (rest := [.int 5, .ref (ad 900)]) hx hb hml hown ht hKK hFx hP hD hS hA (c_x_X9_place l dC dI cI cB cZ cJ cR tb H.size ad pr N L1 L2 v ps (show 0 ≤ (v.1 0 304).toInt ∧ (v.1 0 304).toInt ≤ 1503 from (om_c99648273b z304)) (show 0 ≤ (v.1 0 305).toInt ∧ (v.1 0 305).toInt ≤ 1500 from (om_7897b4ccef z305)) (show 0 ≤ (v.1 0 373).toInt ∧ (v.1 0 373).toInt ≤ 4000 from (om_c74a68af25 z373)) (show pr ps = ad 908 from hps) (show (v.1 0 300) = ps from es300)) tw_457 tw_458 (by decide +kernel) rfl rfl ⟨Nat.le_of_ble_eq_true rfl, Nat.le_of_ble_eq_true rfl⟩ (List.range (cW ad pr N cI cR L1 L2 v).length) (rg_map _) (nd_range _) 0 rfl rfl rfl rfl hl.1 rfl (Nat.le_of_ble_eq_true rfl) dX9_take_10 ⟨Nat.le_of_ble_eq_true rfl, Nat.le_of_ble_eq_true rfl⟩) hP hD hS hA (fun r11 u10 H locs hw8 hP hD hS => ?_)
    obtain ⟨rfl, ex8⟩ := hw8
    refine W.widen (k := 0) (n := 0) (Nat.le_refl _) (Nat.le_refl _) ?_
    refine W.sz (fun hz9 => ?_)
    refine czx_v (rx_Vk (n := 2) (As := [.int 5, .int r11]) (rest := []) hx hb hml hown ht hKK hFx hP hD hS hA (c_x_X9_refuse l dC dI cI cB cZ cJ cR tb H.size ad pr N L1 L2 v (5 : Int32) r11 (show l.stackTraces = false from hst) (show (5 : Int) ≠ 0 from om_5e02973d50)) tw_459 tw_460 (by decide +kernel) rfl rfl ⟨Nat.le_of_ble_eq_true rfl, Nat.le_of_ble_eq_true rfl⟩ (List.range (cW ad pr N cI cR L1 L2 v).length) (rg_map _) (nd_range _) 0 rfl rfl rfl rfl hl.1 rfl (Nat.le_of_ble_eq_true rfl) dX9_take_13 ⟨Nat.le_of_ble_eq_true rfl, Nat.le_of_ble_eq_true rfl⟩) hP hD hS hA (fun u9 ce9 q9 H locs hx9 hP hD hS hc9 hv9 hf9 => ?_) (fun u13 H locs hw12 hP hD hS hz8 => ?_)
    · exact vx_out (fun x h9 => (hnt x h9).elim) hlocks hc9 hv9 hf9 (fun t9 ht9 hv8 => ⟨u9, ⟨FC.tr (FC.rf _) hx9.1, hx9.2.1, ⟨z304, z305, z373, r3, ex1, ⟨b1, e1, f1⟩, (Or.inr (⟨z7, r11, ex8, u9, hx9.2.2, rfl, rfl⟩))⟩⟩, ⟨rfl, by rw [ht9]; exact hP, hD⟩, hS.F ht9⟩) hS.2.2 (Nat.le_refl _) (Nat.le_refl _)
    refine W.shrink (hz8.trans hz9) ?_
    obtain ⟨fr12, ex12, no12, rs12⟩ := hw12
    exact no12.elim
set_option maxHeartbeats 4000000 in
set_option maxRecDepth 100000 in
theorem c_x_X9_expect (l : Launch) (dC : Nat → ClassId) (dI : Nat → Nat → Nat) (cI cB cZ cJ cR : ClassId) (tb : Nat → Nat) (sz : Nat) (ad : Nat → Nat) (pr : Int32 → Nat) (N : Nat) (L1 L2 : List Nat) (v : MS) (pa : Int32) (ps : Int32) (z304 : 0 ≤ (v.1 0 304).toInt ∧ (v.1 0 304).toInt ≤ 1503) (z305 : 0 ≤ (v.1 0 305).toInt ∧ (v.1 0 305).toInt ≤ 1500) (z373 : 0 ≤ (v.1 0 373).toInt ∧ (v.1 0 373).toInt ≤ 4000) (hps : pr ps = ad 908) (es300 : (v.1 0 300) = ps) (hst : l.stackTraces = false) : vx_Met l yX9_expect (Cond.code yX9_expect cX9_expect 2 none :: tw_W) ({ frames := 7, cells := 1, slots := 6, locals := 104 }) (pc_ (dC, dI) (tyS cI cB cZ cJ cR) tb (cW ad pr N cI cR L1 L2 v) sz [.ref (ad 900), .int pa]) (qvz_ (dC, dI) (cW ad pr N cI cR L1 L2 v) sz (fun (u : MS) => FC [305] [0] v u ∧ (Q_x_X9_expect L1 L2 v pa false u) ∧ (0 ≤ (u.1 0 305).toInt ∧ (u.1 0 305).toInt ≤ 1500) ∧ ((u.1 0 305).toInt = (v.1 0 305).toInt + 1) ∧ (RS v u)) (fun (u : MS) => (cW ad pr N cI cR L1 L2 u))) (qxc (dC, dI) (cW ad pr N cI cR L1 L2 v) sz (fun (u : MS) => (cW ad pr N cI cR L1 L2 u)) (fun (u : MS) => FC xfl xal v u ∧ (u.1 0 308).toInt ≠ 0 ∧ (Q_x_X9_expect L1 L2 v pa true u))) 1 6 (va_A (cW ad pr N cI cR L1 L2 v) sz) := by
  refine vx_ofW (cc := cX9_expect) (maxL := 2) (ret := none) (by decide) rfl ?_
  intro p e s m args below meth c s₁ B hml hnt hv
  obtain ⟨rfl, hsz, hP, hKK, hD0, hFx⟩ := hv
  have hK := hKK.1
  have hx := B.exec
  have hb := B.bytes
  have hr := B.returns
  have ht : ∀ w ∈ tw_W, w.before _ s = true := fun w h => atoms_spec (ws := Cond.code yX9_expect cX9_expect 2 none :: tw_W) B.pre w (List.mem_cons_of_mem _ h)
  have hown : s.vm.findClass RX9 = some m.cls := findClass_of_methodNamed B.named
  have hlocks := B.notSynchronized
  subst hsz
  unfold qvz_ qxc
  have hD := hD0.self (sz := s.heap.size)
  generalize hAe : va_A (cW ad pr N cI cR L1 L2 v) s.heap.size = A at hD hFx ⊢
  have hA : ∀ q : Nat, s.heap.size ≤ q → A q := fun q h => by rw [← hAe]; exact Or.inr h
  have hS : va_S A s.heap s.heap [] := va_S.rf
  have hl := lv_entry ([.ref (ad 900), .int pa]) (n := 2) (Nat.le_of_ble_eq_true rfl)
  rw [lg_entry_eq]
  generalize (lg_sl ([.ref (ad 900), .int pa]) ++ List.replicate (2 - (lg_sl ([.ref (ad 900), .int pa])).length) Slot.unset).toArray = ls at hl ⊢
  have hl : lv_has ls 2 [(0, .ref (ad 900)), (1, .int pa)] := hl
  refine lv_aload_n hx hb dX9_expect_0 rfl (lv_at hl 0 rfl) ?_
  refine cu_i (rn_Vk (n := 0) (As := []) (rest := []) hx hb hml hown ht hKK hFx hP hD hS hA (c_x_X9_kind l dC dI cI cB cZ cJ cR tb s.heap.size ad pr N L1 L2 v  (show 0 ≤ (v.1 0 304).toInt ∧ (v.1 0 304).toInt ≤ 1503 from (om_c99648273b z304)) (show 0 ≤ (v.1 0 305).toInt ∧ (v.1 0 305).toInt ≤ 1500 from (om_7897b4ccef z305))) tw_455 tw_456 (by decide +kernel) rfl rfl ⟨Nat.le_of_ble_eq_true rfl, Nat.le_of_ble_eq_true rfl⟩ (List.range (cW ad pr N cI cR L1 L2 v).length) (rg_map _) (nd_range _) 0 rfl rfl rfl rfl hl.1 rfl (Nat.le_of_ble_eq_true rfl) dX9_expect_1 ⟨Nat.le_of_ble_eq_true rfl, Nat.le_of_ble_eq_true rfl⟩) hP hD hS hA (fun r3 u2 H locs hw1 hP hD hS => ?_)
  obtain ⟨rfl, ex1⟩ := hw1
  refine W.widen (k := 0) (n := 0) (Nat.le_refl _) (Nat.le_refl _) ?_
  refine lv_iload_n hx hb dX9_expect_4 rfl (lv_at hl 1 rfl) ?_
  refine lv_icmp_eq (tgt := 29) hx hb dX9_expect_5 (by decide) (fun h4 => ?_) (fun h4 => ?_)
  · have z5 : r3.toInt = pa.toInt := eq_z rfl rfl h4
    refine lv_aload_n hx hb dX9_expect_29 rfl (lv_at hl 0 rfl) ?_
    refine cu_i (rn_Vk (n := 0) (As := []) (rest := []) hx hb hml hown ht hKK hFx hP hD hS hA (c_x_X9_isTooMuch l dC dI cI cB cZ cJ cR tb H.size ad pr N L1 L2 v  (show 0 ≤ (v.1 0 305).toInt ∧ (v.1 0 305).toInt ≤ 1500 from (om_7897b4ccef z305))) tw_461 tw_462 (by decide +kernel) rfl rfl ⟨Nat.le_of_ble_eq_true rfl, Nat.le_of_ble_eq_true rfl⟩ (List.range (cW ad pr N cI cR L1 L2 v).length) (rg_map _) (nd_range _) 0 rfl rfl rfl rfl hl.1 rfl (Nat.le_of_ble_eq_true rfl) dX9_expect_30 ⟨Nat.le_of_ble_eq_true rfl, Nat.le_of_ble_eq_true rfl⟩) hP hD hS hA (fun r8 u7 H locs hw6 hP hD hS => ?_)
    obtain ⟨rfl, ex6, b6, e6, f6⟩ := hw6
    refine W.widen (k := 0) (n := 0) (Nat.le_refl _) (Nat.le_refl _) ?_
    refine lv_if_eq (tgt := 45) hx hb dX9_expect_33 (by decide) (fun h9 => ?_) (fun h9 => ?_)
    · have z10 : r8.toInt = (0 : Int) := eq_z rfl (show (0 : Int32).toInt = (0 : Int) by decide) h9
      refine lv_aload_n hx hb dX9_expect_45 rfl (lv_at hl 0 rfl) ?_
      refine lv_dup hx hb dX9_expect_46 rfl ?_
      refine va_get (D := (dC, dI)) (ci := 12) (fs := oF_X9 ad pr v) (v := .int (v.1 0 305)) (C := RX9) (T := TX9) (N := 10) hx hb ht itX9 hown hK hP 0 rfl rfl 5 (by decide) (ht _ tw_444) (fun _ h9 => h9) rfl dX9_expect_47 ?_
      refine lv_iconst (v := 1) hx hb dX9_expect_50 (by decide) ?_
      refine lv_iadd hx hb dX9_expect_51 ?_
      have z11 : ((v.1 0 305) + (1 : Int32)).toInt = ((v.1 0 305).toInt) + (1 : Int) := add_z rfl (show (1 : Int32).toInt = (1 : Int) by decide) (om_ecb8303fc5 z305) (om_27eb55d06c z305)
      refine va_put (D := (dC, dI)) (ci := 12) (fs := oF_X9 ad pr v) (v := .int ((v.1 0 305) + (1 : Int32))) (ty := .int) (C := RX9) (T := TX9) (N := 10) hx hb ht itX9 tyX9 tyX9_ok nmX9 hown hK hP hD hS 0 rfl rfl 5 (by decide) (ht _ tw_444) (fun _ h9 => h9) rfl (by decide +kernel) rfl rfl (Nat.le_of_ble_eq_true rfl) dX9_expect_52 (fun H locs hP hD hS => ?_)
      have hP := cP_ (cw_305 ad pr N cI cR L1 L2 v ((v.1 0 305) + (1 : Int32))) hP
      have hD := cD_ (cw_305 ad pr N cI cR L1 L2 v ((v.1 0 305) + (1 : Int32))) hD
      refine W.sz (fun hz => ?_)
      refine vx_ret ?_
      refine W.widen (k := 1) (n := 6) (Nat.le_of_ble_eq_true rfl) (Nat.le_of_ble_eq_true rfl) ?_
      exact W.vret hx hb hr (fun t ht9 hW => ⟨⟨(wA v 0 305 ((v.1 0 305) + (1 : Int32))), rfl, ⟨(FC.f (FC.rf _) ((v.1 0 305) + (1 : Int32)) (by decide)), ⟨z304, z305, z373, r3, ex1, (Or.inl ⟨z5, r8, ex6, ⟨b6, e6, f6⟩, (Or.inl ⟨z10, rfl, rfl⟩)⟩)⟩, (show 0 ≤ ((v.1 0 305) + (1 : Int32)).toInt ∧ ((v.1 0 305) + (1 : Int32)).toInt ≤ 1500 from (om_ae64b72666 z305 f6 z10 z11)), (show ((v.1 0 305) + (1 : Int32)).toInt = (v.1 0 305).toInt + 1 from (om_5bccfc38cf z11)), (RS.w0 RS.rf (by decide))⟩, ⟨by rw [ht9]; exact hP, hD⟩, by rw [ht9]; exact hz⟩, hS.F ht9⟩) hS.2.2 dX9_expect_55
    · have z12 : r8.toInt ≠ (0 : Int) := ne_z rfl (show (0 : Int32).toInt = (0 : Int) by decide) h9
      refine lv_aload_n hx hb dX9_expect_36 rfl (lv_at hl 0 rfl) ?_
      refine lv_iconst (v := 5) hx hb dX9_expect_37 (by decide) ?_
      refine lv_aload_n hx hb dX9_expect_38 rfl (lv_at hl 0 rfl) ?_
      refine cu_i (rn_Vk (n := 0) (As := []) (rest := [.int 5, .ref (ad 900)]) hx hb hml hown ht hKK hFx hP hD hS hA (c_x_X9_place l dC dI cI cB cZ cJ cR tb H.size ad pr N L1 L2 v ps (show 0 ≤ (v.1 0 304).toInt ∧ (v.1 0 304).toInt ≤ 1503 from (om_c99648273b z304)) (show 0 ≤ (v.1 0 305).toInt ∧ (v.1 0 305).toInt ≤ 1500 from (om_7897b4ccef z305)) (show 0 ≤ (v.1 0 373).toInt ∧ (v.1 0 373).toInt ≤ 4000 from (om_c74a68af25 z373)) (show pr ps = ad 908 from hps) (show (v.1 0 300) = ps from es300)) tw_457 tw_458 (by decide +kernel) rfl rfl ⟨Nat.le_of_ble_eq_true rfl, Nat.le_of_ble_eq_true rfl⟩ (List.range (cW ad pr N cI cR L1 L2 v).length) (rg_map _) (nd_range _) 0 rfl rfl rfl rfl hl.1 rfl (Nat.le_of_ble_eq_true rfl) dX9_expect_39 ⟨Nat.le_of_ble_eq_true rfl, Nat.le_of_ble_eq_true rfl⟩) hP hD hS hA (fun r15 u14 H locs hw13 hP hD hS => ?_)
      obtain ⟨rfl, ex13⟩ := hw13
      refine W.widen (k := 0) (n := 0) (Nat.le_refl _) (Nat.le_refl _) ?_
      refine W.sz (fun hz9 => ?_)
      refine czx_v (rx_Vk (n := 2) (As := [.int 5, .int r15]) (rest := []) hx hb hml hown ht hKK hFx hP hD hS hA (c_x_X9_refuse l dC dI cI cB cZ cJ cR tb H.size ad pr N L1 L2 v (5 : Int32) r15 (show l.stackTraces = false from hst) (show (5 : Int) ≠ 0 from om_5e02973d50)) tw_459 tw_460 (by decide +kernel) rfl rfl ⟨Nat.le_of_ble_eq_true rfl, Nat.le_of_ble_eq_true rfl⟩ (List.range (cW ad pr N cI cR L1 L2 v).length) (rg_map _) (nd_range _) 0 rfl rfl rfl rfl hl.1 rfl (Nat.le_of_ble_eq_true rfl) dX9_expect_42 ⟨Nat.le_of_ble_eq_true rfl, Nat.le_of_ble_eq_true rfl⟩) hP hD hS hA (fun u9 ce9 q9 H locs hx9 hP hD hS hc9 hv9 hf9 => ?_) (fun u17 H locs hw16 hP hD hS hz8 => ?_)
      · exact vx_out (fun x h9 => (hnt x h9).elim) hlocks hc9 hv9 hf9 (fun t9 ht9 hv8 => ⟨u9, ⟨FC.tr (FC.rf _) hx9.1, hx9.2.1, ⟨z304, z305, z373, r3, ex1, (Or.inl ⟨z5, r8, ex6, ⟨b6, e6, f6⟩, (Or.inr (⟨z12, r15, ex13, u9, hx9.2.2, rfl, rfl⟩))⟩)⟩⟩, ⟨rfl, by rw [ht9]; exact hP, hD⟩, hS.F ht9⟩) hS.2.2 (Nat.le_refl _) (Nat.le_refl _)
      refine W.shrink (hz8.trans hz9) ?_
      obtain ⟨fr16, ex16, no16, rs16⟩ := hw16
      exact no16.elim
  · have z19 : r3.toInt ≠ pa.toInt := ne_z rfl rfl h4
    refine lv_aload_n hx hb dX9_expect_8 rfl (lv_at hl 0 rfl) ?_
    refine lv_aload_n hx hb dX9_expect_9 rfl (lv_at hl 0 rfl) ?_
    refine cu_i (rn_Vk (n := 0) (As := []) (rest := [.ref (ad 900)]) hx hb hml hown ht hKK hFx hP hD hS hA (c_x_X9_kind l dC dI cI cB cZ cJ cR tb H.size ad pr N L1 L2 v  (show 0 ≤ (v.1 0 304).toInt ∧ (v.1 0 304).toInt ≤ 1503 from (om_c99648273b z304)) (show 0 ≤ (v.1 0 305).toInt ∧ (v.1 0 305).toInt ≤ 1500 from (om_7897b4ccef z305))) tw_455 tw_456 (by decide +kernel) rfl rfl ⟨Nat.le_of_ble_eq_true rfl, Nat.le_of_ble_eq_true rfl⟩ (List.range (cW ad pr N cI cR L1 L2 v).length) (rg_map _) (nd_range _) 0 rfl rfl rfl rfl hl.1 rfl (Nat.le_of_ble_eq_true rfl) dX9_expect_10 ⟨Nat.le_of_ble_eq_true rfl, Nat.le_of_ble_eq_true rfl⟩) hP hD hS hA (fun r22 u21 H locs hw20 hP hD hS => ?_)
    obtain ⟨rfl, ex20⟩ := hw20
    refine W.widen (k := 0) (n := 0) (Nat.le_refl _) (Nat.le_refl _) ?_
    refine lv_iconst (v := 1) hx hb dX9_expect_13 (by decide) ?_
    refine lv_icmp_ne (tgt := 21) hx hb dX9_expect_14 (by decide) (fun h23 => ?_) (fun h23 => ?_)
    · have z24 : r22.toInt ≠ (1 : Int) := ne_z rfl (show (1 : Int32).toInt = (1 : Int) by decide) h23
      refine lv_iconst (v := 2) hx hb dX9_expect_21 (by decide) ?_
      refine lv_aload_n hx hb dX9_expect_22 rfl (lv_at hl 0 rfl) ?_
      refine cu_i (rn_Vk (n := 0) (As := []) (rest := [.int 2, .ref (ad 900)]) hx hb hml hown ht hKK hFx hP hD hS hA (c_x_X9_place l dC dI cI cB cZ cJ cR tb H.size ad pr N L1 L2 v ps (show 0 ≤ (v.1 0 304).toInt ∧ (v.1 0 304).toInt ≤ 1503 from (om_c99648273b z304)) (show 0 ≤ (v.1 0 305).toInt ∧ (v.1 0 305).toInt ≤ 1500 from (om_7897b4ccef z305)) (show 0 ≤ (v.1 0 373).toInt ∧ (v.1 0 373).toInt ≤ 4000 from (om_c74a68af25 z373)) (show pr ps = ad 908 from hps) (show (v.1 0 300) = ps from es300)) tw_457 tw_458 (by decide +kernel) rfl rfl ⟨Nat.le_of_ble_eq_true rfl, Nat.le_of_ble_eq_true rfl⟩ (List.range (cW ad pr N cI cR L1 L2 v).length) (rg_map _) (nd_range _) 0 rfl rfl rfl rfl hl.1 rfl (Nat.le_of_ble_eq_true rfl) dX9_expect_23 ⟨Nat.le_of_ble_eq_true rfl, Nat.le_of_ble_eq_true rfl⟩) hP hD hS hA (fun r27 u26 H locs hw25 hP hD hS => ?_)
      obtain ⟨rfl, ex25⟩ := hw25
      refine W.widen (k := 0) (n := 0) (Nat.le_refl _) (Nat.le_refl _) ?_
      refine W.sz (fun hz9 => ?_)
      refine czx_v (rx_Vk (n := 2) (As := [.int 2, .int r27]) (rest := []) hx hb hml hown ht hKK hFx hP hD hS hA (c_x_X9_refuse l dC dI cI cB cZ cJ cR tb H.size ad pr N L1 L2 v (2 : Int32) r27 (show l.stackTraces = false from hst) (show (2 : Int) ≠ 0 from om_e8e86a3929)) tw_459 tw_460 (by decide +kernel) rfl rfl ⟨Nat.le_of_ble_eq_true rfl, Nat.le_of_ble_eq_true rfl⟩ (List.range (cW ad pr N cI cR L1 L2 v).length) (rg_map _) (nd_range _) 0 rfl rfl rfl rfl hl.1 rfl (Nat.le_of_ble_eq_true rfl) dX9_expect_26 ⟨Nat.le_of_ble_eq_true rfl, Nat.le_of_ble_eq_true rfl⟩) hP hD hS hA (fun u9 ce9 q9 H locs hx9 hP hD hS hc9 hv9 hf9 => ?_) (fun u29 H locs hw28 hP hD hS hz8 => ?_)
      · exact vx_out (fun x h9 => (hnt x h9).elim) hlocks hc9 hv9 hf9 (fun t9 ht9 hv8 => ⟨u9, ⟨FC.tr (FC.rf _) hx9.1, hx9.2.1, ⟨z304, z305, z373, r3, ex1, (Or.inr (⟨z19, r22, ex20, (Or.inl ⟨z24, r27, ex25, u9, hx9.2.2, rfl, rfl⟩)⟩))⟩⟩, ⟨rfl, by rw [ht9]; exact hP, hD⟩, hS.F ht9⟩) hS.2.2 (Nat.le_refl _) (Nat.le_refl _)
      refine W.shrink (hz8.trans hz9) ?_
      obtain ⟨fr28, ex28, no28, rs28⟩ := hw28
      exact no28.elim
    · have z31 : r22.toInt = (1 : Int) := eq_z rfl (show (1 : Int32).toInt = (1 : Int) by decide) h23
      refine lv_iconst (v := 1) hx hb dX9_expect_17 (by decide) ?_
      refine lv_goto (tgt := 22) hx hb dX9_expect_18 (by decide) ?_
      refine lv_aload_n hx hb dX9_expect_22 rfl (lv_at hl 0 rfl) ?_
      refine cu_i (rn_Vk (n := 0) (As := []) (rest := [.int 1, .ref (ad 900)]) hx hb hml hown ht hKK hFx hP hD hS hA (c_x_X9_place l dC dI cI cB cZ cJ cR tb H.size ad pr N L1 L2 v ps (show 0 ≤ (v.1 0 304).toInt ∧ (v.1 0 304).toInt ≤ 1503 from (om_c99648273b z304)) (show 0 ≤ (v.1 0 305).toInt ∧ (v.1 0 305).toInt ≤ 1500 from (om_7897b4ccef z305)) (show 0 ≤ (v.1 0 373).toInt ∧ (v.1 0 373).toInt ≤ 4000 from (om_c74a68af25 z373)) (show pr ps = ad 908 from hps) (show (v.1 0 300) = ps from es300)) tw_457 tw_458 (by decide +kernel) rfl rfl ⟨Nat.le_of_ble_eq_true rfl, Nat.le_of_ble_eq_true rfl⟩ (List.range (cW ad pr N cI cR L1 L2 v).length) (rg_map _) (nd_range _) 0 rfl rfl rfl rfl hl.1 rfl (Nat.le_of_ble_eq_true rfl) dX9_expect_23 ⟨Nat.le_of_ble_eq_true rfl, Nat.le_of_ble_eq_true rfl⟩) hP hD hS hA (fun r34 u33 H locs hw32 hP hD hS => ?_)
      obtain ⟨rfl, ex32⟩ := hw32
      refine W.widen (k := 0) (n := 0) (Nat.le_refl _) (Nat.le_refl _) ?_
      refine W.sz (fun hz9 => ?_)
      refine czx_v (rx_Vk (n := 2) (As := [.int 1, .int r34]) (rest := []) hx hb hml hown ht hKK hFx hP hD hS hA (c_x_X9_refuse l dC dI cI cB cZ cJ cR tb H.size ad pr N L1 L2 v (1 : Int32) r34 (show l.stackTraces = false from hst) (show (1 : Int) ≠ 0 from om_3c82301f8e)) tw_459 tw_460 (by decide +kernel) rfl rfl ⟨Nat.le_of_ble_eq_true rfl, Nat.le_of_ble_eq_true rfl⟩ (List.range (cW ad pr N cI cR L1 L2 v).length) (rg_map _) (nd_range _) 0 rfl rfl rfl rfl hl.1 rfl (Nat.le_of_ble_eq_true rfl) dX9_expect_26 ⟨Nat.le_of_ble_eq_true rfl, Nat.le_of_ble_eq_true rfl⟩) hP hD hS hA (fun u9 ce9 q9 H locs hx9 hP hD hS hc9 hv9 hf9 => ?_) (fun u36 H locs hw35 hP hD hS hz8 => ?_)
      · exact vx_out (fun x h9 => (hnt x h9).elim) hlocks hc9 hv9 hf9 (fun t9 ht9 hv8 => ⟨u9, ⟨FC.tr (FC.rf _) hx9.1, hx9.2.1, ⟨z304, z305, z373, r3, ex1, (Or.inr (⟨z19, r22, ex20, (Or.inr (⟨z31, r34, ex32, u9, hx9.2.2, rfl, rfl⟩))⟩))⟩⟩, ⟨rfl, by rw [ht9]; exact hP, hD⟩, hS.F ht9⟩) hS.2.2 (Nat.le_refl _) (Nat.le_refl _)
      refine W.shrink (hz8.trans hz9) ?_
      obtain ⟨fr35, ex35, no35, rs35⟩ := hw35
      exact no35.elim
theorem om_1fbfa90ca4 {x0 : Int} (h0 : x0 < (40 : Int)) : (x0) + (1 : Int) < 2147483648 := by omega
theorem om_cbcf5e06f2 {x0 x1 : Int} (h0 : 0 ≤ x0 ∧ x0 ≤ 40) (h1 : x0 < (40 : Int)) (h2 : x1 = (x0) + (1 : Int)) : 0 ≤ x1 ∧ x1 ≤ 40 := by omega
set_option maxHeartbeats 4000000 in
set_option maxRecDepth 100000 in
theorem c_x_X9_open (l : Launch) (dC : Nat → ClassId) (dI : Nat → Nat → Nat) (cI cB cZ cJ cR : ClassId) (tb : Nat → Nat) (sz : Nat) (ad : Nat → Nat) (pr : Int32 → Nat) (N : Nat) (L1 L2 : List Nat) (v : MS) (ps : Int32) (z304 : 0 ≤ (v.1 0 304).toInt ∧ (v.1 0 304).toInt ≤ 1503) (z305 : 0 ≤ (v.1 0 305).toInt ∧ (v.1 0 305).toInt ≤ 1500) (z306 : 0 ≤ (v.1 0 306).toInt ∧ (v.1 0 306).toInt ≤ 40) (z373 : 0 ≤ (v.1 0 373).toInt ∧ (v.1 0 373).toInt ≤ 4000) (hps : pr ps = ad 908) (es300 : (v.1 0 300) = ps) (hst : l.stackTraces = false) : vx_Met l yX9_open (Cond.code yX9_open cX9_open 1 none :: tw_W) ({ frames := 7, cells := 1, slots := 6, locals := 104 }) (pc_ (dC, dI) (tyS cI cB cZ cJ cR) tb (cW ad pr N cI cR L1 L2 v) sz [.ref (ad 900)]) (qvz_ (dC, dI) (cW ad pr N cI cR L1 L2 v) sz (fun (u : MS) => FC [305, 306] [0] v u ∧ (Q_x_X9_open L1 L2 v false u) ∧ (0 ≤ (u.1 0 305).toInt ∧ (u.1 0 305).toInt ≤ 1500) ∧ (0 ≤ (u.1 0 306).toInt ∧ (u.1 0 306).toInt ≤ 40) ∧ ((u.1 0 306).toInt = (v.1 0 306).toInt + 1) ∧ ((u.1 0 305).toInt = (v.1 0 305).toInt + 1) ∧ (RS v u)) (fun (u : MS) => (cW ad pr N cI cR L1 L2 u))) (qxc (dC, dI) (cW ad pr N cI cR L1 L2 v) sz (fun (u : MS) => (cW ad pr N cI cR L1 L2 u)) (fun (u : MS) => FC xfl xal v u ∧ (u.1 0 308).toInt ≠ 0 ∧ (Q_x_X9_open L1 L2 v true u))) 1 6 (va_A (cW ad pr N cI cR L1 L2 v) sz) := by
  refine vx_ofW (cc := cX9_open) (maxL := 1) (ret := none) (by decide) rfl ?_
  intro p e s m args below meth c s₁ B hml hnt hv
  obtain ⟨rfl, hsz, hP, hKK, hD0, hFx⟩ := hv
  have hK := hKK.1
  have hx := B.exec
  have hb := B.bytes
  have hr := B.returns
  have ht : ∀ w ∈ tw_W, w.before _ s = true := fun w h => atoms_spec (ws := Cond.code yX9_open cX9_open 1 none :: tw_W) B.pre w (List.mem_cons_of_mem _ h)
  have hown : s.vm.findClass RX9 = some m.cls := findClass_of_methodNamed B.named
  have hlocks := B.notSynchronized
  subst hsz
  unfold qvz_ qxc
  have hD := hD0.self (sz := s.heap.size)
  generalize hAe : va_A (cW ad pr N cI cR L1 L2 v) s.heap.size = A at hD hFx ⊢
  have hA : ∀ q : Nat, s.heap.size ≤ q → A q := fun q h => by rw [← hAe]; exact Or.inr h
  have hS : va_S A s.heap s.heap [] := va_S.rf
  have hl := lv_entry ([.ref (ad 900)]) (n := 1) (Nat.le_of_ble_eq_true rfl)
  rw [lg_entry_eq]
  generalize (lg_sl ([.ref (ad 900)]) ++ List.replicate (1 - (lg_sl ([.ref (ad 900)])).length) Slot.unset).toArray = ls at hl ⊢
  have hl : lv_has ls 1 [(0, .ref (ad 900))] := hl
  refine lv_aload_n hx hb dX9_open_0 rfl (lv_at hl 0 rfl) ?_
  refine va_get (D := (dC, dI)) (ci := 12) (fs := oF_X9 ad pr v) (v := .int (v.1 0 306)) (C := RX9) (T := TX9) (N := 10) hx hb ht itX9 hown hK hP 0 rfl rfl 6 (by decide) (ht _ tw_445) (fun _ h9 => h9) rfl dX9_open_1 ?_
  refine lv_bipush (v := 40) hx hb dX9_open_4 (by decide) ?_
  refine lv_icmp_ge (tgt := 16) hx hb dX9_open_6 (by decide) (fun h1 => ?_) (fun h1 => ?_)
  · have z2 : (40 : Int) ≤ (v.1 0 306).toInt := le_z (show (40 : Int32).toInt = (40 : Int) by decide) rfl h1
    refine lv_aload_n hx hb dX9_open_16 rfl (lv_at hl 0 rfl) ?_
    refine lv_iconst (v := 5) hx hb dX9_open_17 (by decide) ?_
    refine lv_aload_n hx hb dX9_open_18 rfl (lv_at hl 0 rfl) ?_
    refine cu_i (rn_Vk (n := 0) (As := []) (rest := [.int 5, .ref (ad 900)]) hx hb hml hown ht hKK hFx hP hD hS hA (c_x_X9_place l dC dI cI cB cZ cJ cR tb s.heap.size ad pr N L1 L2 v ps (show 0 ≤ (v.1 0 304).toInt ∧ (v.1 0 304).toInt ≤ 1503 from (om_c99648273b z304)) (show 0 ≤ (v.1 0 305).toInt ∧ (v.1 0 305).toInt ≤ 1500 from (om_7897b4ccef z305)) (show 0 ≤ (v.1 0 373).toInt ∧ (v.1 0 373).toInt ≤ 4000 from (om_c74a68af25 z373)) (show pr ps = ad 908 from hps) (show (v.1 0 300) = ps from es300)) tw_457 tw_458 (by decide +kernel) rfl rfl ⟨Nat.le_of_ble_eq_true rfl, Nat.le_of_ble_eq_true rfl⟩ (List.range (cW ad pr N cI cR L1 L2 v).length) (rg_map _) (nd_range _) 0 rfl rfl rfl rfl hl.1 rfl (Nat.le_of_ble_eq_true rfl) dX9_open_19 ⟨Nat.le_of_ble_eq_true rfl, Nat.le_of_ble_eq_true rfl⟩) hP hD hS hA (fun r5 u4 H locs hw3 hP hD hS => ?_)
    obtain ⟨rfl, ex3⟩ := hw3
    refine W.widen (k := 0) (n := 0) (Nat.le_refl _) (Nat.le_refl _) ?_
    refine W.sz (fun hz9 => ?_)
    refine czx_v (rx_Vk (n := 2) (As := [.int 5, .int r5]) (rest := []) hx hb hml hown ht hKK hFx hP hD hS hA (c_x_X9_refuse l dC dI cI cB cZ cJ cR tb H.size ad pr N L1 L2 v (5 : Int32) r5 (show l.stackTraces = false from hst) (show (5 : Int) ≠ 0 from om_5e02973d50)) tw_459 tw_460 (by decide +kernel) rfl rfl ⟨Nat.le_of_ble_eq_true rfl, Nat.le_of_ble_eq_true rfl⟩ (List.range (cW ad pr N cI cR L1 L2 v).length) (rg_map _) (nd_range _) 0 rfl rfl rfl rfl hl.1 rfl (Nat.le_of_ble_eq_true rfl) dX9_open_22 ⟨Nat.le_of_ble_eq_true rfl, Nat.le_of_ble_eq_true rfl⟩) hP hD hS hA (fun u9 ce9 q9 H locs hx9 hP hD hS hc9 hv9 hf9 => ?_) (fun u7 H locs hw6 hP hD hS hz8 => ?_)
    · exact vx_out (fun x h9 => (hnt x h9).elim) hlocks hc9 hv9 hf9 (fun t9 ht9 hv8 => ⟨u9, ⟨FC.tr (FC.rf _) hx9.1, hx9.2.1, ⟨z304, z305, z306, z373, (Or.inl ⟨z2, r5, ex3, u9, hx9.2.2, rfl, rfl⟩)⟩⟩, ⟨rfl, by rw [ht9]; exact hP, hD⟩, hS.F ht9⟩) hS.2.2 (Nat.le_refl _) (Nat.le_refl _)
    refine W.shrink (hz8.trans hz9) ?_
    obtain ⟨fr6, ex6, no6, rs6⟩ := hw6
    exact no6.elim
  · have z9 : (v.1 0 306).toInt < (40 : Int) := nle_z (show (40 : Int32).toInt = (40 : Int) by decide) rfl h1
    refine lv_aload_n hx hb dX9_open_9 rfl (lv_at hl 0 rfl) ?_
    refine cu_i (rn_Vk (n := 0) (As := []) (rest := []) hx hb hml hown ht hKK hFx hP hD hS hA (c_x_X9_isTooMuch l dC dI cI cB cZ cJ cR tb s.heap.size ad pr N L1 L2 v  (show 0 ≤ (v.1 0 305).toInt ∧ (v.1 0 305).toInt ≤ 1500 from (om_7897b4ccef z305))) tw_461 tw_462 (by decide +kernel) rfl rfl ⟨Nat.le_of_ble_eq_true rfl, Nat.le_of_ble_eq_true rfl⟩ (List.range (cW ad pr N cI cR L1 L2 v).length) (rg_map _) (nd_range _) 0 rfl rfl rfl rfl hl.1 rfl (Nat.le_of_ble_eq_true rfl) dX9_open_10 ⟨Nat.le_of_ble_eq_true rfl, Nat.le_of_ble_eq_true rfl⟩) hP hD hS hA (fun r12 u11 H locs hw10 hP hD hS => ?_)
    obtain ⟨rfl, ex10, b10, e10, f10⟩ := hw10
    refine W.widen (k := 0) (n := 0) (Nat.le_refl _) (Nat.le_refl _) ?_
    refine lv_if_eq (tgt := 25) hx hb dX9_open_13 (by decide) (fun h13 => ?_) (fun h13 => ?_)
    · have z14 : r12.toInt = (0 : Int) := eq_z rfl (show (0 : Int32).toInt = (0 : Int) by decide) h13
      refine lv_aload_n hx hb dX9_open_25 rfl (lv_at hl 0 rfl) ?_
      refine lv_dup hx hb dX9_open_26 rfl ?_
      refine va_get (D := (dC, dI)) (ci := 12) (fs := oF_X9 ad pr v) (v := .int (v.1 0 306)) (C := RX9) (T := TX9) (N := 10) hx hb ht itX9 hown hK hP 0 rfl rfl 6 (by decide) (ht _ tw_445) (fun _ h9 => h9) rfl dX9_open_27 ?_
      refine lv_iconst (v := 1) hx hb dX9_open_30 (by decide) ?_
      refine lv_iadd hx hb dX9_open_31 ?_
      have z15 : ((v.1 0 306) + (1 : Int32)).toInt = ((v.1 0 306).toInt) + (1 : Int) := add_z rfl (show (1 : Int32).toInt = (1 : Int) by decide) (om_c2418a9965 z306) (om_1fbfa90ca4 z9)
      refine va_put (D := (dC, dI)) (ci := 12) (fs := oF_X9 ad pr v) (v := .int ((v.1 0 306) + (1 : Int32))) (ty := .int) (C := RX9) (T := TX9) (N := 10) hx hb ht itX9 tyX9 tyX9_ok nmX9 hown hK hP hD hS 0 rfl rfl 6 (by decide) (ht _ tw_445) (fun _ h9 => h9) rfl (by decide +kernel) rfl rfl (Nat.le_of_ble_eq_true rfl) dX9_open_32 (fun H locs hP hD hS => ?_)
      have hP := cP_ (cw_306 ad pr N cI cR L1 L2 v ((v.1 0 306) + (1 : Int32))) hP
      have hD := cD_ (cw_306 ad pr N cI cR L1 L2 v ((v.1 0 306) + (1 : Int32))) hD
      refine lv_aload_n hx hb dX9_open_35 rfl (lv_at hl 0 rfl) ?_
      refine lv_dup hx hb dX9_open_36 rfl ?_
      refine va_get (D := (dC, dI)) (ci := 12) (fs := oF_X9 ad pr (wA v 0 306 ((v.1 0 306) + (1 : Int32)))) (v := .int (v.1 0 305)) (C := RX9) (T := TX9) (N := 10) hx hb ht itX9 hown hK hP 0 rfl rfl 5 (by decide) (ht _ tw_444) (fun _ h9 => h9) rfl dX9_open_37 ?_
      refine lv_iconst (v := 1) hx hb dX9_open_40 (by decide) ?_
      refine lv_iadd hx hb dX9_open_41 ?_
      have z16 : ((v.1 0 305) + (1 : Int32)).toInt = ((v.1 0 305).toInt) + (1 : Int) := add_z rfl (show (1 : Int32).toInt = (1 : Int) by decide) (om_ecb8303fc5 z305) (om_27eb55d06c z305)
      refine va_put (D := (dC, dI)) (ci := 12) (fs := oF_X9 ad pr (wA v 0 306 ((v.1 0 306) + (1 : Int32)))) (v := .int ((v.1 0 305) + (1 : Int32))) (ty := .int) (C := RX9) (T := TX9) (N := 10) hx hb ht itX9 tyX9 tyX9_ok nmX9 hown hK hP hD hS 0 rfl rfl 5 (by decide) (ht _ tw_444) (fun _ h9 => h9) rfl (by decide +kernel) rfl rfl (Nat.le_of_ble_eq_true rfl) dX9_open_42 (fun H locs hP hD hS => ?_)
      have hP := cP_ (cw_305 ad pr N cI cR L1 L2 (wA v 0 306 ((v.1 0 306) + (1 : Int32))) ((v.1 0 305) + (1 : Int32))) hP
      have hD := cD_ (cw_305 ad pr N cI cR L1 L2 (wA v 0 306 ((v.1 0 306) + (1 : Int32))) ((v.1 0 305) + (1 : Int32))) hD
      refine W.sz (fun hz => ?_)
      refine vx_ret ?_
      refine W.widen (k := 1) (n := 6) (Nat.le_of_ble_eq_true rfl) (Nat.le_of_ble_eq_true rfl) ?_
      exact W.vret hx hb hr (fun t ht9 hW => ⟨⟨(wA (wA v 0 306 ((v.1 0 306) + (1 : Int32))) 0 305 ((v.1 0 305) + (1 : Int32))), rfl, ⟨(FC.f (FC.f (FC.rf _) ((v.1 0 306) + (1 : Int32)) (by decide)) ((v.1 0 305) + (1 : Int32)) (by decide)), ⟨z304, z305, z306, z373, (Or.inr (⟨z9, r12, ex10, ⟨b10, e10, f10⟩, (Or.inl ⟨z14, rfl, rfl⟩)⟩))⟩, (show 0 ≤ ((v.1 0 305) + (1 : Int32)).toInt ∧ ((v.1 0 305) + (1 : Int32)).toInt ≤ 1500 from (om_ae64b72666 z305 f10 z14 z16)), (show 0 ≤ ((v.1 0 306) + (1 : Int32)).toInt ∧ ((v.1 0 306) + (1 : Int32)).toInt ≤ 40 from (om_cbcf5e06f2 z306 z9 z15)), (show ((v.1 0 306) + (1 : Int32)).toInt = (v.1 0 306).toInt + 1 from (om_5bccfc38cf z15)), (show ((v.1 0 305) + (1 : Int32)).toInt = (v.1 0 305).toInt + 1 from (om_5bccfc38cf z16)), (RS.w0 (RS.w0 RS.rf (by decide)) (by decide))⟩, ⟨by rw [ht9]; exact hP, hD⟩, by rw [ht9]; exact hz⟩, hS.F ht9⟩) hS.2.2 dX9_open_45
    · have z17 : r12.toInt ≠ (0 : Int) := ne_z rfl (show (0 : Int32).toInt = (0 : Int) by decide) h13
      refine lv_aload_n hx hb dX9_open_16 rfl (lv_at hl 0 rfl) ?_
      refine lv_iconst (v := 5) hx hb dX9_open_17 (by decide) ?_
      refine lv_aload_n hx hb dX9_open_18 rfl (lv_at hl 0 rfl) ?_
      refine cu_i (rn_Vk (n := 0) (As := []) (rest := [.int 5, .ref (ad 900)]) hx hb hml hown ht hKK hFx hP hD hS hA (c_x_X9_place l dC dI cI cB cZ cJ cR tb H.size ad pr N L1 L2 v ps (show 0 ≤ (v.1 0 304).toInt ∧ (v.1 0 304).toInt ≤ 1503 from (om_c99648273b z304)) (show 0 ≤ (v.1 0 305).toInt ∧ (v.1 0 305).toInt ≤ 1500 from (om_7897b4ccef z305)) (show 0 ≤ (v.1 0 373).toInt ∧ (v.1 0 373).toInt ≤ 4000 from (om_c74a68af25 z373)) (show pr ps = ad 908 from hps) (show (v.1 0 300) = ps from es300)) tw_457 tw_458 (by decide +kernel) rfl rfl ⟨Nat.le_of_ble_eq_true rfl, Nat.le_of_ble_eq_true rfl⟩ (List.range (cW ad pr N cI cR L1 L2 v).length) (rg_map _) (nd_range _) 0 rfl rfl rfl rfl hl.1 rfl (Nat.le_of_ble_eq_true rfl) dX9_open_19 ⟨Nat.le_of_ble_eq_true rfl, Nat.le_of_ble_eq_true rfl⟩) hP hD hS hA (fun r20 u19 H locs hw18 hP hD hS => ?_)
      obtain ⟨rfl, ex18⟩ := hw18
      refine W.widen (k := 0) (n := 0) (Nat.le_refl _) (Nat.le_refl _) ?_
      refine W.sz (fun hz9 => ?_)
      refine czx_v (rx_Vk (n := 2) (As := [.int 5, .int r20]) (rest := []) hx hb hml hown ht hKK hFx hP hD hS hA (c_x_X9_refuse l dC dI cI cB cZ cJ cR tb H.size ad pr N L1 L2 v (5 : Int32) r20 (show l.stackTraces = false from hst) (show (5 : Int) ≠ 0 from om_5e02973d50)) tw_459 tw_460 (by decide +kernel) rfl rfl ⟨Nat.le_of_ble_eq_true rfl, Nat.le_of_ble_eq_true rfl⟩ (List.range (cW ad pr N cI cR L1 L2 v).length) (rg_map _) (nd_range _) 0 rfl rfl rfl rfl hl.1 rfl (Nat.le_of_ble_eq_true rfl) dX9_open_22 ⟨Nat.le_of_ble_eq_true rfl, Nat.le_of_ble_eq_true rfl⟩) hP hD hS hA (fun u9 ce9 q9 H locs hx9 hP hD hS hc9 hv9 hf9 => ?_) (fun u22 H locs hw21 hP hD hS hz8 => ?_)
      · exact vx_out (fun x h9 => (hnt x h9).elim) hlocks hc9 hv9 hf9 (fun t9 ht9 hv8 => ⟨u9, ⟨FC.tr (FC.rf _) hx9.1, hx9.2.1, ⟨z304, z305, z306, z373, (Or.inr (⟨z9, r12, ex10, ⟨b10, e10, f10⟩, (Or.inr (⟨z17, r20, ex18, u9, hx9.2.2, rfl, rfl⟩))⟩))⟩⟩, ⟨rfl, by rw [ht9]; exact hP, hD⟩, hS.F ht9⟩) hS.2.2 (Nat.le_refl _) (Nat.le_refl _)
      refine W.shrink (hz8.trans hz9) ?_
      obtain ⟨fr21, ex21, no21, rs21⟩ := hw21
      exact no21.elim
theorem om_3430ae7ecd {x0 x1 : Int} (h0 : 0 ≤ x0 ∧ x0 ≤ 40) (h1 : 1 ≤ x0) (h2 : x1 = (x0) - (1 : Int)) : 0 ≤ x1 ∧ x1 ≤ 40 := by omega
set_option maxHeartbeats 4000000 in
set_option maxRecDepth 100000 in
theorem c_x_X9_close (l : Launch) (dC : Nat → ClassId) (dI : Nat → Nat → Nat) (cI cB cZ cJ cR : ClassId) (tb : Nat → Nat) (sz : Nat) (ad : Nat → Nat) (pr : Int32 → Nat) (N : Nat) (L1 L2 : List Nat) (v : MS)  (z306 : 0 ≤ (v.1 0 306).toInt ∧ (v.1 0 306).toInt ≤ 40) (zo1 : 1 ≤ (v.1 0 306).toInt) : Met l yX9_close (Cond.code yX9_close cX9_close 1 none :: tw_W) ({ frames := 0, cells := 0, slots := 0, locals := 0 }) (pc_ (dC, dI) (tyS cI cB cZ cJ cR) tb (cW ad pr N cI cR L1 L2 v) sz [.ref (ad 900)]) (qv_ (dC, dI) (cW ad pr N cI cR L1 L2 v) sz (fun (u : MS) => FC [306] [0] v u ∧ (Q_x_X9_close L1 L2 v u) ∧ (0 ≤ (u.1 0 306).toInt ∧ (u.1 0 306).toInt ≤ 40) ∧ ((u.1 0 306).toInt = (v.1 0 306).toInt - 1) ∧ (RS v u)) (fun (u : MS) => (cW ad pr N cI cR L1 L2 u))) 0 0 (va_A (cW ad pr N cI cR L1 L2 v) sz) := by
  refine Met.ofW (cc := cX9_close) (maxL := 1) (ret := none) (by decide) rfl ?_
  intro p e s m args below meth c s₁ B hml hv
  obtain ⟨rfl, hsz, hP, hKK, hD0, hFx⟩ := hv
  have hK := hKK.1
  have hx := B.exec
  have hb := B.bytes
  have hr := B.returns
  have ht : ∀ w ∈ tw_W, w.before _ s = true := fun w h => atoms_spec (ws := Cond.code yX9_close cX9_close 1 none :: tw_W) B.pre w (List.mem_cons_of_mem _ h)
  have hown : s.vm.findClass RX9 = some m.cls := findClass_of_methodNamed B.named
  have hlocks := B.notSynchronized
  subst hsz
  unfold qv_
  have hD := hD0.self (sz := s.heap.size)
  generalize hAe : va_A (cW ad pr N cI cR L1 L2 v) s.heap.size = A at hD hFx ⊢
  have hA : ∀ q : Nat, s.heap.size ≤ q → A q := fun q h => by rw [← hAe]; exact Or.inr h
  have hS : va_S A s.heap s.heap [] := va_S.rf
  have hl := lv_entry ([.ref (ad 900)]) (n := 1) (Nat.le_of_ble_eq_true rfl)
  rw [lg_entry_eq]
  generalize (lg_sl ([.ref (ad 900)]) ++ List.replicate (1 - (lg_sl ([.ref (ad 900)])).length) Slot.unset).toArray = ls at hl ⊢
  have hl : lv_has ls 1 [(0, .ref (ad 900))] := hl
  refine lv_aload_n hx hb dX9_close_0 rfl (lv_at hl 0 rfl) ?_
  refine lv_dup hx hb dX9_close_1 rfl ?_
  refine va_get (D := (dC, dI)) (ci := 12) (fs := oF_X9 ad pr v) (v := .int (v.1 0 306)) (C := RX9) (T := TX9) (N := 10) hx hb ht itX9 hown hK hP 0 rfl rfl 6 (by decide) (ht _ tw_445) (fun _ h9 => h9) rfl dX9_close_2 ?_
  refine lv_iconst (v := 1) hx hb dX9_close_5 (by decide) ?_
  refine lv_isub hx hb dX9_close_6 ?_
  have z1 : ((v.1 0 306) - (1 : Int32)).toInt = ((v.1 0 306).toInt) - (1 : Int) := sub_z rfl (show (1 : Int32).toInt = (1 : Int) by decide) (om_f2795c2b52 z306) (om_14dd996dd5 z306)
  refine va_put (D := (dC, dI)) (ci := 12) (fs := oF_X9 ad pr v) (v := .int ((v.1 0 306) - (1 : Int32))) (ty := .int) (C := RX9) (T := TX9) (N := 10) hx hb ht itX9 tyX9 tyX9_ok nmX9 hown hK hP hD hS 0 rfl rfl 6 (by decide) (ht _ tw_445) (fun _ h9 => h9) rfl (by decide +kernel) rfl rfl (Nat.le_of_ble_eq_true rfl) dX9_close_7 (fun H locs hP hD hS => ?_)
  have hP := cP_ (cw_306 ad pr N cI cR L1 L2 v ((v.1 0 306) - (1 : Int32))) hP
  have hD := cD_ (cw_306 ad pr N cI cR L1 L2 v ((v.1 0 306) - (1 : Int32))) hD
  exact W.vret hx hb hr (fun t ht9 hW => ⟨⟨(wA v 0 306 ((v.1 0 306) - (1 : Int32))), rfl, ⟨(FC.f (FC.rf _) ((v.1 0 306) - (1 : Int32)) (by decide)), ⟨z306, zo1, rfl⟩, (show 0 ≤ ((v.1 0 306) - (1 : Int32)).toInt ∧ ((v.1 0 306) - (1 : Int32)).toInt ≤ 40 from (om_3430ae7ecd z306 zo1 z1)), (show ((v.1 0 306) - (1 : Int32)).toInt = (v.1 0 306).toInt - 1 from (om_4b62747e8a z1)), (RS.w0 RS.rf (by decide))⟩, by rw [ht9]; exact hP, hD⟩, hS.F ht9⟩) hS.2.2 dX9_close_10
set_option maxHeartbeats 4000000 in
set_option maxRecDepth 100000 in
theorem c_x_X9_makeDue (l : Launch) (dC : Nat → ClassId) (dI : Nat → Nat → Nat) (cI cB cZ cJ cR : ClassId) (tb : Nat → Nat) (sz : Nat) (ad : Nat → Nat) (pr : Int32 → Nat) (N : Nat) (L1 L2 : List Nat) (v : MS)  (z305 : 0 ≤ (v.1 0 305).toInt ∧ (v.1 0 305).toInt ≤ 1500) : Met l yX9_makeDue (Cond.code yX9_makeDue cX9_makeDue 1 none :: tw_W) ({ frames := 0, cells := 0, slots := 0, locals := 0 }) (pc_ (dC, dI) (tyS cI cB cZ cJ cR) tb (cW ad pr N cI cR L1 L2 v) sz [.ref (ad 900)]) (qv_ (dC, dI) (cW ad pr N cI cR L1 L2 v) sz (fun (u : MS) => FC [307] [0] v u ∧ (Q_x_X9_makeDue L1 L2 v u) ∧ (RS v u)) (fun (u : MS) => (cW ad pr N cI cR L1 L2 u))) 0 0 (va_A (cW ad pr N cI cR L1 L2 v) sz) := by
  refine Met.ofW (cc := cX9_makeDue) (maxL := 1) (ret := none) (by decide) rfl ?_
  intro p e s m args below meth c s₁ B hml hv
  obtain ⟨rfl, hsz, hP, hKK, hD0, hFx⟩ := hv
  have hK := hKK.1
  have hx := B.exec
  have hb := B.bytes
  have hr := B.returns
  have ht : ∀ w ∈ tw_W, w.before _ s = true := fun w h => atoms_spec (ws := Cond.code yX9_makeDue cX9_makeDue 1 none :: tw_W) B.pre w (List.mem_cons_of_mem _ h)
  have hown : s.vm.findClass RX9 = some m.cls := findClass_of_methodNamed B.named
  have hlocks := B.notSynchronized
  subst hsz
  unfold qv_
  have hD := hD0.self (sz := s.heap.size)
  generalize hAe : va_A (cW ad pr N cI cR L1 L2 v) s.heap.size = A at hD hFx ⊢
  have hA : ∀ q : Nat, s.heap.size ≤ q → A q := fun q h => by rw [← hAe]; exact Or.inr h
  have hS : va_S A s.heap s.heap [] := va_S.rf
  have hl := lv_entry ([.ref (ad 900)]) (n := 1) (Nat.le_of_ble_eq_true rfl)
  rw [lg_entry_eq]
  generalize (lg_sl ([.ref (ad 900)]) ++ List.replicate (1 - (lg_sl ([.ref (ad 900)])).length) Slot.unset).toArray = ls at hl ⊢
  have hl : lv_has ls 1 [(0, .ref (ad 900))] := hl
  refine lv_aload_n hx hb dX9_makeDue_0 rfl (lv_at hl 0 rfl) ?_
  refine lv_aload_n hx hb dX9_makeDue_1 rfl (lv_at hl 0 rfl) ?_
  refine va_get (D := (dC, dI)) (ci := 12) (fs := oF_X9 ad pr v) (v := .int (v.1 0 305)) (C := RX9) (T := TX9) (N := 10) hx hb ht itX9 hown hK hP 0 rfl rfl 5 (by decide) (ht _ tw_444) (fun _ h9 => h9) rfl dX9_makeDue_2 ?_
  refine va_put (D := (dC, dI)) (ci := 12) (fs := oF_X9 ad pr v) (v := .int (v.1 0 305)) (ty := .int) (C := RX9) (T := TX9) (N := 10) hx hb ht itX9 tyX9 tyX9_ok nmX9 hown hK hP hD hS 0 rfl rfl 7 (by decide) (ht _ tw_446) (fun _ h9 => h9) rfl (by decide +kernel) rfl rfl (Nat.le_of_ble_eq_true rfl) dX9_makeDue_5 (fun H locs hP hD hS => ?_)
  have hP := cP_ (cw_307 ad pr N cI cR L1 L2 v (v.1 0 305)) hP
  have hD := cD_ (cw_307 ad pr N cI cR L1 L2 v (v.1 0 305)) hD
  exact W.vret hx hb hr (fun t ht9 hW => ⟨⟨(wA v 0 307 (v.1 0 305)), rfl, ⟨(FC.f (FC.rf _) (v.1 0 305) (by decide)), ⟨z305, rfl⟩, (RS.w0 RS.rf (by decide))⟩, by rw [ht9]; exact hP, hD⟩, hS.F ht9⟩) hS.2.2 dX9_makeDue_8
