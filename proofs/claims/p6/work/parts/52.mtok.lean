theorem dX13_fail_0 : decode cX13_fail 0 = .ok (.aload_n 0, 1) := by decide +kernel
theorem dX13_fail_1 : decode cX13_fail 1 = .ok (.iload_n 1, 1) := by decide +kernel
theorem dX13_fail_2 : decode cX13_fail 2 = .ok (.putfield 127, 3) := by decide +kernel
theorem tw_19 : (.fieldLink RX13 127 "PocketCompilerModel" "fault" "I" : Cond) ∈ tw_W := tw_in (t8_10 (List.mem_of_getElem? (i := 207) rfl)) rfl
theorem dX13_fail_5 : decode cX13_fail 5 = .ok (.aload_n 0, 1) := by decide +kernel
theorem dX13_fail_6 : decode cX13_fail 6 = .ok (.aload_n 0, 1) := by decide +kernel
theorem dX13_fail_7 : decode cX13_fail 7 = .ok (.getfield 38, 3) := by decide +kernel
theorem tw_20 : (.fieldLink RX13 38 "PocketCompilerModel" "place" "[I" : Cond) ∈ tw_W := tw_in (t8_10 (List.mem_of_getElem? (i := 164) rfl)) rfl
theorem dX13_fail_10 : decode cX13_fail 10 = .ok (.iload_n 2, 1) := by decide +kernel
theorem dX13_fail_11 : decode cX13_fail 11 = .ok (.iaload, 1) := by decide +kernel
theorem dX13_fail_12 : decode cX13_fail 12 = .ok (.putfield 130, 3) := by decide +kernel
theorem tw_21 : (.fieldLink RX13 130 "PocketCompilerModel" "faultPlace" "I" : Cond) ∈ tw_W := tw_in (t8_10 (List.mem_of_getElem? (i := 208) rfl)) rfl
theorem dX13_fail_15 : decode cX13_fail 15 = .ok (.aload_n 0, 1) := by decide +kernel
theorem dX13_fail_16 : decode cX13_fail 16 = .ok (.getfield 133, 3) := by decide +kernel
theorem tw_22 : (.fieldLink RX13 133 "PocketCompilerModel" "halt" "LPocketCompilerModel$Halt;" : Cond) ∈ tw_W := tw_in (t8_10 (List.mem_of_getElem? (i := 203) rfl)) rfl
theorem dX13_fail_19 : decode cX13_fail 19 = .ok (.areturn, 1) := by decide +kernel
theorem dX13_bad_0 : decode cX13_bad 0 = .ok (.aload_n 0, 1) := by decide +kernel
theorem dX13_bad_1 : decode cX13_bad 1 = .ok (.aload_n 0, 1) := by decide +kernel
theorem dX13_bad_2 : decode cX13_bad 2 = .ok (.getfield 41, 3) := by decide +kernel
theorem tw_23 : (.fieldLink RX13 41 "PocketCompilerModel" "kind" "[I" : Cond) ∈ tw_W := tw_in (t8_10 (List.mem_of_getElem? (i := 163) rfl)) rfl
theorem dX13_bad_5 : decode cX13_bad 5 = .ok (.aload_n 0, 1) := by decide +kernel
theorem dX13_bad_6 : decode cX13_bad 6 = .ok (.getfield 137, 3) := by decide +kernel
theorem tw_24 : (.fieldLink RX13 137 "PocketCompilerModel" "t" "I" : Cond) ∈ tw_W := tw_in (t8_10 (List.mem_of_getElem? (i := 204) rfl)) rfl
theorem dX13_bad_9 : decode cX13_bad 9 = .ok (.iaload, 1) := by decide +kernel
theorem dX13_bad_10 : decode cX13_bad 10 = .ok (.iconst 1, 1) := by decide +kernel
theorem dX13_bad_11 : decode cX13_bad 11 = .ok (.if_icmp .ne 7, 3) := by decide +kernel
theorem dX13_bad_18 : decode cX13_bad 18 = .ok (.iconst 2, 1) := by decide +kernel
theorem dX13_bad_19 : decode cX13_bad 19 = .ok (.aload_n 0, 1) := by decide +kernel
theorem dX13_bad_20 : decode cX13_bad 20 = .ok (.getfield 137, 3) := by decide +kernel
theorem dX13_bad_23 : decode cX13_bad 23 = .ok (.invokevirtual 140, 3) := by decide +kernel
theorem tw_25 : (.code yX13_fail cX13_fail 3 (some (.object "PocketCompilerModel$Halt")) : Cond) ∈ tw_W := tw_in (t8_9 (List.mem_of_getElem? (i := 144) rfl)) rfl
theorem tw_26 : ∀ w ∈ ([.methodLink RX13 140 yX13_fail, .instanceMethod yX13_fail, .selects RX13 yX13_fail yX13_fail, .initialized RX13] : List Cond), w ∈ tw_W := al_c (tw_in (t8_9 (List.mem_of_getElem? (i := 141) rfl)) rfl) (al_c (tw_in (t8_9 (List.mem_of_getElem? (i := 143) rfl)) rfl) (al_c (tw_in (t7_8 (q := (yX13_fail, 124)) (List.mem_of_getElem? (i := 8) rfl)) rfl) (al_c (tw_in (t8_1 (List.mem_of_getElem? (i := 23) rfl)) rfl) al_n)))
theorem dX13_bad_26 : decode cX13_bad 26 = .ok (.areturn, 1) := by decide +kernel
theorem dX13_bad_14 : decode cX13_bad 14 = .ok (.iconst 1, 1) := by decide +kernel
theorem dX13_bad_15 : decode cX13_bad 15 = .ok (.goto 4, 3) := by decide +kernel
theorem dX13_isSign_0 : decode cX13_isSign 0 = .ok (.aload_n 0, 1) := by decide +kernel
theorem dX13_isSign_1 : decode cX13_isSign 1 = .ok (.getfield 41, 3) := by decide +kernel
theorem dX13_isSign_4 : decode cX13_isSign 4 = .ok (.iload_n 1, 1) := by decide +kernel
theorem dX13_isSign_5 : decode cX13_isSign 5 = .ok (.iaload, 1) := by decide +kernel
theorem dX13_isSign_6 : decode cX13_isSign 6 = .ok (.iconst 5, 1) := by decide +kernel
theorem dX13_isSign_7 : decode cX13_isSign 7 = .ok (.if_icmp .ne 19, 3) := by decide +kernel
theorem dX13_isSign_26 : decode cX13_isSign 26 = .ok (.iconst 0, 1) := by decide +kernel
theorem dX13_isSign_27 : decode cX13_isSign 27 = .ok (.ireturn, 1) := by decide +kernel
theorem dX13_isSign_10 : decode cX13_isSign 10 = .ok (.aload_n 0, 1) := by decide +kernel
theorem dX13_isSign_11 : decode cX13_isSign 11 = .ok (.getfield 56, 3) := by decide +kernel
theorem tw_27 : (.fieldLink RX13 56 "PocketCompilerModel" "value" "[J" : Cond) ∈ tw_W := tw_in (t8_10 (List.mem_of_getElem? (i := 166) rfl)) rfl
theorem dX13_isSign_14 : decode cX13_isSign 14 = .ok (.iload_n 1, 1) := by decide +kernel
theorem dX13_isSign_15 : decode cX13_isSign 15 = .ok (.laload, 1) := by decide +kernel
theorem dX13_isSign_16 : decode cX13_isSign 16 = .ok (.iload_n 2, 1) := by decide +kernel
theorem dX13_isSign_17 : decode cX13_isSign 17 = .ok (.i2l, 1) := by decide +kernel
theorem dX13_isSign_18 : decode cX13_isSign 18 = .ok (.lcmp, 1) := by decide +kernel
theorem dX13_isSign_19 : decode cX13_isSign 19 = .ok (.ifCond .ne 7, 3) := by decide +kernel
theorem dX13_isSign_22 : decode cX13_isSign 22 = .ok (.iconst 1, 1) := by decide +kernel
theorem dX13_isSign_23 : decode cX13_isSign 23 = .ok (.goto 4, 3) := by decide +kernel
theorem dX13_is_0 : decode cX13_is 0 = .ok (.aload_n 0, 1) := by decide +kernel
theorem dX13_is_1 : decode cX13_is 1 = .ok (.aload_n 0, 1) := by decide +kernel
theorem dX13_is_2 : decode cX13_is 2 = .ok (.getfield 137, 3) := by decide +kernel
theorem dX13_is_5 : decode cX13_is 5 = .ok (.iload_n 1, 1) := by decide +kernel
theorem dX13_is_6 : decode cX13_is 6 = .ok (.invokevirtual 144, 3) := by decide +kernel
theorem tw_28 : (.code yX13_isSign cX13_isSign 3 (some .boolean) : Cond) ∈ tw_W := tw_in (t8_9 (List.mem_of_getElem? (i := 164) rfl)) rfl
theorem tw_29 : ∀ w ∈ ([.methodLink RX13 144 yX13_isSign, .instanceMethod yX13_isSign, .selects RX13 yX13_isSign yX13_isSign, .initialized RX13] : List Cond), w ∈ tw_W := al_c (tw_in (t8_9 (List.mem_of_getElem? (i := 161) rfl)) rfl) (al_c (tw_in (t8_9 (List.mem_of_getElem? (i := 163) rfl)) rfl) (al_c (tw_in (t7_8 (q := (yX13_isSign, 124)) (List.mem_of_getElem? (i := 13) rfl)) rfl) (al_c (tw_in (t8_1 (List.mem_of_getElem? (i := 23) rfl)) rfl) al_n)))
theorem dX13_is_9 : decode cX13_is 9 = .ok (.ireturn, 1) := by decide +kernel
theorem dX13_isKey_0 : decode cX13_isKey 0 = .ok (.aload_n 0, 1) := by decide +kernel
theorem dX13_isKey_1 : decode cX13_isKey 1 = .ok (.getfield 41, 3) := by decide +kernel
theorem dX13_isKey_4 : decode cX13_isKey 4 = .ok (.aload_n 0, 1) := by decide +kernel
theorem dX13_isKey_5 : decode cX13_isKey 5 = .ok (.getfield 137, 3) := by decide +kernel
theorem dX13_isKey_8 : decode cX13_isKey 8 = .ok (.iaload, 1) := by decide +kernel
theorem dX13_isKey_9 : decode cX13_isKey 9 = .ok (.iconst 3, 1) := by decide +kernel
theorem dX13_isKey_10 : decode cX13_isKey 10 = .ok (.if_icmp .ne 22, 3) := by decide +kernel
theorem dX13_isKey_32 : decode cX13_isKey 32 = .ok (.iconst 0, 1) := by decide +kernel
theorem dX13_isKey_33 : decode cX13_isKey 33 = .ok (.ireturn, 1) := by decide +kernel
theorem dX13_isKey_13 : decode cX13_isKey 13 = .ok (.aload_n 0, 1) := by decide +kernel
theorem dX13_isKey_14 : decode cX13_isKey 14 = .ok (.getfield 56, 3) := by decide +kernel
theorem dX13_isKey_17 : decode cX13_isKey 17 = .ok (.aload_n 0, 1) := by decide +kernel
theorem dX13_isKey_18 : decode cX13_isKey 18 = .ok (.getfield 137, 3) := by decide +kernel
theorem dX13_isKey_21 : decode cX13_isKey 21 = .ok (.laload, 1) := by decide +kernel
theorem dX13_isKey_22 : decode cX13_isKey 22 = .ok (.iload_n 1, 1) := by decide +kernel
theorem dX13_isKey_23 : decode cX13_isKey 23 = .ok (.i2l, 1) := by decide +kernel
theorem dX13_isKey_24 : decode cX13_isKey 24 = .ok (.lcmp, 1) := by decide +kernel
theorem dX13_isKey_25 : decode cX13_isKey 25 = .ok (.ifCond .ne 7, 3) := by decide +kernel
theorem dX13_isKey_28 : decode cX13_isKey 28 = .ok (.iconst 1, 1) := by decide +kernel
theorem dX13_isKey_29 : decode cX13_isKey 29 = .ok (.goto 4, 3) := by decide +kernel
theorem dX13_take_0 : decode cX13_take 0 = .ok (.aload_n 0, 1) := by decide +kernel
theorem dX13_take_1 : decode cX13_take 1 = .ok (.getfield 137, 3) := by decide +kernel
theorem dX13_take_4 : decode cX13_take 4 = .ok (.sipush 1500, 3) := by decide +kernel
theorem dX13_take_7 : decode cX13_take 7 = .ok (.if_icmp .ge 14, 3) := by decide +kernel
theorem dX13_take_21 : decode cX13_take 21 = .ok (.aload_n 0, 1) := by decide +kernel
theorem dX13_take_22 : decode cX13_take 22 = .ok (.iconst 5, 1) := by decide +kernel
theorem dX13_take_23 : decode cX13_take 23 = .ok (.aload_n 0, 1) := by decide +kernel
theorem dX13_take_24 : decode cX13_take 24 = .ok (.getfield 137, 3) := by decide +kernel
theorem dX13_take_27 : decode cX13_take 27 = .ok (.invokevirtual 140, 3) := by decide +kernel
theorem dX13_take_30 : decode cX13_take 30 = .ok (.athrow, 1) := by decide +kernel
theorem dX13_take_10 : decode cX13_take 10 = .ok (.aload_n 0, 1) := by decide +kernel
theorem dX13_take_11 : decode cX13_take 11 = .ok (.getfield 148, 3) := by decide +kernel
theorem tw_30 : (.fieldLink RX13 148 "PocketCompilerModel" "boundAt" "I" : Cond) ∈ tw_W := tw_in (t8_10 (List.mem_of_getElem? (i := 206) rfl)) rfl
theorem dX13_take_14 : decode cX13_take 14 = .ok (.aload_n 0, 1) := by decide +kernel
theorem dX13_take_15 : decode cX13_take 15 = .ok (.getfield 137, 3) := by decide +kernel
theorem dX13_take_18 : decode cX13_take 18 = .ok (.if_icmp .ne 13, 3) := by decide +kernel
theorem dX13_take_31 : decode cX13_take 31 = .ok (.aload_n 0, 1) := by decide +kernel
theorem dX13_take_32 : decode cX13_take 32 = .ok (.dup, 1) := by decide +kernel
theorem dX13_take_33 : decode cX13_take 33 = .ok (.getfield 137, 3) := by decide +kernel
theorem dX13_take_36 : decode cX13_take 36 = .ok (.iconst 1, 1) := by decide +kernel
theorem dX13_take_37 : decode cX13_take 37 = .ok (.iadd, 1) := by decide +kernel
theorem dX13_take_38 : decode cX13_take 38 = .ok (.putfield 137, 3) := by decide +kernel
theorem dX13_take_41 : decode cX13_take 41 = .ok (.return_, 1) := by decide +kernel
theorem dX13_opens_0 : decode cX13_opens 0 = .ok (.aload_n 0, 1) := by decide +kernel
theorem dX13_opens_1 : decode cX13_opens 1 = .ok (.getfield 151, 3) := by decide +kernel
theorem tw_31 : (.fieldLink RX13 151 "PocketCompilerModel" "opened" "I" : Cond) ∈ tw_W := tw_in (t8_10 (List.mem_of_getElem? (i := 205) rfl)) rfl
theorem dX13_opens_4 : decode cX13_opens 4 = .ok (.bipush 40, 2) := by decide +kernel
theorem dX13_opens_6 : decode cX13_opens 6 = .ok (.if_icmp .ne 11, 3) := by decide +kernel
theorem dX13_opens_17 : decode cX13_opens 17 = .ok (.aload_n 0, 1) := by decide +kernel
theorem dX13_opens_18 : decode cX13_opens 18 = .ok (.invokevirtual 154, 3) := by decide +kernel
theorem tw_32 : (.code yX13_take cX13_take 1 none : Cond) ∈ tw_W := tw_in (t8_9 (List.mem_of_getElem? (i := 148) rfl)) rfl
theorem tw_33 : ∀ w ∈ ([.methodLink RX13 154 yX13_take, .instanceMethod yX13_take, .selects RX13 yX13_take yX13_take, .initialized RX13] : List Cond), w ∈ tw_W := al_c (tw_in (t8_9 (List.mem_of_getElem? (i := 145) rfl)) rfl) (al_c (tw_in (t8_9 (List.mem_of_getElem? (i := 147) rfl)) rfl) (al_c (tw_in (t7_8 (q := (yX13_take, 124)) (List.mem_of_getElem? (i := 9) rfl)) rfl) (al_c (tw_in (t8_1 (List.mem_of_getElem? (i := 23) rfl)) rfl) al_n)))
theorem dX13_opens_21 : decode cX13_opens 21 = .ok (.aload_n 0, 1) := by decide +kernel
theorem dX13_opens_22 : decode cX13_opens 22 = .ok (.dup, 1) := by decide +kernel
theorem dX13_opens_23 : decode cX13_opens 23 = .ok (.getfield 151, 3) := by decide +kernel
theorem dX13_opens_26 : decode cX13_opens 26 = .ok (.iconst 1, 1) := by decide +kernel
theorem dX13_opens_27 : decode cX13_opens 27 = .ok (.iadd, 1) := by decide +kernel
theorem dX13_opens_28 : decode cX13_opens 28 = .ok (.putfield 151, 3) := by decide +kernel
theorem dX13_opens_31 : decode cX13_opens 31 = .ok (.return_, 1) := by decide +kernel
theorem dX13_opens_9 : decode cX13_opens 9 = .ok (.aload_n 0, 1) := by decide +kernel
theorem dX13_opens_10 : decode cX13_opens 10 = .ok (.aload_n 0, 1) := by decide +kernel
theorem dX13_opens_11 : decode cX13_opens 11 = .ok (.getfield 137, 3) := by decide +kernel
theorem dX13_opens_14 : decode cX13_opens 14 = .ok (.putfield 148, 3) := by decide +kernel
theorem dX13_need_0 : decode cX13_need 0 = .ok (.aload_n 0, 1) := by decide +kernel
theorem dX13_need_1 : decode cX13_need 1 = .ok (.iload_n 1, 1) := by decide +kernel
theorem dX13_need_2 : decode cX13_need 2 = .ok (.invokevirtual 158, 3) := by decide +kernel
theorem tw_34 : (.code yX13_is cX13_is 2 (some .boolean) : Cond) ∈ tw_W := tw_in (t8_9 (List.mem_of_getElem? (i := 176) rfl)) rfl
theorem tw_35 : ∀ w ∈ ([.methodLink RX13 158 yX13_is, .instanceMethod yX13_is, .selects RX13 yX13_is yX13_is, .initialized RX13] : List Cond), w ∈ tw_W := al_c (tw_in (t8_9 (List.mem_of_getElem? (i := 173) rfl)) rfl) (al_c (tw_in (t8_9 (List.mem_of_getElem? (i := 175) rfl)) rfl) (al_c (tw_in (t7_9 (q := (yX13_is, 124)) (List.mem_of_getElem? (i := 0) rfl)) rfl) (al_c (tw_in (t8_1 (List.mem_of_getElem? (i := 23) rfl)) rfl) al_n)))
theorem dX13_need_5 : decode cX13_need 5 = .ok (.ifCond .ne 8, 3) := by decide +kernel
theorem dX13_need_13 : decode cX13_need 13 = .ok (.aload_n 0, 1) := by decide +kernel
theorem dX13_need_14 : decode cX13_need 14 = .ok (.invokevirtual 154, 3) := by decide +kernel
theorem dX13_need_17 : decode cX13_need 17 = .ok (.return_, 1) := by decide +kernel
theorem dX13_need_8 : decode cX13_need 8 = .ok (.aload_n 0, 1) := by decide +kernel
theorem dX13_need_9 : decode cX13_need 9 = .ok (.invokevirtual 161, 3) := by decide +kernel
theorem tw_36 : (.code yX13_bad cX13_bad 1 (some (.object "PocketCompilerModel$Halt")) : Cond) ∈ tw_W := tw_in (t8_9 (List.mem_of_getElem? (i := 140) rfl)) rfl
theorem tw_37 : ∀ w ∈ ([.methodLink RX13 161 yX13_bad, .instanceMethod yX13_bad, .selects RX13 yX13_bad yX13_bad, .initialized RX13] : List Cond), w ∈ tw_W := al_c (tw_in (t8_9 (List.mem_of_getElem? (i := 137) rfl)) rfl) (al_c (tw_in (t8_9 (List.mem_of_getElem? (i := 139) rfl)) rfl) (al_c (tw_in (t7_8 (q := (yX13_bad, 124)) (List.mem_of_getElem? (i := 7) rfl)) rfl) (al_c (tw_in (t8_1 (List.mem_of_getElem? (i := 23) rfl)) rfl) al_n)))
theorem dX13_need_12 : decode cX13_need 12 = .ok (.athrow, 1) := by decide +kernel
theorem dX13_open_0 : decode cX13_open 0 = .ok (.aload_n 0, 1) := by decide +kernel
theorem dX13_open_1 : decode cX13_open 1 = .ok (.iload_n 1, 1) := by decide +kernel
theorem dX13_open_2 : decode cX13_open 2 = .ok (.invokevirtual 158, 3) := by decide +kernel
theorem dX13_open_5 : decode cX13_open 5 = .ok (.ifCond .ne 8, 3) := by decide +kernel
theorem dX13_open_13 : decode cX13_open 13 = .ok (.aload_n 0, 1) := by decide +kernel
theorem dX13_open_14 : decode cX13_open 14 = .ok (.invokevirtual 165, 3) := by decide +kernel
theorem tw_38 : (.code yX13_opens cX13_opens 1 none : Cond) ∈ tw_W := tw_in (t8_9 (List.mem_of_getElem? (i := 180) rfl)) rfl
theorem tw_39 : ∀ w ∈ ([.methodLink RX13 165 yX13_opens, .instanceMethod yX13_opens, .selects RX13 yX13_opens yX13_opens, .initialized RX13] : List Cond), w ∈ tw_W := al_c (tw_in (t8_9 (List.mem_of_getElem? (i := 177) rfl)) rfl) (al_c (tw_in (t8_9 (List.mem_of_getElem? (i := 179) rfl)) rfl) (al_c (tw_in (t7_9 (q := (yX13_opens, 124)) (List.mem_of_getElem? (i := 1) rfl)) rfl) (al_c (tw_in (t8_1 (List.mem_of_getElem? (i := 23) rfl)) rfl) al_n)))
theorem dX13_open_17 : decode cX13_open 17 = .ok (.return_, 1) := by decide +kernel
theorem dX13_open_8 : decode cX13_open 8 = .ok (.aload_n 0, 1) := by decide +kernel
theorem dX13_open_9 : decode cX13_open 9 = .ok (.invokevirtual 161, 3) := by decide +kernel
theorem dX13_open_12 : decode cX13_open 12 = .ok (.athrow, 1) := by decide +kernel
theorem dX13_close_0 : decode cX13_close 0 = .ok (.aload_n 0, 1) := by decide +kernel
theorem dX13_close_1 : decode cX13_close 1 = .ok (.iload_n 1, 1) := by decide +kernel
theorem dX13_close_2 : decode cX13_close 2 = .ok (.invokevirtual 168, 3) := by decide +kernel
theorem tw_40 : (.code yX13_need cX13_need 2 none : Cond) ∈ tw_W := tw_in (t8_9 (List.mem_of_getElem? (i := 196) rfl)) rfl
theorem tw_41 : ∀ w ∈ ([.methodLink RX13 168 yX13_need, .instanceMethod yX13_need, .selects RX13 yX13_need yX13_need, .initialized RX13] : List Cond), w ∈ tw_W := al_c (tw_in (t8_9 (List.mem_of_getElem? (i := 193) rfl)) rfl) (al_c (tw_in (t8_9 (List.mem_of_getElem? (i := 195) rfl)) rfl) (al_c (tw_in (t7_9 (q := (yX13_need, 124)) (List.mem_of_getElem? (i := 5) rfl)) rfl) (al_c (tw_in (t8_1 (List.mem_of_getElem? (i := 23) rfl)) rfl) al_n)))
theorem dX13_close_5 : decode cX13_close 5 = .ok (.aload_n 0, 1) := by decide +kernel
theorem dX13_close_6 : decode cX13_close 6 = .ok (.dup, 1) := by decide +kernel
theorem dX13_close_7 : decode cX13_close 7 = .ok (.getfield 151, 3) := by decide +kernel
theorem dX13_close_10 : decode cX13_close 10 = .ok (.iconst 1, 1) := by decide +kernel
theorem dX13_close_11 : decode cX13_close 11 = .ok (.isub, 1) := by decide +kernel
theorem dX13_close_12 : decode cX13_close 12 = .ok (.putfield 151, 3) := by decide +kernel
theorem dX13_close_15 : decode cX13_close 15 = .ok (.return_, 1) := by decide +kernel
theorem om_bf055a4924 {x0 : Int} (h0 : 0 ≤ x0 ∧ x0 < 4002) : 0 ≤ x0 := by omega
theorem om_8b13c17066 {x0 : Int} (h0 : 0 ≤ x0 ∧ x0 < 4002) : x0 < 4002 := by omega
set_option maxHeartbeats 4000000 in
set_option maxRecDepth 100000 in
theorem c_m_fail (l : Launch) (dC : Nat → ClassId) (dI : Nat → Nat → Nat) (cI cB cZ cJ cR : ClassId) (tb : Nat → Nat) (sz : Nat) (ad : Nat → Nat) (N : Nat) (v : MS) (pa : Int32) (pb : Int32) (zk : 0 ≤ pb.toInt ∧ pb.toInt < 4002) : Met l yX13_fail (Cond.code yX13_fail cX13_fail 3 (some (.object "PocketCompilerModel$Halt")) :: tw_W) ({ frames := 0, cells := 0, slots := 0, locals := 0 }) (pc_ (dC, dI) (tyS cI cB cZ cJ cR) tb (mW ad N cI cZ cJ v) sz [.ref (ad 0), .int pa, .int pb]) (qr_ (dC, dI) (mW ad N cI cZ cJ v) sz (fun (u : MS) => (wA (wA v 0 50 pa) 0 51 ((v.1 7) pb.toNatClampNeg)) = u) (fun (_ : MS) => ad 46) (fun (u : MS) => (mW ad N cI cZ cJ u))) 0 0 (va_A (mW ad N cI cZ cJ v) sz) := by
  refine Met.ofW (cc := cX13_fail) (maxL := 3) (ret := (some (.object "PocketCompilerModel$Halt"))) (by decide) rfl ?_
  intro p e s m args below meth c s₁ B hml hv
  obtain ⟨rfl, hsz, hP, hKK, hD0, hFx⟩ := hv
  have hK := hKK.1
  have hx := B.exec
  have hb := B.bytes
  have hr := B.returns
  have ht : ∀ w ∈ tw_W, w.before _ s = true := fun w h => atoms_spec (ws := Cond.code yX13_fail cX13_fail 3 (some (.object "PocketCompilerModel$Halt")) :: tw_W) B.pre w (List.mem_cons_of_mem _ h)
  have hown : s.vm.findClass RX13 = some m.cls := findClass_of_methodNamed B.named
  have hlocks := B.notSynchronized
  subst hsz
  unfold qr_
  have hD := hD0.self (sz := s.heap.size)
  generalize hAe : va_A (mW ad N cI cZ cJ v) s.heap.size = A at hD hFx ⊢
  have hA : ∀ q : Nat, s.heap.size ≤ q → A q := fun q h => by rw [← hAe]; exact Or.inr h
  have hS : va_S A s.heap s.heap [] := va_S.rf
  have hl := lv_entry ([.ref (ad 0), .int pa, .int pb]) (n := 3) (Nat.le_of_ble_eq_true rfl)
  rw [lg_entry_eq]
  generalize (lg_sl ([.ref (ad 0), .int pa, .int pb]) ++ List.replicate (3 - (lg_sl ([.ref (ad 0), .int pa, .int pb])).length) Slot.unset).toArray = ls at hl ⊢
  have hl : lv_has ls 3 [(0, .ref (ad 0)), (1, .int pa), (2, .int pb)] := hl
  refine lv_aload_n hx hb dX13_fail_0 rfl (lv_at hl 0 rfl) ?_
  refine lv_iload_n hx hb dX13_fail_1 rfl (lv_at hl 1 rfl) ?_
  refine va_put (D := (dC, dI)) (ci := 16) (fs := mF ad v) (v := .int pa) (ty := .int) (C := RX13) (T := TX13) (N := 124) hx hb ht itX13 tyX13 tyX13_ok nmX13 hown hK hP hD hS 0 rfl rfl 50 (by decide) (ht _ tw_19) (fun _ h9 => h9) rfl (by decide +kernel) rfl rfl (Nat.le_of_ble_eq_true rfl) dX13_fail_2 (fun H locs hP hD hS => ?_)
  have hP := cP_ (mw_50 ad N cI cZ cJ v pa) hP
  have hD := cD_ (mw_50 ad N cI cZ cJ v pa) hD
  refine lv_aload_n hx hb dX13_fail_5 rfl (lv_at hl 0 rfl) ?_
  refine lv_aload_n hx hb dX13_fail_6 rfl (lv_at hl 0 rfl) ?_
  refine va_get (D := (dC, dI)) (ci := 16) (fs := mF ad (wA v 0 50 pa)) (v := .ref (ad 7)) (C := RX13) (T := TX13) (N := 124) hx hb ht itX13 hown hK hP 0 rfl rfl 7 (by decide) (ht _ tw_20) (fun _ h9 => h9) rfl dX13_fail_7 ?_
  refine lv_iload_n hx hb dX13_fail_10 rfl (lv_at hl 2 rfl) ?_
  refine va_iald (D := (dC, dI)) (f := (v.1 7)) hx hb hK hP 4 0 rfl rfl (in_y (a := pb.toInt) (b := 4002) rfl (om_bf055a4924 zk) (om_8b13c17066 zk) rfl) dX13_fail_11 ?_
  refine va_put (D := (dC, dI)) (ci := 16) (fs := mF ad (wA v 0 50 pa)) (v := .int ((v.1 7) pb.toNatClampNeg)) (ty := .int) (C := RX13) (T := TX13) (N := 124) hx hb ht itX13 tyX13 tyX13_ok nmX13 hown hK hP hD hS 0 rfl rfl 51 (by decide) (ht _ tw_21) (fun _ h9 => h9) rfl (by decide +kernel) rfl rfl (Nat.le_of_ble_eq_true rfl) dX13_fail_12 (fun H locs hP hD hS => ?_)
  have hP := cP_ (mw_51 ad N cI cZ cJ (wA v 0 50 pa) ((v.1 7) pb.toNatClampNeg)) hP
  have hD := cD_ (mw_51 ad N cI cZ cJ (wA v 0 50 pa) ((v.1 7) pb.toNatClampNeg)) hD
  refine lv_aload_n hx hb dX13_fail_15 rfl (lv_at hl 0 rfl) ?_
  refine va_get (D := (dC, dI)) (ci := 16) (fs := mF ad (wA (wA v 0 50 pa) 0 51 ((v.1 7) pb.toNatClampNeg))) (v := .ref (ad 46)) (C := RX13) (T := TX13) (N := 124) hx hb ht itX13 hown hK hP 0 rfl rfl 46 (by decide) (ht _ tw_22) (fun _ h9 => h9) rfl dX13_fail_16 ?_
  exact W.aret (v := .ref (ad 46)) hx hb hr (Or.inl ⟨_, rfl⟩) (Or.inr ⟨_, rfl⟩) (fun t ht9 hW => ⟨⟨(wA (wA v 0 50 pa) 0 51 ((v.1 7) pb.toNatClampNeg)), (ad 46), rfl, rfl, rfl, by rw [ht9]; exact hP, hD⟩, hS.F ht9⟩) hS.2.2 dX13_fail_19
theorem om_0ea0e431d3 {x0 : Int} (h0 : 0 ≤ x0 ∧ x0 ≤ 1500) : 0 ≤ x0 := by omega
theorem om_449eb7e9bb {x0 : Int} (h0 : 0 ≤ x0 ∧ x0 ≤ 1500) : x0 < 4002 := by omega
theorem om_5c36fd3f9e {x0 : Int} (h0 : 0 ≤ x0 ∧ x0 ≤ 1500) : 0 ≤ x0 ∧ x0 < 4002 := by omega
set_option maxHeartbeats 4000000 in
set_option maxRecDepth 100000 in
theorem c_m_bad (l : Launch) (dC : Nat → ClassId) (dI : Nat → Nat → Nat) (cI cB cZ cJ cR : ClassId) (tb : Nat → Nat) (sz : Nat) (ad : Nat → Nat) (N : Nat) (v : MS)  (zt : 0 ≤ (v.1 0 47).toInt ∧ (v.1 0 47).toInt ≤ 1500) : Met l yX13_bad (Cond.code yX13_bad cX13_bad 1 (some (.object "PocketCompilerModel$Halt")) :: tw_W) ({ frames := 1, cells := 0, slots := 0, locals := 22 }) (pc_ (dC, dI) (tyS cI cB cZ cJ cR) tb (mW ad N cI cZ cJ v) sz [.ref (ad 0)]) (qr_ (dC, dI) (mW ad N cI cZ cJ v) sz (fun (u : MS) => FG [50, 51] [0] v u ∧ (Q_m_bad v u)) (fun (_ : MS) => ad 46) (fun (u : MS) => (mW ad N cI cZ cJ u))) 0 0 (va_A (mW ad N cI cZ cJ v) sz) := by
  refine Met.ofW (cc := cX13_bad) (maxL := 1) (ret := (some (.object "PocketCompilerModel$Halt"))) (by decide) rfl ?_
  intro p e s m args below meth c s₁ B hml hv
  obtain ⟨rfl, hsz, hP, hKK, hD0, hFx⟩ := hv
  have hK := hKK.1
  have hx := B.exec
  have hb := B.bytes
  have hr := B.returns
  have ht : ∀ w ∈ tw_W, w.before _ s = true := fun w h => atoms_spec (ws := Cond.code yX13_bad cX13_bad 1 (some (.object "PocketCompilerModel$Halt")) :: tw_W) B.pre w (List.mem_cons_of_mem _ h)
  have hown : s.vm.findClass RX13 = some m.cls := findClass_of_methodNamed B.named
  have hlocks := B.notSynchronized
  subst hsz
  unfold qr_
  have hD := hD0.self (sz := s.heap.size)
  generalize hAe : va_A (mW ad N cI cZ cJ v) s.heap.size = A at hD hFx ⊢
  have hA : ∀ q : Nat, s.heap.size ≤ q → A q := fun q h => by rw [← hAe]; exact Or.inr h
  have hS : va_S A s.heap s.heap [] := va_S.rf
  have hl := lv_entry ([.ref (ad 0)]) (n := 1) (Nat.le_of_ble_eq_true rfl)
  rw [lg_entry_eq]
  generalize (lg_sl ([.ref (ad 0)]) ++ List.replicate (1 - (lg_sl ([.ref (ad 0)])).length) Slot.unset).toArray = ls at hl ⊢
  have hl : lv_has ls 1 [(0, .ref (ad 0))] := hl
  refine lv_aload_n hx hb dX13_bad_0 rfl (lv_at hl 0 rfl) ?_
  refine lv_aload_n hx hb dX13_bad_1 rfl (lv_at hl 0 rfl) ?_
  refine va_get (D := (dC, dI)) (ci := 16) (fs := mF ad v) (v := .ref (ad 6)) (C := RX13) (T := TX13) (N := 124) hx hb ht itX13 hown hK hP 0 rfl rfl 6 (by decide) (ht _ tw_23) (fun _ h9 => h9) rfl dX13_bad_2 ?_
  refine lv_aload_n hx hb dX13_bad_5 rfl (lv_at hl 0 rfl) ?_
  refine va_get (D := (dC, dI)) (ci := 16) (fs := mF ad v) (v := .int (v.1 0 47)) (C := RX13) (T := TX13) (N := 124) hx hb ht itX13 hown hK hP 0 rfl rfl 47 (by decide) (ht _ tw_24) (fun _ h9 => h9) rfl dX13_bad_6 ?_
  refine va_iald (D := (dC, dI)) (f := (v.1 6)) hx hb hK hP 3 0 rfl rfl (in_y (a := (v.1 0 47).toInt) (b := 4002) rfl (om_0ea0e431d3 zt) (om_449eb7e9bb zt) rfl) dX13_bad_9 ?_
  refine lv_iconst (v := 1) hx hb dX13_bad_10 (by decide) ?_
  refine lv_icmp_ne (tgt := 18) hx hb dX13_bad_11 (by decide) (fun h1 => ?_) (fun h1 => ?_)
  · have z2 : ((v.1 6) (v.1 0 47).toNatClampNeg).toInt ≠ (1 : Int) := ne_z rfl (show (1 : Int32).toInt = (1 : Int) by decide) h1
    refine lv_iconst (v := 2) hx hb dX13_bad_18 (by decide) ?_
    refine lv_aload_n hx hb dX13_bad_19 rfl (lv_at hl 0 rfl) ?_
    refine va_get (D := (dC, dI)) (ci := 16) (fs := mF ad v) (v := .int (v.1 0 47)) (C := RX13) (T := TX13) (N := 124) hx hb ht itX13 hown hK hP 0 rfl rfl 47 (by decide) (ht _ tw_24) (fun _ h9 => h9) rfl dX13_bad_20 ?_
    refine cu_r (rn_V (n := 2) (As := [.int 2, .int (v.1 0 47)]) (rest := []) hx hb hml hown ht hKK hFx hP hD hS hA (c_m_fail l dC dI cI cB cZ cJ cR tb s.heap.size ad N v (2 : Int32) (v.1 0 47) (show 0 ≤ (v.1 0 47).toInt ∧ (v.1 0 47).toInt < 4002 from (om_5c36fd3f9e zt))) tw_25 tw_26 (by decide +kernel) rfl rfl ⟨Nat.le_of_ble_eq_true rfl, Nat.le_of_ble_eq_true rfl⟩ (List.range (mW ad N cI cZ cJ v).length) (rg_map _) (mW_nd _ _ _ _ _ _) rfl rfl rfl rfl hl.1 rfl (Nat.le_of_ble_eq_true rfl) dX13_bad_23 ⟨Nat.le_of_ble_eq_true rfl, Nat.le_of_ble_eq_true rfl⟩) hP hD hS hA (fun u4 H locs hw3 hP hD hS => ?_)
    obtain rfl := hw3
    have hP : va_P (dC, dI) vwCl (mW ad N cI cZ cJ (wA (wA v 0 50 (2 : Int32)) 0 51 ((v.1 7) (v.1 0 47).toNatClampNeg))) H := hP
    have hD : va_D A (mW ad N cI cZ cJ (wA (wA v 0 50 (2 : Int32)) 0 51 ((v.1 7) (v.1 0 47).toNatClampNeg))) := hD
    refine W.widen (k := 0) (n := 0) (Nat.le_refl _) (Nat.le_refl _) ?_
    exact W.aret (v := .ref (ad 46)) hx hb hr (Or.inl ⟨_, rfl⟩) (Or.inr ⟨_, rfl⟩) (fun t ht9 hW => ⟨⟨(wA (wA v 0 50 (2 : Int32)) 0 51 ((v.1 7) (v.1 0 47).toNatClampNeg)), (ad 46), rfl, ⟨(FG.f (FG.f (FG.rf _) (2 : Int32) (by decide)) ((v.1 7) (v.1 0 47).toNatClampNeg) (by decide)), ⟨zt, (Or.inl ⟨z2, rfl⟩)⟩⟩, rfl, by rw [ht9]; exact hP, hD⟩, hS.F ht9⟩) hS.2.2 dX13_bad_26
  · have z6 : ((v.1 6) (v.1 0 47).toNatClampNeg).toInt = (1 : Int) := eq_z rfl (show (1 : Int32).toInt = (1 : Int) by decide) h1
    refine lv_iconst (v := 1) hx hb dX13_bad_14 (by decide) ?_
    refine lv_goto (tgt := 19) hx hb dX13_bad_15 (by decide) ?_
    refine lv_aload_n hx hb dX13_bad_19 rfl (lv_at hl 0 rfl) ?_
    refine va_get (D := (dC, dI)) (ci := 16) (fs := mF ad v) (v := .int (v.1 0 47)) (C := RX13) (T := TX13) (N := 124) hx hb ht itX13 hown hK hP 0 rfl rfl 47 (by decide) (ht _ tw_24) (fun _ h9 => h9) rfl dX13_bad_20 ?_
    refine cu_r (rn_V (n := 2) (As := [.int 1, .int (v.1 0 47)]) (rest := []) hx hb hml hown ht hKK hFx hP hD hS hA (c_m_fail l dC dI cI cB cZ cJ cR tb s.heap.size ad N v (1 : Int32) (v.1 0 47) (show 0 ≤ (v.1 0 47).toInt ∧ (v.1 0 47).toInt < 4002 from (om_5c36fd3f9e zt))) tw_25 tw_26 (by decide +kernel) rfl rfl ⟨Nat.le_of_ble_eq_true rfl, Nat.le_of_ble_eq_true rfl⟩ (List.range (mW ad N cI cZ cJ v).length) (rg_map _) (mW_nd _ _ _ _ _ _) rfl rfl rfl rfl hl.1 rfl (Nat.le_of_ble_eq_true rfl) dX13_bad_23 ⟨Nat.le_of_ble_eq_true rfl, Nat.le_of_ble_eq_true rfl⟩) hP hD hS hA (fun u8 H locs hw7 hP hD hS => ?_)
    obtain rfl := hw7
    have hP : va_P (dC, dI) vwCl (mW ad N cI cZ cJ (wA (wA v 0 50 (1 : Int32)) 0 51 ((v.1 7) (v.1 0 47).toNatClampNeg))) H := hP
    have hD : va_D A (mW ad N cI cZ cJ (wA (wA v 0 50 (1 : Int32)) 0 51 ((v.1 7) (v.1 0 47).toNatClampNeg))) := hD
    refine W.widen (k := 0) (n := 0) (Nat.le_refl _) (Nat.le_refl _) ?_
    exact W.aret (v := .ref (ad 46)) hx hb hr (Or.inl ⟨_, rfl⟩) (Or.inr ⟨_, rfl⟩) (fun t ht9 hW => ⟨⟨(wA (wA v 0 50 (1 : Int32)) 0 51 ((v.1 7) (v.1 0 47).toNatClampNeg)), (ad 46), rfl, ⟨(FG.f (FG.f (FG.rf _) (1 : Int32) (by decide)) ((v.1 7) (v.1 0 47).toNatClampNeg) (by decide)), ⟨zt, (Or.inr (⟨z6, rfl⟩))⟩⟩, rfl, by rw [ht9]; exact hP, hD⟩, hS.F ht9⟩) hS.2.2 dX13_bad_26
set_option maxHeartbeats 4000000 in
set_option maxRecDepth 100000 in
theorem c_m_isSign (l : Launch) (dC : Nat → ClassId) (dI : Nat → Nat → Nat) (cI cB cZ cJ cR : ClassId) (tb : Nat → Nat) (sz : Nat) (ad : Nat → Nat) (N : Nat) (v : MS) (pa : Int32) (pb : Int32) (zk : 0 ≤ pa.toInt ∧ pa.toInt < 4002) : Met l yX13_isSign (Cond.code yX13_isSign cX13_isSign 3 (some .boolean) :: tw_W) ({ frames := 0, cells := 0, slots := 0, locals := 0 }) (pc_ (dC, dI) (tyS cI cB cZ cJ cR) tb (mW ad N cI cZ cJ v) sz [.ref (ad 0), .int pa, .int pb]) (qi_ (dC, dI) (mW ad N cI cZ cJ v) sz (fun (r : Int32) (u : MS) => v = u ∧ (Q_m_isSign v pa pb r) ∧ (r = 0 ∨ r = 1) ∧ 0 ≤ r.toInt ∧ r.toInt ≤ 1) (fun (u : MS) => (mW ad N cI cZ cJ u))) 0 0 (va_A (mW ad N cI cZ cJ v) sz) := by
  refine Met.ofW (cc := cX13_isSign) (maxL := 3) (ret := (some .boolean)) (by decide) rfl ?_
  intro p e s m args below meth c s₁ B hml hv
  obtain ⟨rfl, hsz, hP, hKK, hD0, hFx⟩ := hv
  have hK := hKK.1
  have hx := B.exec
  have hb := B.bytes
  have hr := B.returns
  have ht : ∀ w ∈ tw_W, w.before _ s = true := fun w h => atoms_spec (ws := Cond.code yX13_isSign cX13_isSign 3 (some .boolean) :: tw_W) B.pre w (List.mem_cons_of_mem _ h)
  have hown : s.vm.findClass RX13 = some m.cls := findClass_of_methodNamed B.named
  have hlocks := B.notSynchronized
  subst hsz
  unfold qi_
  have hD := hD0.self (sz := s.heap.size)
  generalize hAe : va_A (mW ad N cI cZ cJ v) s.heap.size = A at hD hFx ⊢
  have hA : ∀ q : Nat, s.heap.size ≤ q → A q := fun q h => by rw [← hAe]; exact Or.inr h
  have hS : va_S A s.heap s.heap [] := va_S.rf
  have hl := lv_entry ([.ref (ad 0), .int pa, .int pb]) (n := 3) (Nat.le_of_ble_eq_true rfl)
  rw [lg_entry_eq]
  generalize (lg_sl ([.ref (ad 0), .int pa, .int pb]) ++ List.replicate (3 - (lg_sl ([.ref (ad 0), .int pa, .int pb])).length) Slot.unset).toArray = ls at hl ⊢
  have hl : lv_has ls 3 [(0, .ref (ad 0)), (1, .int pa), (2, .int pb)] := hl
  refine lv_aload_n hx hb dX13_isSign_0 rfl (lv_at hl 0 rfl) ?_
  refine va_get (D := (dC, dI)) (ci := 16) (fs := mF ad v) (v := .ref (ad 6)) (C := RX13) (T := TX13) (N := 124) hx hb ht itX13 hown hK hP 0 rfl rfl 6 (by decide) (ht _ tw_23) (fun _ h9 => h9) rfl dX13_isSign_1 ?_
  refine lv_iload_n hx hb dX13_isSign_4 rfl (lv_at hl 1 rfl) ?_
  refine va_iald (D := (dC, dI)) (f := (v.1 6)) hx hb hK hP 3 0 rfl rfl (in_y (a := pa.toInt) (b := 4002) rfl (om_bf055a4924 zk) (om_8b13c17066 zk) rfl) dX13_isSign_5 ?_
  refine lv_iconst (v := 5) hx hb dX13_isSign_6 (by decide) ?_
  refine lv_icmp_ne (tgt := 26) hx hb dX13_isSign_7 (by decide) (fun h1 => ?_) (fun h1 => ?_)
  · have z2 : ((v.1 6) pa.toNatClampNeg).toInt ≠ (5 : Int) := ne_z rfl (show (5 : Int32).toInt = (5 : Int) by decide) h1
    refine lv_iconst (v := 0) hx hb dX13_isSign_26 (by decide) ?_
    exact W.zret (v := 0) hx hb hr rfl (fun t ht9 hW => ⟨⟨0, v, rfl, ⟨rfl, ⟨zk, (Or.inl ⟨z2, rfl⟩)⟩, ⟨Or.inl rfl, (by decide)⟩⟩, by rw [ht9]; exact hP, hD⟩, hS.F ht9⟩) hS.2.2 dX13_isSign_27
  · have z3 : ((v.1 6) pa.toNatClampNeg).toInt = (5 : Int) := eq_z rfl (show (5 : Int32).toInt = (5 : Int) by decide) h1
    refine lv_aload_n hx hb dX13_isSign_10 rfl (lv_at hl 0 rfl) ?_
    refine va_get (D := (dC, dI)) (ci := 16) (fs := mF ad v) (v := .ref (ad 9)) (C := RX13) (T := TX13) (N := 124) hx hb ht itX13 hown hK hP 0 rfl rfl 9 (by decide) (ht _ tw_27) (fun _ h9 => h9) rfl dX13_isSign_11 ?_
    refine lv_iload_n hx hb dX13_isSign_14 rfl (lv_at hl 1 rfl) ?_
    refine va_lald (D := (dC, dI)) (f := v.2) hx hb hK hP 6 3 rfl rfl (in_y (a := pa.toInt) (b := 4002) rfl (om_bf055a4924 zk) (om_8b13c17066 zk) rfl) dX13_isSign_15 ?_
    refine lv_iload_n hx hb dX13_isSign_16 rfl (lv_at hl 2 rfl) ?_
    refine lv_i2l hx hb dX13_isSign_17 rfl ?_
    refine W.lcmp hx hb dX13_isSign_18 ?_
    refine lv_if_ne (tgt := 26) hx hb dX13_isSign_19 (by decide) (fun h4 => ?_) (fun h4 => ?_)
    · have z5 : (lg_cmp (v.2 pa.toNatClampNeg) (pb).toInt64).toInt ≠ (0 : Int) := ne_z rfl (show (0 : Int32).toInt = (0 : Int) by decide) h4
      refine lv_iconst (v := 0) hx hb dX13_isSign_26 (by decide) ?_
      exact W.zret (v := 0) hx hb hr rfl (fun t ht9 hW => ⟨⟨0, v, rfl, ⟨rfl, ⟨zk, (Or.inr (⟨z3, (Or.inl ⟨z5, rfl⟩)⟩))⟩, ⟨Or.inl rfl, (by decide)⟩⟩, by rw [ht9]; exact hP, hD⟩, hS.F ht9⟩) hS.2.2 dX13_isSign_27
    · have z6 : (lg_cmp (v.2 pa.toNatClampNeg) (pb).toInt64).toInt = (0 : Int) := eq_z rfl (show (0 : Int32).toInt = (0 : Int) by decide) h4
      refine lv_iconst (v := 1) hx hb dX13_isSign_22 (by decide) ?_
      refine lv_goto (tgt := 27) hx hb dX13_isSign_23 (by decide) ?_
      exact W.zret (v := 1) hx hb hr rfl (fun t ht9 hW => ⟨⟨1, v, rfl, ⟨rfl, ⟨zk, (Or.inr (⟨z3, (Or.inr (⟨z6, rfl⟩))⟩))⟩, ⟨Or.inr rfl, (by decide)⟩⟩, by rw [ht9]; exact hP, hD⟩, hS.F ht9⟩) hS.2.2 dX13_isSign_27
set_option maxHeartbeats 4000000 in
set_option maxRecDepth 100000 in
theorem c_m_is (l : Launch) (dC : Nat → ClassId) (dI : Nat → Nat → Nat) (cI cB cZ cJ cR : ClassId) (tb : Nat → Nat) (sz : Nat) (ad : Nat → Nat) (N : Nat) (v : MS) (pa : Int32) (zt : 0 ≤ (v.1 0 47).toInt ∧ (v.1 0 47).toInt ≤ 1500) : Met l yX13_is (Cond.code yX13_is cX13_is 2 (some .boolean) :: tw_W) ({ frames := 1, cells := 0, slots := 0, locals := 22 }) (pc_ (dC, dI) (tyS cI cB cZ cJ cR) tb (mW ad N cI cZ cJ v) sz [.ref (ad 0), .int pa]) (qi_ (dC, dI) (mW ad N cI cZ cJ v) sz (fun (r : Int32) (u : MS) => v = u ∧ (Q_m_is v pa r) ∧ (r = 0 ∨ r = 1) ∧ 0 ≤ r.toInt ∧ r.toInt ≤ 1) (fun (u : MS) => (mW ad N cI cZ cJ u))) 0 0 (va_A (mW ad N cI cZ cJ v) sz) := by
  refine Met.ofW (cc := cX13_is) (maxL := 2) (ret := (some .boolean)) (by decide) rfl ?_
  intro p e s m args below meth c s₁ B hml hv
  obtain ⟨rfl, hsz, hP, hKK, hD0, hFx⟩ := hv
  have hK := hKK.1
  have hx := B.exec
  have hb := B.bytes
  have hr := B.returns
  have ht : ∀ w ∈ tw_W, w.before _ s = true := fun w h => atoms_spec (ws := Cond.code yX13_is cX13_is 2 (some .boolean) :: tw_W) B.pre w (List.mem_cons_of_mem _ h)
  have hown : s.vm.findClass RX13 = some m.cls := findClass_of_methodNamed B.named
  have hlocks := B.notSynchronized
  subst hsz
  unfold qi_
  have hD := hD0.self (sz := s.heap.size)
  generalize hAe : va_A (mW ad N cI cZ cJ v) s.heap.size = A at hD hFx ⊢
  have hA : ∀ q : Nat, s.heap.size ≤ q → A q := fun q h => by rw [← hAe]; exact Or.inr h
  have hS : va_S A s.heap s.heap [] := va_S.rf
  have hl := lv_entry ([.ref (ad 0), .int pa]) (n := 2) (Nat.le_of_ble_eq_true rfl)
  rw [lg_entry_eq]
  generalize (lg_sl ([.ref (ad 0), .int pa]) ++ List.replicate (2 - (lg_sl ([.ref (ad 0), .int pa])).length) Slot.unset).toArray = ls at hl ⊢
  have hl : lv_has ls 2 [(0, .ref (ad 0)), (1, .int pa)] := hl
  refine lv_aload_n hx hb dX13_is_0 rfl (lv_at hl 0 rfl) ?_
  refine lv_aload_n hx hb dX13_is_1 rfl (lv_at hl 0 rfl) ?_
  refine va_get (D := (dC, dI)) (ci := 16) (fs := mF ad v) (v := .int (v.1 0 47)) (C := RX13) (T := TX13) (N := 124) hx hb ht itX13 hown hK hP 0 rfl rfl 47 (by decide) (ht _ tw_24) (fun _ h9 => h9) rfl dX13_is_2 ?_
  refine lv_iload_n hx hb dX13_is_5 rfl (lv_at hl 1 rfl) ?_
  refine cu_i (rn_V (n := 2) (As := [.int (v.1 0 47), .int pa]) (rest := []) hx hb hml hown ht hKK hFx hP hD hS hA (c_m_isSign l dC dI cI cB cZ cJ cR tb s.heap.size ad N v (v.1 0 47) pa (show 0 ≤ (v.1 0 47).toInt ∧ (v.1 0 47).toInt < 4002 from (om_5c36fd3f9e zt))) tw_28 tw_29 (by decide +kernel) rfl rfl ⟨Nat.le_of_ble_eq_true rfl, Nat.le_of_ble_eq_true rfl⟩ (List.range (mW ad N cI cZ cJ v).length) (rg_map _) (mW_nd _ _ _ _ _ _) rfl rfl rfl rfl hl.1 rfl (Nat.le_of_ble_eq_true rfl) dX13_is_6 ⟨Nat.le_of_ble_eq_true rfl, Nat.le_of_ble_eq_true rfl⟩) hP hD hS hA (fun r3 u2 H locs hw1 hP hD hS => ?_)
  obtain ⟨rfl, ex1, b1, e1⟩ := hw1
  refine W.widen (k := 0) (n := 0) (Nat.le_refl _) (Nat.le_refl _) ?_
  exact W.zret (v := r3) hx hb hr (bz_ b1) (fun t ht9 hW => ⟨⟨r3, v, rfl, ⟨rfl, ⟨zt, r3, ex1, ⟨b1, e1⟩, rfl⟩, ⟨b1, (b01_ b1)⟩⟩, by rw [ht9]; exact hP, hD⟩, hS.F ht9⟩) hS.2.2 dX13_is_9
set_option maxHeartbeats 4000000 in
set_option maxRecDepth 100000 in
theorem c_m_isKey (l : Launch) (dC : Nat → ClassId) (dI : Nat → Nat → Nat) (cI cB cZ cJ cR : ClassId) (tb : Nat → Nat) (sz : Nat) (ad : Nat → Nat) (N : Nat) (v : MS) (pa : Int32) (zt : 0 ≤ (v.1 0 47).toInt ∧ (v.1 0 47).toInt ≤ 1500) : Met l yX13_isKey (Cond.code yX13_isKey cX13_isKey 2 (some .boolean) :: tw_W) ({ frames := 0, cells := 0, slots := 0, locals := 0 }) (pc_ (dC, dI) (tyS cI cB cZ cJ cR) tb (mW ad N cI cZ cJ v) sz [.ref (ad 0), .int pa]) (qi_ (dC, dI) (mW ad N cI cZ cJ v) sz (fun (r : Int32) (u : MS) => v = u ∧ (Q_m_isKey v pa r) ∧ (r = 0 ∨ r = 1) ∧ 0 ≤ r.toInt ∧ r.toInt ≤ 1) (fun (u : MS) => (mW ad N cI cZ cJ u))) 0 0 (va_A (mW ad N cI cZ cJ v) sz) := by
  refine Met.ofW (cc := cX13_isKey) (maxL := 2) (ret := (some .boolean)) (by decide) rfl ?_
  intro p e s m args below meth c s₁ B hml hv
  obtain ⟨rfl, hsz, hP, hKK, hD0, hFx⟩ := hv
  have hK := hKK.1
  have hx := B.exec
  have hb := B.bytes
  have hr := B.returns
  have ht : ∀ w ∈ tw_W, w.before _ s = true := fun w h => atoms_spec (ws := Cond.code yX13_isKey cX13_isKey 2 (some .boolean) :: tw_W) B.pre w (List.mem_cons_of_mem _ h)
  have hown : s.vm.findClass RX13 = some m.cls := findClass_of_methodNamed B.named
  have hlocks := B.notSynchronized
  subst hsz
  unfold qi_
  have hD := hD0.self (sz := s.heap.size)
  generalize hAe : va_A (mW ad N cI cZ cJ v) s.heap.size = A at hD hFx ⊢
  have hA : ∀ q : Nat, s.heap.size ≤ q → A q := fun q h => by rw [← hAe]; exact Or.inr h
  have hS : va_S A s.heap s.heap [] := va_S.rf
  have hl := lv_entry ([.ref (ad 0), .int pa]) (n := 2) (Nat.le_of_ble_eq_true rfl)
  rw [lg_entry_eq]
  generalize (lg_sl ([.ref (ad 0), .int pa]) ++ List.replicate (2 - (lg_sl ([.ref (ad 0), .int pa])).length) Slot.unset).toArray = ls at hl ⊢
  have hl : lv_has ls 2 [(0, .ref (ad 0)), (1, .int pa)] := hl
  refine lv_aload_n hx hb dX13_isKey_0 rfl (lv_at hl 0 rfl) ?_
  refine va_get (D := (dC, dI)) (ci := 16) (fs := mF ad v) (v := .ref (ad 6)) (C := RX13) (T := TX13) (N := 124) hx hb ht itX13 hown hK hP 0 rfl rfl 6 (by decide) (ht _ tw_23) (fun _ h9 => h9) rfl dX13_isKey_1 ?_
  refine lv_aload_n hx hb dX13_isKey_4 rfl (lv_at hl 0 rfl) ?_
  refine va_get (D := (dC, dI)) (ci := 16) (fs := mF ad v) (v := .int (v.1 0 47)) (C := RX13) (T := TX13) (N := 124) hx hb ht itX13 hown hK hP 0 rfl rfl 47 (by decide) (ht _ tw_24) (fun _ h9 => h9) rfl dX13_isKey_5 ?_
  refine va_iald (D := (dC, dI)) (f := (v.1 6)) hx hb hK hP 3 0 rfl rfl (in_y (a := (v.1 0 47).toInt) (b := 4002) rfl (om_0ea0e431d3 zt) (om_449eb7e9bb zt) rfl) dX13_isKey_8 ?_
  refine lv_iconst (v := 3) hx hb dX13_isKey_9 (by decide) ?_
  refine lv_icmp_ne (tgt := 32) hx hb dX13_isKey_10 (by decide) (fun h1 => ?_) (fun h1 => ?_)
  · have z2 : ((v.1 6) (v.1 0 47).toNatClampNeg).toInt ≠ (3 : Int) := ne_z rfl (show (3 : Int32).toInt = (3 : Int) by decide) h1
    refine lv_iconst (v := 0) hx hb dX13_isKey_32 (by decide) ?_
    exact W.zret (v := 0) hx hb hr rfl (fun t ht9 hW => ⟨⟨0, v, rfl, ⟨rfl, ⟨zt, (Or.inl ⟨z2, rfl⟩)⟩, ⟨Or.inl rfl, (by decide)⟩⟩, by rw [ht9]; exact hP, hD⟩, hS.F ht9⟩) hS.2.2 dX13_isKey_33
  · have z3 : ((v.1 6) (v.1 0 47).toNatClampNeg).toInt = (3 : Int) := eq_z rfl (show (3 : Int32).toInt = (3 : Int) by decide) h1
    refine lv_aload_n hx hb dX13_isKey_13 rfl (lv_at hl 0 rfl) ?_
    refine va_get (D := (dC, dI)) (ci := 16) (fs := mF ad v) (v := .ref (ad 9)) (C := RX13) (T := TX13) (N := 124) hx hb ht itX13 hown hK hP 0 rfl rfl 9 (by decide) (ht _ tw_27) (fun _ h9 => h9) rfl dX13_isKey_14 ?_
    refine lv_aload_n hx hb dX13_isKey_17 rfl (lv_at hl 0 rfl) ?_
    refine va_get (D := (dC, dI)) (ci := 16) (fs := mF ad v) (v := .int (v.1 0 47)) (C := RX13) (T := TX13) (N := 124) hx hb ht itX13 hown hK hP 0 rfl rfl 47 (by decide) (ht _ tw_24) (fun _ h9 => h9) rfl dX13_isKey_18 ?_
    refine va_lald (D := (dC, dI)) (f := v.2) hx hb hK hP 6 3 rfl rfl (in_y (a := (v.1 0 47).toInt) (b := 4002) rfl (om_0ea0e431d3 zt) (om_449eb7e9bb zt) rfl) dX13_isKey_21 ?_
    refine lv_iload_n hx hb dX13_isKey_22 rfl (lv_at hl 1 rfl) ?_
    refine lv_i2l hx hb dX13_isKey_23 rfl ?_
    refine W.lcmp hx hb dX13_isKey_24 ?_
    refine lv_if_ne (tgt := 32) hx hb dX13_isKey_25 (by decide) (fun h4 => ?_) (fun h4 => ?_)
    · have z5 : (lg_cmp (v.2 (v.1 0 47).toNatClampNeg) (pa).toInt64).toInt ≠ (0 : Int) := ne_z rfl (show (0 : Int32).toInt = (0 : Int) by decide) h4
      refine lv_iconst (v := 0) hx hb dX13_isKey_32 (by decide) ?_
      exact W.zret (v := 0) hx hb hr rfl (fun t ht9 hW => ⟨⟨0, v, rfl, ⟨rfl, ⟨zt, (Or.inr (⟨z3, (Or.inl ⟨z5, rfl⟩)⟩))⟩, ⟨Or.inl rfl, (by decide)⟩⟩, by rw [ht9]; exact hP, hD⟩, hS.F ht9⟩) hS.2.2 dX13_isKey_33
    · have z6 : (lg_cmp (v.2 (v.1 0 47).toNatClampNeg) (pa).toInt64).toInt = (0 : Int) := eq_z rfl (show (0 : Int32).toInt = (0 : Int) by decide) h4
      refine lv_iconst (v := 1) hx hb dX13_isKey_28 (by decide) ?_
      refine lv_goto (tgt := 33) hx hb dX13_isKey_29 (by decide) ?_
      exact W.zret (v := 1) hx hb hr rfl (fun t ht9 hW => ⟨⟨1, v, rfl, ⟨rfl, ⟨zt, (Or.inr (⟨z3, (Or.inr (⟨z6, rfl⟩))⟩))⟩, ⟨Or.inr rfl, (by decide)⟩⟩, by rw [ht9]; exact hP, hD⟩, hS.F ht9⟩) hS.2.2 dX13_isKey_33
theorem om_a8faba3332 {x0 : Int} (h0 : 0 ≤ x0 ∧ x0 ≤ 1500) (h1 : (1500 : Int) ≤ x0) : 0 ≤ x0 ∧ x0 < 4002 := by omega
theorem om_ecb8303fc5 {x0 : Int} (h0 : 0 ≤ x0 ∧ x0 ≤ 1500) : -2147483648 ≤ (x0) + (1 : Int) := by omega
theorem om_27eb55d06c {x0 : Int} (h0 : 0 ≤ x0 ∧ x0 ≤ 1500) : (x0) + (1 : Int) < 2147483648 := by omega
theorem om_166d9609e1 {x0 x1 : Int} (h0 : x0 < (1500 : Int)) (h1 : x1 ≠ x0) : x0 < 1500 ∧ x1 ≠ x0 := by omega
theorem om_1a0054a28c {x0 : Int} (h0 : 0 ≤ x0 ∧ x0 ≤ 1500) (h1 : x0 < (1500 : Int)) : 0 ≤ x0 ∧ x0 < 4002 := by omega
set_option maxHeartbeats 4000000 in
set_option maxRecDepth 100000 in
theorem c_m_take (l : Launch) (dC : Nat → ClassId) (dI : Nat → Nat → Nat) (cI cB cZ cJ cR : ClassId) (tb : Nat → Nat) (sz : Nat) (ad : Nat → Nat) (N : Nat) (v : MS)  (zt : 0 ≤ (v.1 0 47).toInt ∧ (v.1 0 47).toInt ≤ 1500) : vx_Met l yX13_take (Cond.code yX13_take cX13_take 1 none :: tw_W) ({ frames := 1, cells := 0, slots := 0, locals := 22 }) (pc_ (dC, dI) (tyS cI cB cZ cJ cR) tb (mW ad N cI cZ cJ v) sz [.ref (ad 0)]) (qv_ (dC, dI) (mW ad N cI cZ cJ v) sz (fun (u : MS) => (wA v 0 47 ((v.1 0 47) + (1 : Int32))) = u ∧ (Q_m_take v false u) ∧ (v.1 0 47).toInt < 1500 ∧ (v.1 0 49).toInt ≠ (v.1 0 47).toInt) (fun (u : MS) => (mW ad N cI cZ cJ u))) (qxm (dC, dI) (mW ad N cI cZ cJ v) sz (fun (u : MS) => (mW ad N cI cZ cJ u)) (fun (u : MS) => Fr v u ∧ (IV v → IV u) ∧ (Q_m_take v true u))) 0 0 (va_A (mW ad N cI cZ cJ v) sz) := by
  refine vx_ofW (cc := cX13_take) (maxL := 1) (ret := none) (by decide) rfl ?_
  intro p e s m args below meth c s₁ B hml hnt hv
  obtain ⟨rfl, hsz, hP, hKK, hD0, hFx⟩ := hv
  have hK := hKK.1
  have hx := B.exec
  have hb := B.bytes
  have hr := B.returns
  have ht : ∀ w ∈ tw_W, w.before _ s = true := fun w h => atoms_spec (ws := Cond.code yX13_take cX13_take 1 none :: tw_W) B.pre w (List.mem_cons_of_mem _ h)
  have hown : s.vm.findClass RX13 = some m.cls := findClass_of_methodNamed B.named
  have hlocks := B.notSynchronized
  subst hsz
  unfold qv_ qxm
  have hD := hD0.self (sz := s.heap.size)
  generalize hAe : va_A (mW ad N cI cZ cJ v) s.heap.size = A at hD hFx ⊢
  have hA : ∀ q : Nat, s.heap.size ≤ q → A q := fun q h => by rw [← hAe]; exact Or.inr h
  have hS : va_S A s.heap s.heap [] := va_S.rf
  have hl := lv_entry ([.ref (ad 0)]) (n := 1) (Nat.le_of_ble_eq_true rfl)
  rw [lg_entry_eq]
  generalize (lg_sl ([.ref (ad 0)]) ++ List.replicate (1 - (lg_sl ([.ref (ad 0)])).length) Slot.unset).toArray = ls at hl ⊢
  have hl : lv_has ls 1 [(0, .ref (ad 0))] := hl
  refine lv_aload_n hx hb dX13_take_0 rfl (lv_at hl 0 rfl) ?_
  refine va_get (D := (dC, dI)) (ci := 16) (fs := mF ad v) (v := .int (v.1 0 47)) (C := RX13) (T := TX13) (N := 124) hx hb ht itX13 hown hK hP 0 rfl rfl 47 (by decide) (ht _ tw_24) (fun _ h9 => h9) rfl dX13_take_1 ?_
  refine lv_sipush (v := 1500) hx hb dX13_take_4 (by decide) ?_
  refine lv_icmp_ge (tgt := 21) hx hb dX13_take_7 (by decide) (fun h1 => ?_) (fun h1 => ?_)
  · have z2 : (1500 : Int) ≤ (v.1 0 47).toInt := le_z (show (1500 : Int32).toInt = (1500 : Int) by decide) rfl h1
    refine lv_aload_n hx hb dX13_take_21 rfl (lv_at hl 0 rfl) ?_
    refine lv_iconst (v := 5) hx hb dX13_take_22 (by decide) ?_
    refine lv_aload_n hx hb dX13_take_23 rfl (lv_at hl 0 rfl) ?_
    refine va_get (D := (dC, dI)) (ci := 16) (fs := mF ad v) (v := .int (v.1 0 47)) (C := RX13) (T := TX13) (N := 124) hx hb ht itX13 hown hK hP 0 rfl rfl 47 (by decide) (ht _ tw_24) (fun _ h9 => h9) rfl dX13_take_24 ?_
    refine cu_r (rn_V (n := 2) (As := [.int 5, .int (v.1 0 47)]) (rest := []) hx hb hml hown ht hKK hFx hP hD hS hA (c_m_fail l dC dI cI cB cZ cJ cR tb s.heap.size ad N v (5 : Int32) (v.1 0 47) (show 0 ≤ (v.1 0 47).toInt ∧ (v.1 0 47).toInt < 4002 from (om_a8faba3332 zt z2))) tw_25 tw_26 (by decide +kernel) rfl rfl ⟨Nat.le_of_ble_eq_true rfl, Nat.le_of_ble_eq_true rfl⟩ (List.range (mW ad N cI cZ cJ v).length) (rg_map _) (mW_nd _ _ _ _ _ _) rfl rfl rfl rfl hl.1 rfl (Nat.le_of_ble_eq_true rfl) dX13_take_27 ⟨Nat.le_of_ble_eq_true rfl, Nat.le_of_ble_eq_true rfl⟩) hP hD hS hA (fun u4 H locs hw3 hP hD hS => ?_)
    obtain rfl := hw3
    have hP : va_P (dC, dI) vwCl (mW ad N cI cZ cJ (wA (wA v 0 50 (5 : Int32)) 0 51 ((v.1 7) (v.1 0 47).toNatClampNeg))) H := hP
    have hD : va_D A (mW ad N cI cZ cJ (wA (wA v 0 50 (5 : Int32)) 0 51 ((v.1 7) (v.1 0 47).toNatClampNeg))) := hD
    refine W.widen (k := 0) (n := 0) (Nat.le_refl _) (Nat.le_refl _) ?_
    obtain ⟨ce9, hc9, hv9, hf9⟩ := halt_at hK hP
    refine um_athrow hx hb dX13_take_30 ?_
    exact vx_out (fun x h9 => (hnt x h9).elim) hlocks hc9 hv9 hf9 (fun t9 ht9 hv8 => ⟨(wA (wA v 0 50 (5 : Int32)) 0 51 ((v.1 7) (v.1 0 47).toNatClampNeg)), ⟨(FG.f (FG.f (FG.rf _) (5 : Int32) (by decide)) ((v.1 7) (v.1 0 47).toNatClampNeg) (by decide)), fun hiv => (IV.o (IV.o hiv (by decide)) (by decide)), ⟨zt, (Or.inl ⟨z2, rfl, rfl⟩)⟩⟩, ⟨rfl, by rw [ht9]; exact hP, hD⟩, hS.F ht9⟩) hS.2.2 (Nat.le_refl _) (Nat.le_refl _)
  · have z6 : (v.1 0 47).toInt < (1500 : Int) := nle_z (show (1500 : Int32).toInt = (1500 : Int) by decide) rfl h1
    refine lv_aload_n hx hb dX13_take_10 rfl (lv_at hl 0 rfl) ?_
    refine va_get (D := (dC, dI)) (ci := 16) (fs := mF ad v) (v := .int (v.1 0 49)) (C := RX13) (T := TX13) (N := 124) hx hb ht itX13 hown hK hP 0 rfl rfl 49 (by decide) (ht _ tw_30) (fun _ h9 => h9) rfl dX13_take_11 ?_
    refine lv_aload_n hx hb dX13_take_14 rfl (lv_at hl 0 rfl) ?_
    refine va_get (D := (dC, dI)) (ci := 16) (fs := mF ad v) (v := .int (v.1 0 47)) (C := RX13) (T := TX13) (N := 124) hx hb ht itX13 hown hK hP 0 rfl rfl 47 (by decide) (ht _ tw_24) (fun _ h9 => h9) rfl dX13_take_15 ?_
    refine lv_icmp_ne (tgt := 31) hx hb dX13_take_18 (by decide) (fun h7 => ?_) (fun h7 => ?_)
    · have z8 : (v.1 0 49).toInt ≠ (v.1 0 47).toInt := ne_z rfl rfl h7
      refine lv_aload_n hx hb dX13_take_31 rfl (lv_at hl 0 rfl) ?_
      refine lv_dup hx hb dX13_take_32 rfl ?_
      refine va_get (D := (dC, dI)) (ci := 16) (fs := mF ad v) (v := .int (v.1 0 47)) (C := RX13) (T := TX13) (N := 124) hx hb ht itX13 hown hK hP 0 rfl rfl 47 (by decide) (ht _ tw_24) (fun _ h9 => h9) rfl dX13_take_33 ?_
      refine lv_iconst (v := 1) hx hb dX13_take_36 (by decide) ?_
      refine lv_iadd hx hb dX13_take_37 ?_
      have z9 : ((v.1 0 47) + (1 : Int32)).toInt = ((v.1 0 47).toInt) + (1 : Int) := add_z rfl (show (1 : Int32).toInt = (1 : Int) by decide) (om_ecb8303fc5 zt) (om_27eb55d06c zt)
      refine va_put (D := (dC, dI)) (ci := 16) (fs := mF ad v) (v := .int ((v.1 0 47) + (1 : Int32))) (ty := .int) (C := RX13) (T := TX13) (N := 124) hx hb ht itX13 tyX13 tyX13_ok nmX13 hown hK hP hD hS 0 rfl rfl 47 (by decide) (ht _ tw_24) (fun _ h9 => h9) rfl (by decide +kernel) rfl rfl (Nat.le_of_ble_eq_true rfl) dX13_take_38 (fun H locs hP hD hS => ?_)
      have hP := cP_ (mw_47 ad N cI cZ cJ v ((v.1 0 47) + (1 : Int32))) hP
      have hD := cD_ (mw_47 ad N cI cZ cJ v ((v.1 0 47) + (1 : Int32))) hD
      refine vx_ret ?_
      exact W.vret hx hb hr (fun t ht9 hW => ⟨⟨(wA v 0 47 ((v.1 0 47) + (1 : Int32))), rfl, ⟨rfl, ⟨zt, (Or.inr (⟨z6, (Or.inl ⟨z8, rfl, rfl⟩)⟩))⟩, (om_166d9609e1 z6 z8)⟩, by rw [ht9]; exact hP, hD⟩, hS.F ht9⟩) hS.2.2 dX13_take_41
    · have z10 : (v.1 0 49).toInt = (v.1 0 47).toInt := eq_z rfl rfl h7
      refine lv_aload_n hx hb dX13_take_21 rfl (lv_at hl 0 rfl) ?_
      refine lv_iconst (v := 5) hx hb dX13_take_22 (by decide) ?_
      refine lv_aload_n hx hb dX13_take_23 rfl (lv_at hl 0 rfl) ?_
      refine va_get (D := (dC, dI)) (ci := 16) (fs := mF ad v) (v := .int (v.1 0 47)) (C := RX13) (T := TX13) (N := 124) hx hb ht itX13 hown hK hP 0 rfl rfl 47 (by decide) (ht _ tw_24) (fun _ h9 => h9) rfl dX13_take_24 ?_
      refine cu_r (rn_V (n := 2) (As := [.int 5, .int (v.1 0 47)]) (rest := []) hx hb hml hown ht hKK hFx hP hD hS hA (c_m_fail l dC dI cI cB cZ cJ cR tb s.heap.size ad N v (5 : Int32) (v.1 0 47) (show 0 ≤ (v.1 0 47).toInt ∧ (v.1 0 47).toInt < 4002 from (om_1a0054a28c zt z6))) tw_25 tw_26 (by decide +kernel) rfl rfl ⟨Nat.le_of_ble_eq_true rfl, Nat.le_of_ble_eq_true rfl⟩ (List.range (mW ad N cI cZ cJ v).length) (rg_map _) (mW_nd _ _ _ _ _ _) rfl rfl rfl rfl hl.1 rfl (Nat.le_of_ble_eq_true rfl) dX13_take_27 ⟨Nat.le_of_ble_eq_true rfl, Nat.le_of_ble_eq_true rfl⟩) hP hD hS hA (fun u12 H locs hw11 hP hD hS => ?_)
      obtain rfl := hw11
      have hP : va_P (dC, dI) vwCl (mW ad N cI cZ cJ (wA (wA v 0 50 (5 : Int32)) 0 51 ((v.1 7) (v.1 0 47).toNatClampNeg))) H := hP
      have hD : va_D A (mW ad N cI cZ cJ (wA (wA v 0 50 (5 : Int32)) 0 51 ((v.1 7) (v.1 0 47).toNatClampNeg))) := hD
      refine W.widen (k := 0) (n := 0) (Nat.le_refl _) (Nat.le_refl _) ?_
      obtain ⟨ce9, hc9, hv9, hf9⟩ := halt_at hK hP
      refine um_athrow hx hb dX13_take_30 ?_
      exact vx_out (fun x h9 => (hnt x h9).elim) hlocks hc9 hv9 hf9 (fun t9 ht9 hv8 => ⟨(wA (wA v 0 50 (5 : Int32)) 0 51 ((v.1 7) (v.1 0 47).toNatClampNeg)), ⟨(FG.f (FG.f (FG.rf _) (5 : Int32) (by decide)) ((v.1 7) (v.1 0 47).toNatClampNeg) (by decide)), fun hiv => (IV.o (IV.o hiv (by decide)) (by decide)), ⟨zt, (Or.inr (⟨z6, (Or.inr (⟨z10, rfl, rfl⟩))⟩))⟩⟩, ⟨rfl, by rw [ht9]; exact hP, hD⟩, hS.F ht9⟩) hS.2.2 (Nat.le_refl _) (Nat.le_refl _)
theorem om_7897b4ccef {x0 : Int} (h0 : 0 ≤ x0 ∧ x0 ≤ 1500) : 0 ≤ x0 ∧ x0 ≤ 1500 := by omega
theorem om_c2418a9965 {x0 : Int} (h0 : 0 ≤ x0 ∧ x0 ≤ 40) : -2147483648 ≤ (x0) + (1 : Int) := by omega
theorem om_defb2a7457 {x0 : Int} (h0 : 0 ≤ x0 ∧ x0 ≤ 40) : (x0) + (1 : Int) < 2147483648 := by omega
theorem om_2e80130124 {x0 x1 x2 : Int} (h0 : 0 ≤ x0 ∧ x0 ≤ 40) (h1 : x0 ≠ (40 : Int)) (h2 : x1 < 1500) (h3 : x2 ≠ x1) : x1 < 1500 ∧ x0 < 40 ∧ x2 ≠ x1 := by omega
theorem om_bdd725d902 {x0 : Int} (h0 : x0 ≠ x0) : False := by omega
set_option maxHeartbeats 4000000 in
set_option maxRecDepth 100000 in
theorem c_m_opens (l : Launch) (dC : Nat → ClassId) (dI : Nat → Nat → Nat) (cI cB cZ cJ cR : ClassId) (tb : Nat → Nat) (sz : Nat) (ad : Nat → Nat) (N : Nat) (v : MS)  (zt : 0 ≤ (v.1 0 47).toInt ∧ (v.1 0 47).toInt ≤ 1500) (zop : 0 ≤ (v.1 0 48).toInt ∧ (v.1 0 48).toInt ≤ 40) : vx_Met l yX13_opens (Cond.code yX13_opens cX13_opens 1 none :: tw_W) ({ frames := 2, cells := 0, slots := 0, locals := 42 }) (pc_ (dC, dI) (tyS cI cB cZ cJ cR) tb (mW ad N cI cZ cJ v) sz [.ref (ad 0)]) (qv_ (dC, dI) (mW ad N cI cZ cJ v) sz (fun (u : MS) => (wA (wA v 0 47 ((v.1 0 47) + (1 : Int32))) 0 48 ((v.1 0 48) + (1 : Int32))) = u ∧ (Q_m_opens v false u) ∧ (v.1 0 47).toInt < 1500 ∧ (v.1 0 48).toInt < 40 ∧ (v.1 0 49).toInt ≠ (v.1 0 47).toInt) (fun (u : MS) => (mW ad N cI cZ cJ u))) (qxm (dC, dI) (mW ad N cI cZ cJ v) sz (fun (u : MS) => (mW ad N cI cZ cJ u)) (fun (u : MS) => Fr v u ∧ (IV v → IV u) ∧ (Q_m_opens v true u))) 0 0 (va_A (mW ad N cI cZ cJ v) sz) := by
  refine vx_ofW (cc := cX13_opens) (maxL := 1) (ret := none) (by decide) rfl ?_
  intro p e s m args below meth c s₁ B hml hnt hv
  obtain ⟨rfl, hsz, hP, hKK, hD0, hFx⟩ := hv
  have hK := hKK.1
  have hx := B.exec
  have hb := B.bytes
  have hr := B.returns
  have ht : ∀ w ∈ tw_W, w.before _ s = true := fun w h => atoms_spec (ws := Cond.code yX13_opens cX13_opens 1 none :: tw_W) B.pre w (List.mem_cons_of_mem _ h)
  have hown : s.vm.findClass RX13 = some m.cls := findClass_of_methodNamed B.named
  have hlocks := B.notSynchronized
  subst hsz
  unfold qv_ qxm
  have hD := hD0.self (sz := s.heap.size)
  generalize hAe : va_A (mW ad N cI cZ cJ v) s.heap.size = A at hD hFx ⊢
  have hA : ∀ q : Nat, s.heap.size ≤ q → A q := fun q h => by rw [← hAe]; exact Or.inr h
  have hS : va_S A s.heap s.heap [] := va_S.rf
  have hl := lv_entry ([.ref (ad 0)]) (n := 1) (Nat.le_of_ble_eq_true rfl)
  rw [lg_entry_eq]
  generalize (lg_sl ([.ref (ad 0)]) ++ List.replicate (1 - (lg_sl ([.ref (ad 0)])).length) Slot.unset).toArray = ls at hl ⊢
  have hl : lv_has ls 1 [(0, .ref (ad 0))] := hl
  refine lv_aload_n hx hb dX13_opens_0 rfl (lv_at hl 0 rfl) ?_
  refine va_get (D := (dC, dI)) (ci := 16) (fs := mF ad v) (v := .int (v.1 0 48)) (C := RX13) (T := TX13) (N := 124) hx hb ht itX13 hown hK hP 0 rfl rfl 48 (by decide) (ht _ tw_31) (fun _ h9 => h9) rfl dX13_opens_1 ?_
  refine lv_bipush (v := 40) hx hb dX13_opens_4 (by decide) ?_
  refine lv_icmp_ne (tgt := 17) hx hb dX13_opens_6 (by decide) (fun h1 => ?_) (fun h1 => ?_)
  · have z2 : (v.1 0 48).toInt ≠ (40 : Int) := ne_z rfl (show (40 : Int32).toInt = (40 : Int) by decide) h1
    refine lv_aload_n hx hb dX13_opens_17 rfl (lv_at hl 0 rfl) ?_
    refine cux_v (rx_V (n := 0) (As := []) (rest := []) hx hb hml hown ht hKK hFx hP hD hS hA (c_m_take l dC dI cI cB cZ cJ cR tb s.heap.size ad N v  (show 0 ≤ (v.1 0 47).toInt ∧ (v.1 0 47).toInt ≤ 1500 from (om_7897b4ccef zt))) tw_32 tw_33 (by decide +kernel) rfl rfl ⟨Nat.le_of_ble_eq_true rfl, Nat.le_of_ble_eq_true rfl⟩ (List.range (mW ad N cI cZ cJ v).length) (rg_map _) (mW_nd _ _ _ _ _ _) rfl rfl rfl rfl hl.1 rfl (Nat.le_of_ble_eq_true rfl) dX13_opens_18 ⟨Nat.le_of_ble_eq_true rfl, Nat.le_of_ble_eq_true rfl⟩) hP hD hS hA (fun u9 ce9 q9 H locs hx9 hP hD hS hc9 hv9 hf9 => ?_) (fun u4 H locs hw3 hP hD hS => ?_)
    · exact vx_out (fun x h9 => (hnt x h9).elim) hlocks hc9 hv9 hf9 (fun t9 ht9 hv8 => ⟨u9, ⟨FG.tr (FG.rf _) hx9.1, fun hiv => hx9.2.1 hiv, ⟨zt, zop, (Or.inl ⟨z2, (Or.inl ⟨u9, hx9.2.2, rfl, rfl⟩)⟩)⟩⟩, ⟨rfl, by rw [ht9]; exact hP, hD⟩, hS.F ht9⟩) hS.2.2 (Nat.le_refl _) (Nat.le_refl _)
    obtain ⟨rfl, ex3, a3, b3⟩ := hw3
    have z6 : ((v.1 0 47) + (1 : Int32)).toInt = ((v.1 0 47).toInt) + (1 : Int) := add_z rfl (show (1 : Int32).toInt = (1 : Int) by decide) (om_ecb8303fc5 zt) (om_27eb55d06c zt)
    have hP : va_P (dC, dI) vwCl (mW ad N cI cZ cJ (wA v 0 47 ((v.1 0 47) + (1 : Int32)))) H := hP
    have hD : va_D A (mW ad N cI cZ cJ (wA v 0 47 ((v.1 0 47) + (1 : Int32)))) := hD
    refine W.widen (k := 0) (n := 0) (Nat.le_refl _) (Nat.le_refl _) ?_
    refine lv_aload_n hx hb dX13_opens_21 rfl (lv_at hl 0 rfl) ?_
    refine lv_dup hx hb dX13_opens_22 rfl ?_
    refine va_get (D := (dC, dI)) (ci := 16) (fs := mF ad (wA v 0 47 ((v.1 0 47) + (1 : Int32)))) (v := .int (v.1 0 48)) (C := RX13) (T := TX13) (N := 124) hx hb ht itX13 hown hK hP 0 rfl rfl 48 (by decide) (ht _ tw_31) (fun _ h9 => h9) rfl dX13_opens_23 ?_
    refine lv_iconst (v := 1) hx hb dX13_opens_26 (by decide) ?_
    refine lv_iadd hx hb dX13_opens_27 ?_
    have z7 : ((v.1 0 48) + (1 : Int32)).toInt = ((v.1 0 48).toInt) + (1 : Int) := add_z rfl (show (1 : Int32).toInt = (1 : Int) by decide) (om_c2418a9965 zop) (om_defb2a7457 zop)
    refine va_put (D := (dC, dI)) (ci := 16) (fs := mF ad (wA v 0 47 ((v.1 0 47) + (1 : Int32)))) (v := .int ((v.1 0 48) + (1 : Int32))) (ty := .int) (C := RX13) (T := TX13) (N := 124) hx hb ht itX13 tyX13 tyX13_ok nmX13 hown hK hP hD hS 0 rfl rfl 48 (by decide) (ht _ tw_31) (fun _ h9 => h9) rfl (by decide +kernel) rfl rfl (Nat.le_of_ble_eq_true rfl) dX13_opens_28 (fun H locs hP hD hS => ?_)
    have hP := cP_ (mw_48 ad N cI cZ cJ (wA v 0 47 ((v.1 0 47) + (1 : Int32))) ((v.1 0 48) + (1 : Int32))) hP
    have hD := cD_ (mw_48 ad N cI cZ cJ (wA v 0 47 ((v.1 0 47) + (1 : Int32))) ((v.1 0 48) + (1 : Int32))) hD
    refine vx_ret ?_
    exact W.vret hx hb hr (fun t ht9 hW => ⟨⟨(wA (wA v 0 47 ((v.1 0 47) + (1 : Int32))) 0 48 ((v.1 0 48) + (1 : Int32))), rfl, ⟨rfl, ⟨zt, zop, (Or.inl ⟨z2, (Or.inr (⟨ex3, ⟨a3, b3⟩, rfl, rfl⟩))⟩)⟩, (om_2e80130124 zop z2 a3 b3)⟩, by rw [ht9]; exact hP, hD⟩, hS.F ht9⟩) hS.2.2 dX13_opens_31
  · have z8 : (v.1 0 48).toInt = (40 : Int) := eq_z rfl (show (40 : Int32).toInt = (40 : Int) by decide) h1
    refine lv_aload_n hx hb dX13_opens_9 rfl (lv_at hl 0 rfl) ?_
    refine lv_aload_n hx hb dX13_opens_10 rfl (lv_at hl 0 rfl) ?_
    refine va_get (D := (dC, dI)) (ci := 16) (fs := mF ad v) (v := .int (v.1 0 47)) (C := RX13) (T := TX13) (N := 124) hx hb ht itX13 hown hK hP 0 rfl rfl 47 (by decide) (ht _ tw_24) (fun _ h9 => h9) rfl dX13_opens_11 ?_
    refine va_put (D := (dC, dI)) (ci := 16) (fs := mF ad v) (v := .int (v.1 0 47)) (ty := .int) (C := RX13) (T := TX13) (N := 124) hx hb ht itX13 tyX13 tyX13_ok nmX13 hown hK hP hD hS 0 rfl rfl 49 (by decide) (ht _ tw_30) (fun _ h9 => h9) rfl (by decide +kernel) rfl rfl (Nat.le_of_ble_eq_true rfl) dX13_opens_14 (fun H locs hP hD hS => ?_)
    have hP := cP_ (mw_49 ad N cI cZ cJ v (v.1 0 47)) hP
    have hD := cD_ (mw_49 ad N cI cZ cJ v (v.1 0 47)) hD
    refine lv_aload_n hx hb dX13_opens_17 rfl (lv_at hl 0 rfl) ?_
    refine cux_v (rx_V (n := 0) (As := []) (rest := []) hx hb hml hown ht hKK hFx hP hD hS hA (c_m_take l dC dI cI cB cZ cJ cR tb H.size ad N (wA v 0 49 (v.1 0 47))  (show 0 ≤ (v.1 0 47).toInt ∧ (v.1 0 47).toInt ≤ 1500 from (om_7897b4ccef zt))) tw_32 tw_33 (by decide +kernel) rfl rfl ⟨Nat.le_of_ble_eq_true rfl, Nat.le_of_ble_eq_true rfl⟩ (List.range (mW ad N cI cZ cJ (wA v 0 49 (v.1 0 47))).length) (rg_map _) (mW_nd _ _ _ _ _ _) rfl rfl rfl rfl hl.1 rfl (Nat.le_of_ble_eq_true rfl) dX13_opens_18 ⟨Nat.le_of_ble_eq_true rfl, Nat.le_of_ble_eq_true rfl⟩) hP hD hS hA (fun u9 ce9 q9 H locs hx9 hP hD hS hc9 hv9 hf9 => ?_) (fun u10 H locs hw9 hP hD hS => ?_)
    · exact vx_out (fun x h9 => (hnt x h9).elim) hlocks hc9 hv9 hf9 (fun t9 ht9 hv8 => ⟨u9, ⟨FG.tr (FG.f (FG.rf _) (v.1 0 47) (by decide)) hx9.1, fun hiv => hx9.2.1 (IV.o hiv (by decide)), ⟨zt, zop, (Or.inr (⟨z8, u9, hx9.2.2, rfl, rfl⟩))⟩⟩, ⟨rfl, by rw [ht9]; exact hP, hD⟩, hS.F ht9⟩) hS.2.2 (Nat.le_refl _) (Nat.le_refl _)
    obtain ⟨rfl, ex9, a9, b9⟩ := hw9
    have z12 : ((v.1 0 47) + (1 : Int32)).toInt = ((v.1 0 47).toInt) + (1 : Int) := add_z rfl (show (1 : Int32).toInt = (1 : Int) by decide) (om_ecb8303fc5 zt) (om_27eb55d06c zt)
    have hP : va_P (dC, dI) vwCl (mW ad N cI cZ cJ (wA (wA v 0 49 (v.1 0 47)) 0 47 ((v.1 0 47) + (1 : Int32)))) H := hP
    have hD : va_D A (mW ad N cI cZ cJ (wA (wA v 0 49 (v.1 0 47)) 0 47 ((v.1 0 47) + (1 : Int32)))) := hD
    have a9 : (v.1 0 47).toInt < 1500 := a9
    have b9 : (v.1 0 47).toInt ≠ (v.1 0 47).toInt := b9
    refine W.widen (k := 0) (n := 0) (Nat.le_refl _) (Nat.le_refl _) ?_
    exact False.elim (om_bdd725d902 b9)
theorem om_c3f5017bae {x0 x1 : Int} (h0 : x0 < 1500) (h1 : x1 ≠ x0) : x0 < 1500 ∧ x1 ≠ x0 := by omega
set_option maxHeartbeats 4000000 in
set_option maxRecDepth 100000 in
theorem c_m_need (l : Launch) (dC : Nat → ClassId) (dI : Nat → Nat → Nat) (cI cB cZ cJ cR : ClassId) (tb : Nat → Nat) (sz : Nat) (ad : Nat → Nat) (N : Nat) (v : MS) (pa : Int32) (zt : 0 ≤ (v.1 0 47).toInt ∧ (v.1 0 47).toInt ≤ 1500) : vx_Met l yX13_need (Cond.code yX13_need cX13_need 2 none :: tw_W) ({ frames := 2, cells := 0, slots := 0, locals := 43 }) (pc_ (dC, dI) (tyS cI cB cZ cJ cR) tb (mW ad N cI cZ cJ v) sz [.ref (ad 0), .int pa]) (qv_ (dC, dI) (mW ad N cI cZ cJ v) sz (fun (u : MS) => (wA v 0 47 ((v.1 0 47) + (1 : Int32))) = u ∧ (Q_m_need v pa false u) ∧ (v.1 0 47).toInt < 1500 ∧ (v.1 0 49).toInt ≠ (v.1 0 47).toInt) (fun (u : MS) => (mW ad N cI cZ cJ u))) (qxm (dC, dI) (mW ad N cI cZ cJ v) sz (fun (u : MS) => (mW ad N cI cZ cJ u)) (fun (u : MS) => Fr v u ∧ (IV v → IV u) ∧ (Q_m_need v pa true u))) 0 0 (va_A (mW ad N cI cZ cJ v) sz) := by
  refine vx_ofW (cc := cX13_need) (maxL := 2) (ret := none) (by decide) rfl ?_
  intro p e s m args below meth c s₁ B hml hnt hv
  obtain ⟨rfl, hsz, hP, hKK, hD0, hFx⟩ := hv
  have hK := hKK.1
  have hx := B.exec
  have hb := B.bytes
  have hr := B.returns
  have ht : ∀ w ∈ tw_W, w.before _ s = true := fun w h => atoms_spec (ws := Cond.code yX13_need cX13_need 2 none :: tw_W) B.pre w (List.mem_cons_of_mem _ h)
  have hown : s.vm.findClass RX13 = some m.cls := findClass_of_methodNamed B.named
  have hlocks := B.notSynchronized
  subst hsz
  unfold qv_ qxm
  have hD := hD0.self (sz := s.heap.size)
  generalize hAe : va_A (mW ad N cI cZ cJ v) s.heap.size = A at hD hFx ⊢
  have hA : ∀ q : Nat, s.heap.size ≤ q → A q := fun q h => by rw [← hAe]; exact Or.inr h
  have hS : va_S A s.heap s.heap [] := va_S.rf
  have hl := lv_entry ([.ref (ad 0), .int pa]) (n := 2) (Nat.le_of_ble_eq_true rfl)
  rw [lg_entry_eq]
  generalize (lg_sl ([.ref (ad 0), .int pa]) ++ List.replicate (2 - (lg_sl ([.ref (ad 0), .int pa])).length) Slot.unset).toArray = ls at hl ⊢
  have hl : lv_has ls 2 [(0, .ref (ad 0)), (1, .int pa)] := hl
  refine lv_aload_n hx hb dX13_need_0 rfl (lv_at hl 0 rfl) ?_
  refine lv_iload_n hx hb dX13_need_1 rfl (lv_at hl 1 rfl) ?_
  refine cu_i (rn_V (n := 1) (As := [.int pa]) (rest := []) hx hb hml hown ht hKK hFx hP hD hS hA (c_m_is l dC dI cI cB cZ cJ cR tb s.heap.size ad N v pa (show 0 ≤ (v.1 0 47).toInt ∧ (v.1 0 47).toInt ≤ 1500 from (om_7897b4ccef zt))) tw_34 tw_35 (by decide +kernel) rfl rfl ⟨Nat.le_of_ble_eq_true rfl, Nat.le_of_ble_eq_true rfl⟩ (List.range (mW ad N cI cZ cJ v).length) (rg_map _) (mW_nd _ _ _ _ _ _) rfl rfl rfl rfl hl.1 rfl (Nat.le_of_ble_eq_true rfl) dX13_need_2 ⟨Nat.le_of_ble_eq_true rfl, Nat.le_of_ble_eq_true rfl⟩) hP hD hS hA (fun r3 u2 H locs hw1 hP hD hS => ?_)
  obtain ⟨rfl, ex1, b1, e1⟩ := hw1
  refine W.widen (k := 0) (n := 0) (Nat.le_refl _) (Nat.le_refl _) ?_
  refine lv_if_ne (tgt := 13) hx hb dX13_need_5 (by decide) (fun h4 => ?_) (fun h4 => ?_)
  · have z5 : r3.toInt ≠ (0 : Int) := ne_z rfl (show (0 : Int32).toInt = (0 : Int) by decide) h4
    refine lv_aload_n hx hb dX13_need_13 rfl (lv_at hl 0 rfl) ?_
    refine cux_v (rx_V (n := 0) (As := []) (rest := []) hx hb hml hown ht hKK hFx hP hD hS hA (c_m_take l dC dI cI cB cZ cJ cR tb H.size ad N v  (show 0 ≤ (v.1 0 47).toInt ∧ (v.1 0 47).toInt ≤ 1500 from (om_7897b4ccef zt))) tw_32 tw_33 (by decide +kernel) rfl rfl ⟨Nat.le_of_ble_eq_true rfl, Nat.le_of_ble_eq_true rfl⟩ (List.range (mW ad N cI cZ cJ v).length) (rg_map _) (mW_nd _ _ _ _ _ _) rfl rfl rfl rfl hl.1 rfl (Nat.le_of_ble_eq_true rfl) dX13_need_14 ⟨Nat.le_of_ble_eq_true rfl, Nat.le_of_ble_eq_true rfl⟩) hP hD hS hA (fun u9 ce9 q9 H locs hx9 hP hD hS hc9 hv9 hf9 => ?_) (fun u7 H locs hw6 hP hD hS => ?_)
    · exact vx_out (fun x h9 => (hnt x h9).elim) hlocks hc9 hv9 hf9 (fun t9 ht9 hv8 => ⟨u9, ⟨FG.tr (FG.rf _) hx9.1, fun hiv => hx9.2.1 hiv, ⟨zt, r3, ex1, ⟨b1, e1⟩, (Or.inl ⟨z5, (Or.inl ⟨u9, hx9.2.2, rfl, rfl⟩)⟩)⟩⟩, ⟨rfl, by rw [ht9]; exact hP, hD⟩, hS.F ht9⟩) hS.2.2 (Nat.le_refl _) (Nat.le_refl _)
    obtain ⟨rfl, ex6, a6, b6⟩ := hw6
    have z9 : ((v.1 0 47) + (1 : Int32)).toInt = ((v.1 0 47).toInt) + (1 : Int) := add_z rfl (show (1 : Int32).toInt = (1 : Int) by decide) (om_ecb8303fc5 zt) (om_27eb55d06c zt)
    have hP : va_P (dC, dI) vwCl (mW ad N cI cZ cJ (wA v 0 47 ((v.1 0 47) + (1 : Int32)))) H := hP
    have hD : va_D A (mW ad N cI cZ cJ (wA v 0 47 ((v.1 0 47) + (1 : Int32)))) := hD
    refine W.widen (k := 0) (n := 0) (Nat.le_refl _) (Nat.le_refl _) ?_
    refine vx_ret ?_
    exact W.vret hx hb hr (fun t ht9 hW => ⟨⟨(wA v 0 47 ((v.1 0 47) + (1 : Int32))), rfl, ⟨rfl, ⟨zt, r3, ex1, ⟨b1, e1⟩, (Or.inl ⟨z5, (Or.inr (⟨ex6, ⟨a6, b6⟩, rfl, rfl⟩))⟩)⟩, (om_c3f5017bae a6 b6)⟩, by rw [ht9]; exact hP, hD⟩, hS.F ht9⟩) hS.2.2 dX13_need_17
  · have z10 : r3.toInt = (0 : Int) := eq_z rfl (show (0 : Int32).toInt = (0 : Int) by decide) h4
    refine lv_aload_n hx hb dX13_need_8 rfl (lv_at hl 0 rfl) ?_
    refine cu_r (rn_V (n := 0) (As := []) (rest := []) hx hb hml hown ht hKK hFx hP hD hS hA (c_m_bad l dC dI cI cB cZ cJ cR tb H.size ad N v  (show 0 ≤ (v.1 0 47).toInt ∧ (v.1 0 47).toInt ≤ 1500 from (om_7897b4ccef zt))) tw_36 tw_37 (by decide +kernel) rfl rfl ⟨Nat.le_of_ble_eq_true rfl, Nat.le_of_ble_eq_true rfl⟩ (List.range (mW ad N cI cZ cJ v).length) (rg_map _) (mW_nd _ _ _ _ _ _) rfl rfl rfl rfl hl.1 rfl (Nat.le_of_ble_eq_true rfl) dX13_need_9 ⟨Nat.le_of_ble_eq_true rfl, Nat.le_of_ble_eq_true rfl⟩) hP hD hS hA (fun u12 H locs hw11 hP hD hS => ?_)
    obtain ⟨fr11, ex11⟩ := hw11
    refine W.widen (k := 0) (n := 0) (Nat.le_refl _) (Nat.le_refl _) ?_
    obtain ⟨ce9, hc9, hv9, hf9⟩ := halt_at hK hP
    refine um_athrow hx hb dX13_need_12 ?_
    exact vx_out (fun x h9 => (hnt x h9).elim) hlocks hc9 hv9 hf9 (fun t9 ht9 hv8 => ⟨u12, ⟨(FG.tr (FG.rf _) (FG.up fr11 (by decide) (by decide))), fun hiv => (IV.fr (fl := [50, 51]) (al := [0]) fr11 (by decide) hiv), ⟨zt, r3, ex1, ⟨b1, e1⟩, (Or.inr (⟨z10, u12, ex11, fr11, rfl, rfl⟩))⟩⟩, ⟨rfl, by rw [ht9]; exact hP, hD⟩, hS.F ht9⟩) hS.2.2 (Nat.le_refl _) (Nat.le_refl _)
theorem om_7eaf33e007 {x0 : Int} (h0 : 0 ≤ x0 ∧ x0 ≤ 40) : 0 ≤ x0 ∧ x0 ≤ 40 := by omega
theorem om_9f6bebd976 {x0 x1 x2 : Int} (h0 : x0 < 1500) (h1 : x1 < 40) (h2 : x2 ≠ x0) : x0 < 1500 ∧ x1 < 40 ∧ x2 ≠ x0 := by omega
set_option maxHeartbeats 4000000 in
set_option maxRecDepth 100000 in
theorem c_m_open (l : Launch) (dC : Nat → ClassId) (dI : Nat → Nat → Nat) (cI cB cZ cJ cR : ClassId) (tb : Nat → Nat) (sz : Nat) (ad : Nat → Nat) (N : Nat) (v : MS) (pa : Int32) (zt : 0 ≤ (v.1 0 47).toInt ∧ (v.1 0 47).toInt ≤ 1500) (zop : 0 ≤ (v.1 0 48).toInt ∧ (v.1 0 48).toInt ≤ 40) : vx_Met l yX13_open (Cond.code yX13_open cX13_open 2 none :: tw_W) ({ frames := 3, cells := 0, slots := 0, locals := 62 }) (pc_ (dC, dI) (tyS cI cB cZ cJ cR) tb (mW ad N cI cZ cJ v) sz [.ref (ad 0), .int pa]) (qv_ (dC, dI) (mW ad N cI cZ cJ v) sz (fun (u : MS) => (wA (wA v 0 47 ((v.1 0 47) + (1 : Int32))) 0 48 ((v.1 0 48) + (1 : Int32))) = u ∧ (Q_m_open v pa false u) ∧ (v.1 0 47).toInt < 1500 ∧ (v.1 0 48).toInt < 40 ∧ (v.1 0 49).toInt ≠ (v.1 0 47).toInt) (fun (u : MS) => (mW ad N cI cZ cJ u))) (qxm (dC, dI) (mW ad N cI cZ cJ v) sz (fun (u : MS) => (mW ad N cI cZ cJ u)) (fun (u : MS) => Fr v u ∧ (IV v → IV u) ∧ (Q_m_open v pa true u))) 0 0 (va_A (mW ad N cI cZ cJ v) sz) := by
  refine vx_ofW (cc := cX13_open) (maxL := 2) (ret := none) (by decide) rfl ?_
  intro p e s m args below meth c s₁ B hml hnt hv
  obtain ⟨rfl, hsz, hP, hKK, hD0, hFx⟩ := hv
  have hK := hKK.1
  have hx := B.exec
  have hb := B.bytes
  have hr := B.returns
  have ht : ∀ w ∈ tw_W, w.before _ s = true := fun w h => atoms_spec (ws := Cond.code yX13_open cX13_open 2 none :: tw_W) B.pre w (List.mem_cons_of_mem _ h)
  have hown : s.vm.findClass RX13 = some m.cls := findClass_of_methodNamed B.named
  have hlocks := B.notSynchronized
  subst hsz
  unfold qv_ qxm
  have hD := hD0.self (sz := s.heap.size)
  generalize hAe : va_A (mW ad N cI cZ cJ v) s.heap.size = A at hD hFx ⊢
  have hA : ∀ q : Nat, s.heap.size ≤ q → A q := fun q h => by rw [← hAe]; exact Or.inr h
  have hS : va_S A s.heap s.heap [] := va_S.rf
  have hl := lv_entry ([.ref (ad 0), .int pa]) (n := 2) (Nat.le_of_ble_eq_true rfl)
  rw [lg_entry_eq]
  generalize (lg_sl ([.ref (ad 0), .int pa]) ++ List.replicate (2 - (lg_sl ([.ref (ad 0), .int pa])).length) Slot.unset).toArray = ls at hl ⊢
  have hl : lv_has ls 2 [(0, .ref (ad 0)), (1, .int pa)] := hl
  refine lv_aload_n hx hb dX13_open_0 rfl (lv_at hl 0 rfl) ?_
  refine lv_iload_n hx hb dX13_open_1 rfl (lv_at hl 1 rfl) ?_
  refine cu_i (rn_V (n := 1) (As := [.int pa]) (rest := []) hx hb hml hown ht hKK hFx hP hD hS hA (c_m_is l dC dI cI cB cZ cJ cR tb s.heap.size ad N v pa (show 0 ≤ (v.1 0 47).toInt ∧ (v.1 0 47).toInt ≤ 1500 from (om_7897b4ccef zt))) tw_34 tw_35 (by decide +kernel) rfl rfl ⟨Nat.le_of_ble_eq_true rfl, Nat.le_of_ble_eq_true rfl⟩ (List.range (mW ad N cI cZ cJ v).length) (rg_map _) (mW_nd _ _ _ _ _ _) rfl rfl rfl rfl hl.1 rfl (Nat.le_of_ble_eq_true rfl) dX13_open_2 ⟨Nat.le_of_ble_eq_true rfl, Nat.le_of_ble_eq_true rfl⟩) hP hD hS hA (fun r3 u2 H locs hw1 hP hD hS => ?_)
  obtain ⟨rfl, ex1, b1, e1⟩ := hw1
  refine W.widen (k := 0) (n := 0) (Nat.le_refl _) (Nat.le_refl _) ?_
  refine lv_if_ne (tgt := 13) hx hb dX13_open_5 (by decide) (fun h4 => ?_) (fun h4 => ?_)
  · have z5 : r3.toInt ≠ (0 : Int) := ne_z rfl (show (0 : Int32).toInt = (0 : Int) by decide) h4
    refine lv_aload_n hx hb dX13_open_13 rfl (lv_at hl 0 rfl) ?_
    refine cux_v (rx_V (n := 0) (As := []) (rest := []) hx hb hml hown ht hKK hFx hP hD hS hA (c_m_opens l dC dI cI cB cZ cJ cR tb H.size ad N v  (show 0 ≤ (v.1 0 47).toInt ∧ (v.1 0 47).toInt ≤ 1500 from (om_7897b4ccef zt)) (show 0 ≤ (v.1 0 48).toInt ∧ (v.1 0 48).toInt ≤ 40 from (om_7eaf33e007 zop))) tw_38 tw_39 (by decide +kernel) rfl rfl ⟨Nat.le_of_ble_eq_true rfl, Nat.le_of_ble_eq_true rfl⟩ (List.range (mW ad N cI cZ cJ v).length) (rg_map _) (mW_nd _ _ _ _ _ _) rfl rfl rfl rfl hl.1 rfl (Nat.le_of_ble_eq_true rfl) dX13_open_14 ⟨Nat.le_of_ble_eq_true rfl, Nat.le_of_ble_eq_true rfl⟩) hP hD hS hA (fun u9 ce9 q9 H locs hx9 hP hD hS hc9 hv9 hf9 => ?_) (fun u7 H locs hw6 hP hD hS => ?_)
    · exact vx_out (fun x h9 => (hnt x h9).elim) hlocks hc9 hv9 hf9 (fun t9 ht9 hv8 => ⟨u9, ⟨FG.tr (FG.rf _) hx9.1, fun hiv => hx9.2.1 hiv, ⟨zt, zop, r3, ex1, ⟨b1, e1⟩, (Or.inl ⟨z5, (Or.inl ⟨u9, hx9.2.2, rfl, rfl⟩)⟩)⟩⟩, ⟨rfl, by rw [ht9]; exact hP, hD⟩, hS.F ht9⟩) hS.2.2 (Nat.le_refl _) (Nat.le_refl _)
    obtain ⟨rfl, ex6, a6, b6, c6⟩ := hw6
    have z9 : ((v.1 0 47) + (1 : Int32)).toInt = ((v.1 0 47).toInt) + (1 : Int) := add_z rfl (show (1 : Int32).toInt = (1 : Int) by decide) (om_ecb8303fc5 zt) (om_27eb55d06c zt)
    have z10 : ((v.1 0 48) + (1 : Int32)).toInt = ((v.1 0 48).toInt) + (1 : Int) := add_z rfl (show (1 : Int32).toInt = (1 : Int) by decide) (om_c2418a9965 zop) (om_defb2a7457 zop)
    have hP : va_P (dC, dI) vwCl (mW ad N cI cZ cJ (wA (wA v 0 47 ((v.1 0 47) + (1 : Int32))) 0 48 ((v.1 0 48) + (1 : Int32)))) H := hP
    have hD : va_D A (mW ad N cI cZ cJ (wA (wA v 0 47 ((v.1 0 47) + (1 : Int32))) 0 48 ((v.1 0 48) + (1 : Int32)))) := hD
    refine W.widen (k := 0) (n := 0) (Nat.le_refl _) (Nat.le_refl _) ?_
    refine vx_ret ?_
    exact W.vret hx hb hr (fun t ht9 hW => ⟨⟨(wA (wA v 0 47 ((v.1 0 47) + (1 : Int32))) 0 48 ((v.1 0 48) + (1 : Int32))), rfl, ⟨rfl, ⟨zt, zop, r3, ex1, ⟨b1, e1⟩, (Or.inl ⟨z5, (Or.inr (⟨ex6, ⟨a6, b6, c6⟩, rfl, rfl⟩))⟩)⟩, (om_9f6bebd976 a6 b6 c6)⟩, by rw [ht9]; exact hP, hD⟩, hS.F ht9⟩) hS.2.2 dX13_open_17
  · have z11 : r3.toInt = (0 : Int) := eq_z rfl (show (0 : Int32).toInt = (0 : Int) by decide) h4
    refine lv_aload_n hx hb dX13_open_8 rfl (lv_at hl 0 rfl) ?_
    refine cu_r (rn_V (n := 0) (As := []) (rest := []) hx hb hml hown ht hKK hFx hP hD hS hA (c_m_bad l dC dI cI cB cZ cJ cR tb H.size ad N v  (show 0 ≤ (v.1 0 47).toInt ∧ (v.1 0 47).toInt ≤ 1500 from (om_7897b4ccef zt))) tw_36 tw_37 (by decide +kernel) rfl rfl ⟨Nat.le_of_ble_eq_true rfl, Nat.le_of_ble_eq_true rfl⟩ (List.range (mW ad N cI cZ cJ v).length) (rg_map _) (mW_nd _ _ _ _ _ _) rfl rfl rfl rfl hl.1 rfl (Nat.le_of_ble_eq_true rfl) dX13_open_9 ⟨Nat.le_of_ble_eq_true rfl, Nat.le_of_ble_eq_true rfl⟩) hP hD hS hA (fun u13 H locs hw12 hP hD hS => ?_)
    obtain ⟨fr12, ex12⟩ := hw12
    refine W.widen (k := 0) (n := 0) (Nat.le_refl _) (Nat.le_refl _) ?_
    obtain ⟨ce9, hc9, hv9, hf9⟩ := halt_at hK hP
    refine um_athrow hx hb dX13_open_12 ?_
    exact vx_out (fun x h9 => (hnt x h9).elim) hlocks hc9 hv9 hf9 (fun t9 ht9 hv8 => ⟨u13, ⟨(FG.tr (FG.rf _) (FG.up fr12 (by decide) (by decide))), fun hiv => (IV.fr (fl := [50, 51]) (al := [0]) fr12 (by decide) hiv), ⟨zt, zop, r3, ex1, ⟨b1, e1⟩, (Or.inr (⟨z11, u13, ex12, fr12, rfl, rfl⟩))⟩⟩, ⟨rfl, by rw [ht9]; exact hP, hD⟩, hS.F ht9⟩) hS.2.2 (Nat.le_refl _) (Nat.le_refl _)
theorem om_f2795c2b52 {x0 : Int} (h0 : 0 ≤ x0 ∧ x0 ≤ 40) : -2147483648 ≤ (x0) - (1 : Int) := by omega
theorem om_14dd996dd5 {x0 : Int} (h0 : 0 ≤ x0 ∧ x0 ≤ 40) : (x0) - (1 : Int) < 2147483648 := by omega
set_option maxHeartbeats 4000000 in
set_option maxRecDepth 100000 in
theorem c_m_close (l : Launch) (dC : Nat → ClassId) (dI : Nat → Nat → Nat) (cI cB cZ cJ cR : ClassId) (tb : Nat → Nat) (sz : Nat) (ad : Nat → Nat) (N : Nat) (v : MS) (pa : Int32) (zt : 0 ≤ (v.1 0 47).toInt ∧ (v.1 0 47).toInt ≤ 1500) (zop : 0 ≤ (v.1 0 48).toInt ∧ (v.1 0 48).toInt ≤ 40) : vx_Met l yX13_close (Cond.code yX13_close cX13_close 2 none :: tw_W) ({ frames := 3, cells := 0, slots := 0, locals := 64 }) (pc_ (dC, dI) (tyS cI cB cZ cJ cR) tb (mW ad N cI cZ cJ v) sz [.ref (ad 0), .int pa]) (qv_ (dC, dI) (mW ad N cI cZ cJ v) sz (fun (u : MS) => (wA (wA v 0 47 ((v.1 0 47) + (1 : Int32))) 0 48 ((v.1 0 48) - (1 : Int32))) = u ∧ (Q_m_close v pa false u) ∧ (v.1 0 47).toInt < 1500 ∧ (v.1 0 49).toInt ≠ (v.1 0 47).toInt) (fun (u : MS) => (mW ad N cI cZ cJ u))) (qxm (dC, dI) (mW ad N cI cZ cJ v) sz (fun (u : MS) => (mW ad N cI cZ cJ u)) (fun (u : MS) => Fr v u ∧ (IV v → IV u) ∧ (Q_m_close v pa true u))) 0 0 (va_A (mW ad N cI cZ cJ v) sz) := by
  refine vx_ofW (cc := cX13_close) (maxL := 2) (ret := none) (by decide) rfl ?_
  intro p e s m args below meth c s₁ B hml hnt hv
  obtain ⟨rfl, hsz, hP, hKK, hD0, hFx⟩ := hv
  have hK := hKK.1
  have hx := B.exec
  have hb := B.bytes
  have hr := B.returns
  have ht : ∀ w ∈ tw_W, w.before _ s = true := fun w h => atoms_spec (ws := Cond.code yX13_close cX13_close 2 none :: tw_W) B.pre w (List.mem_cons_of_mem _ h)
  have hown : s.vm.findClass RX13 = some m.cls := findClass_of_methodNamed B.named
  have hlocks := B.notSynchronized
  subst hsz
  unfold qv_ qxm
  have hD := hD0.self (sz := s.heap.size)
  generalize hAe : va_A (mW ad N cI cZ cJ v) s.heap.size = A at hD hFx ⊢
  have hA : ∀ q : Nat, s.heap.size ≤ q → A q := fun q h => by rw [← hAe]; exact Or.inr h
  have hS : va_S A s.heap s.heap [] := va_S.rf
  have hl := lv_entry ([.ref (ad 0), .int pa]) (n := 2) (Nat.le_of_ble_eq_true rfl)
  rw [lg_entry_eq]
  generalize (lg_sl ([.ref (ad 0), .int pa]) ++ List.replicate (2 - (lg_sl ([.ref (ad 0), .int pa])).length) Slot.unset).toArray = ls at hl ⊢
  have hl : lv_has ls 2 [(0, .ref (ad 0)), (1, .int pa)] := hl
  refine lv_aload_n hx hb dX13_close_0 rfl (lv_at hl 0 rfl) ?_
  refine lv_iload_n hx hb dX13_close_1 rfl (lv_at hl 1 rfl) ?_
  refine cux_v (rx_V (n := 1) (As := [.int pa]) (rest := []) hx hb hml hown ht hKK hFx hP hD hS hA (c_m_need l dC dI cI cB cZ cJ cR tb s.heap.size ad N v pa (show 0 ≤ (v.1 0 47).toInt ∧ (v.1 0 47).toInt ≤ 1500 from (om_7897b4ccef zt))) tw_40 tw_41 (by decide +kernel) rfl rfl ⟨Nat.le_of_ble_eq_true rfl, Nat.le_of_ble_eq_true rfl⟩ (List.range (mW ad N cI cZ cJ v).length) (rg_map _) (mW_nd _ _ _ _ _ _) rfl rfl rfl rfl hl.1 rfl (Nat.le_of_ble_eq_true rfl) dX13_close_2 ⟨Nat.le_of_ble_eq_true rfl, Nat.le_of_ble_eq_true rfl⟩) hP hD hS hA (fun u9 ce9 q9 H locs hx9 hP hD hS hc9 hv9 hf9 => ?_) (fun u2 H locs hw1 hP hD hS => ?_)
  · exact vx_out (fun x h9 => (hnt x h9).elim) hlocks hc9 hv9 hf9 (fun t9 ht9 hv8 => ⟨u9, ⟨FG.tr (FG.rf _) hx9.1, fun hiv => hx9.2.1 hiv, ⟨zt, zop, (Or.inl ⟨u9, hx9.2.2, rfl, rfl⟩)⟩⟩, ⟨rfl, by rw [ht9]; exact hP, hD⟩, hS.F ht9⟩) hS.2.2 (Nat.le_refl _) (Nat.le_refl _)
  obtain ⟨rfl, ex1, a1, c1⟩ := hw1
  have z4 : ((v.1 0 47) + (1 : Int32)).toInt = ((v.1 0 47).toInt) + (1 : Int) := add_z rfl (show (1 : Int32).toInt = (1 : Int) by decide) (om_ecb8303fc5 zt) (om_27eb55d06c zt)
  have hP : va_P (dC, dI) vwCl (mW ad N cI cZ cJ (wA v 0 47 ((v.1 0 47) + (1 : Int32)))) H := hP
  have hD : va_D A (mW ad N cI cZ cJ (wA v 0 47 ((v.1 0 47) + (1 : Int32)))) := hD
  refine W.widen (k := 0) (n := 0) (Nat.le_refl _) (Nat.le_refl _) ?_
  refine lv_aload_n hx hb dX13_close_5 rfl (lv_at hl 0 rfl) ?_
  refine lv_dup hx hb dX13_close_6 rfl ?_
  refine va_get (D := (dC, dI)) (ci := 16) (fs := mF ad (wA v 0 47 ((v.1 0 47) + (1 : Int32)))) (v := .int (v.1 0 48)) (C := RX13) (T := TX13) (N := 124) hx hb ht itX13 hown hK hP 0 rfl rfl 48 (by decide) (ht _ tw_31) (fun _ h9 => h9) rfl dX13_close_7 ?_
  refine lv_iconst (v := 1) hx hb dX13_close_10 (by decide) ?_
  refine lv_isub hx hb dX13_close_11 ?_
  have z5 : ((v.1 0 48) - (1 : Int32)).toInt = ((v.1 0 48).toInt) - (1 : Int) := sub_z rfl (show (1 : Int32).toInt = (1 : Int) by decide) (om_f2795c2b52 zop) (om_14dd996dd5 zop)
  refine va_put (D := (dC, dI)) (ci := 16) (fs := mF ad (wA v 0 47 ((v.1 0 47) + (1 : Int32)))) (v := .int ((v.1 0 48) - (1 : Int32))) (ty := .int) (C := RX13) (T := TX13) (N := 124) hx hb ht itX13 tyX13 tyX13_ok nmX13 hown hK hP hD hS 0 rfl rfl 48 (by decide) (ht _ tw_31) (fun _ h9 => h9) rfl (by decide +kernel) rfl rfl (Nat.le_of_ble_eq_true rfl) dX13_close_12 (fun H locs hP hD hS => ?_)
  have hP := cP_ (mw_48 ad N cI cZ cJ (wA v 0 47 ((v.1 0 47) + (1 : Int32))) ((v.1 0 48) - (1 : Int32))) hP
  have hD := cD_ (mw_48 ad N cI cZ cJ (wA v 0 47 ((v.1 0 47) + (1 : Int32))) ((v.1 0 48) - (1 : Int32))) hD
  refine vx_ret ?_
  exact W.vret hx hb hr (fun t ht9 hW => ⟨⟨(wA (wA v 0 47 ((v.1 0 47) + (1 : Int32))) 0 48 ((v.1 0 48) - (1 : Int32))), rfl, ⟨rfl, ⟨zt, zop, (Or.inr (⟨ex1, ⟨a1, c1⟩, rfl, rfl⟩))⟩, (om_c3f5017bae a1 c1)⟩, by rw [ht9]; exact hP, hD⟩, hS.F ht9⟩) hS.2.2 dX13_close_15
