theorem dX11_code_0 : decode cX11_code 0 = .ok (.iload_n 1, 1) := by decide +kernel
theorem dX11_code_1 : decode cX11_code 1 = .ok (.ifCond .ge 13, 3) := by decide +kernel
theorem dX11_code_14 : decode cX11_code 14 = .ok (.aload_n 0, 1) := by decide +kernel
theorem dX11_code_15 : decode cX11_code 15 = .ok (.getfield 36, 3) := by decide +kernel
theorem dX11_code_18 : decode cX11_code 18 = .ok (.iload_n 1, 1) := by decide +kernel
theorem dX11_code_19 : decode cX11_code 19 = .ok (.invokevirtual 126, 3) := by decide +kernel
theorem dX7_wordAt_0 : decode cX7_wordAt 0 = .ok (.iload_n 1, 1) := by decide +kernel
theorem dX7_wordAt_1 : decode cX7_wordAt 1 = .ok (.ifCond .lt 29, 3) := by decide +kernel
theorem dX7_wordAt_30 : decode cX7_wordAt 30 = .ok (.iconst 0, 1) := by decide +kernel
theorem dX7_wordAt_31 : decode cX7_wordAt 31 = .ok (.ireturn, 1) := by decide +kernel
theorem dX7_wordAt_4 : decode cX7_wordAt 4 = .ok (.iload_n 1, 1) := by decide +kernel
theorem dX7_wordAt_5 : decode cX7_wordAt 5 = .ok (.aload_n 0, 1) := by decide +kernel
theorem dX7_wordAt_6 : decode cX7_wordAt 6 = .ok (.getfield 54, 3) := by decide +kernel
theorem dX7_wordAt_9 : decode cX7_wordAt 9 = .ok (.if_icmp .ge 21, 3) := by decide +kernel
theorem dX7_wordAt_12 : decode cX7_wordAt 12 = .ok (.iload_n 1, 1) := by decide +kernel
theorem dX7_wordAt_13 : decode cX7_wordAt 13 = .ok (.aload_n 0, 1) := by decide +kernel
theorem dX7_wordAt_14 : decode cX7_wordAt 14 = .ok (.getfield 32, 3) := by decide +kernel
theorem dX7_wordAt_17 : decode cX7_wordAt 17 = .ok (.arraylength, 1) := by decide +kernel
theorem dX7_wordAt_18 : decode cX7_wordAt 18 = .ok (.if_icmp .ge 12, 3) := by decide +kernel
theorem dX7_wordAt_21 : decode cX7_wordAt 21 = .ok (.aload_n 0, 1) := by decide +kernel
theorem dX7_wordAt_22 : decode cX7_wordAt 22 = .ok (.getfield 32, 3) := by decide +kernel
theorem dX7_wordAt_25 : decode cX7_wordAt 25 = .ok (.iload_n 1, 1) := by decide +kernel
theorem dX7_wordAt_26 : decode cX7_wordAt 26 = .ok (.iaload, 1) := by decide +kernel
theorem dX7_wordAt_27 : decode cX7_wordAt 27 = .ok (.goto 4, 3) := by decide +kernel
theorem tw_266 : (.code yX7_wordAt cX7_wordAt 2 (some .int) : Cond) ∈ tw_W := tw_in (by decide +kernel) (by decide +kernel)
theorem tw_267 : ∀ w ∈ ([.methodLink RX11 126 yX7_wordAt, .instanceMethod yX7_wordAt, .selects RX7 yX7_wordAt yX7_wordAt, .initialized RX7] : List Cond), w ∈ tw_W := tw_all (by decide +kernel)
theorem dX11_code_22 : decode cX11_code 22 = .ok (.ireturn, 1) := by decide +kernel
theorem dX11_code_4 : decode cX11_code 4 = .ok (.new 119, 3) := by decide +kernel
theorem dX11_code_7 : decode cX11_code 7 = .ok (.dup, 1) := by decide +kernel
theorem dX11_code_8 : decode cX11_code 8 = .ok (.ldc 121, 2) := by decide +kernel
theorem dX11_code_10 : decode cX11_code 10 = .ok (.invokespecial 123, 3) := by decide +kernel
theorem dX11_code_13 : decode cX11_code 13 = .ok (.athrow, 1) := by decide +kernel
theorem tw_268 : (.classLink RX11 119 "java/lang/IndexOutOfBoundsException" : Cond) ∈ tw_W := tw_in (by decide +kernel) (by decide +kernel)
theorem tw_269 : (.initialized "java/lang/IndexOutOfBoundsException" : Cond) ∈ tw_W := tw_in (by decide +kernel) (by decide +kernel)
theorem xat_0 : ∀ w ∈ (vx_atS RX11 123 "java/lang/IndexOutOfBoundsException" ["java/lang/RuntimeException", "java/lang/Exception"]).filter goodWord, w ∈ tw_W := tw_all (by decide +kernel)
theorem xat_0_n : ∀ w ∈ (vx_atS RX11 123 "java/lang/IndexOutOfBoundsException" ["java/lang/RuntimeException", "java/lang/Exception"]).filter (fun w => !goodWord w), w ∈ ([.castable "java/lang/IndexOutOfBoundsException" "java/lang/IndexOutOfBoundsException", .declares (Bundle.initS "java/lang/RuntimeException"), .declares (Bundle.initS "java/lang/Exception"), .declares (Bundle.initS Bundle.tN)] : List Cond) := by decide +kernel
theorem xat_0_o : ∀ w ∈ Cond.classLink RX11 119 "java/lang/IndexOutOfBoundsException" :: Cond.initialized "java/lang/IndexOutOfBoundsException" :: vx_atS RX11 123 "java/lang/IndexOutOfBoundsException" ["java/lang/RuntimeException", "java/lang/Exception"], vx_ot w = true := by decide +kernel
theorem dX11_find_0 : decode cX11_find 0 = .ok (.iload_n 1, 1) := by decide +kernel
theorem dX11_find_1 : decode cX11_find 1 = .ok (.ifCond .eq 18, 3) := by decide +kernel
theorem dX11_find_19 : decode cX11_find 19 = .ok (.iload_n 1, 1) := by decide +kernel
theorem dX11_find_20 : decode cX11_find 20 = .ok (.ifCond .ne 13, 3) := by decide +kernel
theorem dX11_find_23 : decode cX11_find 23 = .ok (.aload_n 0, 1) := by decide +kernel
theorem dX11_find_24 : decode cX11_find 24 = .ok (.getfield 36, 3) := by decide +kernel
theorem dX11_find_27 : decode cX11_find 27 = .ok (.getfield 142, 3) := by decide +kernel
theorem dX11_find_30 : decode cX11_find 30 = .ok (.goto 10, 3) := by decide +kernel
theorem dX11_find_40 : decode cX11_find 40 = .ok (.istore_n 2, 1) := by decide +kernel
theorem dX11_find_41 : decode cX11_find 41 = .ok (.iconst 0, 1) := by decide +kernel
theorem dX11_find_42 : decode cX11_find 42 = .ok (.istore_n 3, 1) := by decide +kernel
theorem dX11_find_43 : decode cX11_find 43 = .ok (.iload_n 3, 1) := by decide +kernel
theorem dX11_find_44 : decode cX11_find 44 = .ok (.iload_n 2, 1) := by decide +kernel
theorem dX11_find_45 : decode cX11_find 45 = .ok (.if_icmp .ge 58, 3) := by decide +kernel
theorem dX11_find_103 : decode cX11_find 103 = .ok (.iconst (-1), 1) := by decide +kernel
theorem dX11_find_104 : decode cX11_find 104 = .ok (.ireturn, 1) := by decide +kernel
theorem dX11_find_4 : decode cX11_find 4 = .ok (.iload_n 1, 1) := by decide +kernel
theorem dX11_find_5 : decode cX11_find 5 = .ok (.iconst 1, 1) := by decide +kernel
theorem dX11_find_6 : decode cX11_find 6 = .ok (.if_icmp .eq 13, 3) := by decide +kernel
theorem dX11_find_33 : decode cX11_find 33 = .ok (.aload_n 0, 1) := by decide +kernel
theorem dX11_find_34 : decode cX11_find 34 = .ok (.getfield 36, 3) := by decide +kernel
theorem dX11_find_37 : decode cX11_find 37 = .ok (.getfield 145, 3) := by decide +kernel
theorem dX11_find_9 : decode cX11_find 9 = .ok (.new 137, 3) := by decide +kernel
theorem dX11_find_12 : decode cX11_find 12 = .ok (.dup, 1) := by decide +kernel
theorem dX11_find_13 : decode cX11_find 13 = .ok (.ldc 139, 2) := by decide +kernel
theorem dX11_find_15 : decode cX11_find 15 = .ok (.invokespecial 141, 3) := by decide +kernel
theorem dX11_find_18 : decode cX11_find 18 = .ok (.athrow, 1) := by decide +kernel
theorem tw_270 : (.classLink RX11 137 "java/lang/IllegalArgumentException" : Cond) ∈ tw_W := tw_in (by decide +kernel) (by decide +kernel)
theorem tw_271 : (.initialized "java/lang/IllegalArgumentException" : Cond) ∈ tw_W := tw_in (by decide +kernel) (by decide +kernel)
theorem xat_1 : ∀ w ∈ (vx_atS RX11 141 "java/lang/IllegalArgumentException" ["java/lang/RuntimeException", "java/lang/Exception"]).filter goodWord, w ∈ tw_W := tw_all (by decide +kernel)
theorem xat_1_n : ∀ w ∈ (vx_atS RX11 141 "java/lang/IllegalArgumentException" ["java/lang/RuntimeException", "java/lang/Exception"]).filter (fun w => !goodWord w), w ∈ ([.castable "java/lang/IllegalArgumentException" "java/lang/IllegalArgumentException", .declares (Bundle.initS "java/lang/RuntimeException"), .declares (Bundle.initS "java/lang/Exception"), .declares (Bundle.initS Bundle.tN)] : List Cond) := by decide +kernel
theorem xat_1_o : ∀ w ∈ Cond.classLink RX11 137 "java/lang/IllegalArgumentException" :: Cond.initialized "java/lang/IllegalArgumentException" :: vx_atS RX11 141 "java/lang/IllegalArgumentException" ["java/lang/RuntimeException", "java/lang/Exception"], vx_ot w = true := by decide +kernel
theorem dX11_register_0 : decode cX11_register 0 = .ok (.iload_n 1, 1) := by decide +kernel
theorem dX11_register_1 : decode cX11_register 1 = .ok (.ifCond .lt 9, 3) := by decide +kernel
theorem dX11_register_10 : decode cX11_register 10 = .ok (.new 119, 3) := by decide +kernel
theorem dX11_register_13 : decode cX11_register 13 = .ok (.dup, 1) := by decide +kernel
theorem dX11_register_14 : decode cX11_register 14 = .ok (.ldc 178, 2) := by decide +kernel
theorem dX11_register_16 : decode cX11_register 16 = .ok (.invokespecial 123, 3) := by decide +kernel
theorem dX11_register_19 : decode cX11_register 19 = .ok (.athrow, 1) := by decide +kernel
theorem dX11_register_4 : decode cX11_register 4 = .ok (.iload_n 1, 1) := by decide +kernel
theorem dX11_register_5 : decode cX11_register 5 = .ok (.bipush 32, 2) := by decide +kernel
theorem dX11_register_7 : decode cX11_register 7 = .ok (.if_icmp .le 13, 3) := by decide +kernel
theorem dX11_register_20 : decode cX11_register 20 = .ok (.iload_n 1, 1) := by decide +kernel
theorem dX11_register_21 : decode cX11_register 21 = .ok (.bipush 32, 2) := by decide +kernel
theorem dX11_register_23 : decode cX11_register 23 = .ok (.if_icmp .ne 13, 3) := by decide +kernel
theorem dX11_register_36 : decode cX11_register 36 = .ok (.aload_n 0, 1) := by decide +kernel
theorem dX11_register_37 : decode cX11_register 37 = .ok (.getfield 66, 3) := by decide +kernel
theorem dX11_register_40 : decode cX11_register 40 = .ok (.iload_n 1, 1) := by decide +kernel
theorem dX11_register_41 : decode cX11_register 41 = .ok (.invokevirtual 175, 3) := by decide +kernel
theorem tw_272 : ∀ w ∈ ([.methodLink RX11 175 yX6_valueOf, .instanceMethod yX6_valueOf, .selects RX6 yX6_valueOf yX6_valueOf, .initialized RX6] : List Cond), w ∈ tw_W := tw_all (by decide +kernel)
theorem dX11_register_44 : decode cX11_register 44 = .ok (.ireturn, 1) := by decide +kernel
theorem dX11_register_26 : decode cX11_register 26 = .ok (.aload_n 0, 1) := by decide +kernel
theorem dX11_register_27 : decode cX11_register 27 = .ok (.getfield 66, 3) := by decide +kernel
theorem dX11_register_30 : decode cX11_register 30 = .ok (.getfield 180, 3) := by decide +kernel
theorem dX11_register_33 : decode cX11_register 33 = .ok (.goto 11, 3) := by decide +kernel
theorem dX11_set_0 : decode cX11_set 0 = .ok (.iload_n 1, 1) := by decide +kernel
theorem dX11_set_1 : decode cX11_set 1 = .ok (.ifCond .lt 9, 3) := by decide +kernel
theorem dX11_set_10 : decode cX11_set 10 = .ok (.new 119, 3) := by decide +kernel
theorem dX11_set_13 : decode cX11_set 13 = .ok (.dup, 1) := by decide +kernel
theorem dX11_set_14 : decode cX11_set 14 = .ok (.ldc 178, 2) := by decide +kernel
theorem dX11_set_16 : decode cX11_set 16 = .ok (.invokespecial 123, 3) := by decide +kernel
theorem dX11_set_19 : decode cX11_set 19 = .ok (.athrow, 1) := by decide +kernel
theorem dX11_set_4 : decode cX11_set 4 = .ok (.iload_n 1, 1) := by decide +kernel
theorem dX11_set_5 : decode cX11_set 5 = .ok (.bipush 32, 2) := by decide +kernel
theorem dX11_set_7 : decode cX11_set 7 = .ok (.if_icmp .le 13, 3) := by decide +kernel
theorem dX11_set_20 : decode cX11_set 20 = .ok (.aload_n 0, 1) := by decide +kernel
theorem dX11_set_21 : decode cX11_set 21 = .ok (.getfield 66, 3) := by decide +kernel
theorem dX11_set_24 : decode cX11_set 24 = .ok (.iload_n 1, 1) := by decide +kernel
theorem dX11_set_25 : decode cX11_set 25 = .ok (.iload_n 2, 1) := by decide +kernel
theorem dX11_set_26 : decode cX11_set 26 = .ok (.invokevirtual 183, 3) := by decide +kernel
theorem dX6_change_0 : decode cX6_change 0 = .ok (.iload_n 1, 1) := by decide +kernel
theorem dX6_change_1 : decode cX6_change 1 = .ok (.bipush 32, 2) := by decide +kernel
theorem dX6_change_3 : decode cX6_change 3 = .ok (.if_icmp .ne 11, 3) := by decide +kernel
theorem dX6_change_14 : decode cX6_change 14 = .ok (.aload_n 0, 1) := by decide +kernel
theorem dX6_change_15 : decode cX6_change 15 = .ok (.iload_n 1, 1) := by decide +kernel
theorem dX6_change_16 : decode cX6_change 16 = .ok (.iload_n 2, 1) := by decide +kernel
theorem dX6_change_17 : decode cX6_change 17 = .ok (.invokevirtual 29, 3) := by decide +kernel
theorem dX6_write_0 : decode cX6_write 0 = .ok (.iload_n 1, 1) := by decide +kernel
theorem dX6_write_1 : decode cX6_write 1 = .ok (.ifCond .le 19, 3) := by decide +kernel
theorem dX6_write_20 : decode cX6_write 20 = .ok (.return_, 1) := by decide +kernel
theorem dX6_write_4 : decode cX6_write 4 = .ok (.iload_n 1, 1) := by decide +kernel
theorem dX6_write_5 : decode cX6_write 5 = .ok (.aload_n 0, 1) := by decide +kernel
theorem dX6_write_6 : decode cX6_write 6 = .ok (.getfield 9, 3) := by decide +kernel
theorem dX6_write_9 : decode cX6_write 9 = .ok (.arraylength, 1) := by decide +kernel
theorem dX6_write_10 : decode cX6_write 10 = .ok (.if_icmp .ge 10, 3) := by decide +kernel
theorem dX6_write_13 : decode cX6_write 13 = .ok (.aload_n 0, 1) := by decide +kernel
theorem dX6_write_14 : decode cX6_write 14 = .ok (.getfield 9, 3) := by decide +kernel
theorem dX6_write_17 : decode cX6_write 17 = .ok (.iload_n 1, 1) := by decide +kernel
theorem dX6_write_18 : decode cX6_write 18 = .ok (.iload_n 2, 1) := by decide +kernel
theorem dX6_write_19 : decode cX6_write 19 = .ok (.iastore, 1) := by decide +kernel
theorem tw_273 : (.code yX6_write cX6_write 3 none : Cond) ∈ tw_W := tw_in (by decide +kernel) (by decide +kernel)
theorem tw_274 : ∀ w ∈ ([.methodLink RX6 29 yX6_write, .instanceMethod yX6_write, .selects RX6 yX6_write yX6_write, .initialized RX6] : List Cond), w ∈ tw_W := tw_all (by decide +kernel)
theorem dX6_change_20 : decode cX6_change 20 = .ok (.aload_n 0, 1) := by decide +kernel
theorem dX6_change_21 : decode cX6_change 21 = .ok (.iconst 0, 1) := by decide +kernel
theorem dX6_change_22 : decode cX6_change 22 = .ok (.putfield 33, 3) := by decide +kernel
theorem dX6_change_25 : decode cX6_change 25 = .ok (.return_, 1) := by decide +kernel
theorem dX6_change_6 : decode cX6_change 6 = .ok (.aload_n 0, 1) := by decide +kernel
theorem dX6_change_7 : decode cX6_change 7 = .ok (.iload_n 2, 1) := by decide +kernel
theorem dX6_change_8 : decode cX6_change 8 = .ok (.putfield 25, 3) := by decide +kernel
theorem dX6_change_11 : decode cX6_change 11 = .ok (.goto 9, 3) := by decide +kernel
theorem tw_275 : (.code yX6_change cX6_change 3 none : Cond) ∈ tw_W := tw_in (by decide +kernel) (by decide +kernel)
theorem tw_276 : ∀ w ∈ ([.methodLink RX11 183 yX6_change, .instanceMethod yX6_change, .selects RX6 yX6_change yX6_change, .initialized RX6] : List Cond), w ∈ tw_W := tw_all (by decide +kernel)
theorem dX11_set_29 : decode cX11_set 29 = .ok (.return_, 1) := by decide +kernel
theorem dX11_put_0 : decode cX11_put 0 = .ok (.iload_n 1, 1) := by decide +kernel
theorem dX11_put_1 : decode cX11_put 1 = .ok (.ifCond .lt 21, 3) := by decide +kernel
theorem dX11_put_22 : decode cX11_put 22 = .ok (.new 205, 3) := by decide +kernel
theorem dX11_put_25 : decode cX11_put 25 = .ok (.dup, 1) := by decide +kernel
theorem dX11_put_26 : decode cX11_put 26 = .ok (.ldc 207, 2) := by decide +kernel
theorem dX11_put_28 : decode cX11_put 28 = .ok (.invokespecial 209, 3) := by decide +kernel
theorem dX11_put_31 : decode cX11_put 31 = .ok (.athrow, 1) := by decide +kernel
theorem tw_277 : (.classLink RX11 205 "java/util/NoSuchElementException" : Cond) ∈ tw_W := tw_in (by decide +kernel) (by decide +kernel)
theorem tw_278 : (.initialized "java/util/NoSuchElementException" : Cond) ∈ tw_W := tw_in (by decide +kernel) (by decide +kernel)
theorem xat_2 : ∀ w ∈ (vx_atS RX11 209 "java/util/NoSuchElementException" ["java/lang/RuntimeException", "java/lang/Exception"]).filter goodWord, w ∈ tw_W := tw_all (by decide +kernel)
theorem xat_2_n : ∀ w ∈ (vx_atS RX11 209 "java/util/NoSuchElementException" ["java/lang/RuntimeException", "java/lang/Exception"]).filter (fun w => !goodWord w), w ∈ ([.castable "java/util/NoSuchElementException" "java/util/NoSuchElementException", .declares (Bundle.initS "java/lang/RuntimeException"), .declares (Bundle.initS "java/lang/Exception"), .declares (Bundle.initS Bundle.tN)] : List Cond) := by decide +kernel
theorem xat_2_o : ∀ w ∈ Cond.classLink RX11 205 "java/util/NoSuchElementException" :: Cond.initialized "java/util/NoSuchElementException" :: vx_atS RX11 209 "java/util/NoSuchElementException" ["java/lang/RuntimeException", "java/lang/Exception"], vx_ot w = true := by decide +kernel
theorem dX11_put_4 : decode cX11_put 4 = .ok (.iload_n 1, 1) := by decide +kernel
theorem dX11_put_5 : decode cX11_put 5 = .ok (.aload_n 0, 1) := by decide +kernel
theorem dX11_put_6 : decode cX11_put 6 = .ok (.getfield 66, 3) := by decide +kernel
theorem dX11_put_9 : decode cX11_put 9 = .ok (.getfield 202, 3) := by decide +kernel
theorem dX11_put_12 : decode cX11_put 12 = .ok (.if_icmp .ge 10, 3) := by decide +kernel
theorem dX11_run_0 : decode cX11_run 0 = .ok (.iload_n 1, 1) := by decide +kernel
theorem dX11_run_1 : decode cX11_run 1 = .ok (.ifCond .lt 9, 3) := by decide +kernel
theorem dX11_run_10 : decode cX11_run 10 = .ok (.new 137, 3) := by decide +kernel
theorem dX11_run_13 : decode cX11_run 13 = .ok (.dup, 1) := by decide +kernel
theorem dX11_run_14 : decode cX11_run 14 = .ok (.ldc 170, 2) := by decide +kernel
theorem dX11_run_16 : decode cX11_run 16 = .ok (.invokespecial 141, 3) := by decide +kernel
theorem dX11_run_19 : decode cX11_run 19 = .ok (.athrow, 1) := by decide +kernel
theorem dX11_run_4 : decode cX11_run 4 = .ok (.iload_n 1, 1) := by decide +kernel
theorem dX11_run_5 : decode cX11_run 5 = .ok (.ldc 169, 2) := by decide +kernel
theorem tw_279 : (.constant RX11 169 (50000) : Cond) ∈ tw_W := tw_in (by decide +kernel) (by decide +kernel)
theorem dX11_run_7 : decode cX11_run 7 = .ok (.if_icmp .le 13, 3) := by decide +kernel
theorem dX11_run_20 : decode cX11_run 20 = .ok (.aload_n 0, 1) := by decide +kernel
theorem dX11_run_21 : decode cX11_run 21 = .ok (.getfield 66, 3) := by decide +kernel
theorem dX11_run_24 : decode cX11_run 24 = .ok (.iload_n 1, 1) := by decide +kernel
theorem dX11_run_25 : decode cX11_run 25 = .ok (.invokevirtual 172, 3) := by decide +kernel
theorem dX6_ticks_0 : decode cX6_ticks 0 = .ok (.aload_n 0, 1) := by decide +kernel
theorem dX6_ticks_1 : decode cX6_ticks 1 = .ok (.getfield 54, 3) := by decide +kernel
theorem dX6_ticks_4 : decode cX6_ticks 4 = .ok (.istore_n 2, 1) := by decide +kernel
theorem dX6_ticks_5 : decode cX6_ticks 5 = .ok (.iconst 0, 1) := by decide +kernel
theorem dX6_ticks_6 : decode cX6_ticks 6 = .ok (.istore_n 3, 1) := by decide +kernel
theorem dX6_ticks_7 : decode cX6_ticks 7 = .ok (.iload_n 3, 1) := by decide +kernel
theorem dX6_ticks_8 : decode cX6_ticks 8 = .ok (.iload_n 1, 1) := by decide +kernel
theorem dX6_ticks_9 : decode cX6_ticks 9 = .ok (.if_icmp .ge 20, 3) := by decide +kernel
theorem dX6_ticks_29 : decode cX6_ticks 29 = .ok (.aload_n 0, 1) := by decide +kernel
theorem dX6_ticks_30 : decode cX6_ticks 30 = .ok (.getfield 54, 3) := by decide +kernel
theorem dX6_ticks_33 : decode cX6_ticks 33 = .ok (.iload_n 2, 1) := by decide +kernel
theorem dX6_ticks_34 : decode cX6_ticks 34 = .ok (.isub, 1) := by decide +kernel
theorem dX6_ticks_35 : decode cX6_ticks 35 = .ok (.ireturn, 1) := by decide +kernel
theorem dX6_ticks_12 : decode cX6_ticks 12 = .ok (.aload_n 0, 1) := by decide +kernel
theorem dX6_ticks_13 : decode cX6_ticks 13 = .ok (.getfield 33, 3) := by decide +kernel
theorem dX6_ticks_16 : decode cX6_ticks 16 = .ok (.ifCond .ne 13, 3) := by decide +kernel
theorem dX6_ticks_19 : decode cX6_ticks 19 = .ok (.aload_n 0, 1) := by decide +kernel
theorem dX6_ticks_20 : decode cX6_ticks 20 = .ok (.invokevirtual 65, 3) := by decide +kernel
theorem tw_280 : ∀ w ∈ ([.methodLink RX6 65 yX6_tick, .instanceMethod yX6_tick, .selects RX6 yX6_tick yX6_tick, .initialized RX6] : List Cond), w ∈ tw_W := tw_all (by decide +kernel)
theorem dX6_ticks_23 : decode cX6_ticks 23 = .ok (.iinc 3 1, 3) := by decide +kernel
theorem dX6_ticks_26 : decode cX6_ticks 26 = .ok (.goto (-19), 3) := by decide +kernel
theorem tw_281 : (.code yX6_ticks cX6_ticks 4 (some .int) : Cond) ∈ tw_W := tw_in (by decide +kernel) (by decide +kernel)
theorem tw_282 : ∀ w ∈ ([.methodLink RX11 172 yX6_ticks, .instanceMethod yX6_ticks, .selects RX6 yX6_ticks yX6_ticks, .initialized RX6] : List Cond), w ∈ tw_W := tw_all (by decide +kernel)
theorem dX11_run_28 : decode cX11_run 28 = .ok (.ireturn, 1) := by decide +kernel
theorem dX11_word_0 : decode cX11_word 0 = .ok (.aload_n 0, 1) := by decide +kernel
theorem dX11_word_1 : decode cX11_word 1 = .ok (.iload_n 1, 1) := by decide +kernel
theorem dX11_word_2 : decode cX11_word 2 = .ok (.invokevirtual 187, 3) := by decide +kernel
theorem dX11_checkAddress_0 : decode cX11_checkAddress 0 = .ok (.iload_n 1, 1) := by decide +kernel
theorem dX11_checkAddress_1 : decode cX11_checkAddress 1 = .ok (.iconst 3, 1) := by decide +kernel
theorem dX11_checkAddress_2 : decode cX11_checkAddress 2 = .ok (.iand, 1) := by decide +kernel
theorem dX11_checkAddress_3 : decode cX11_checkAddress 3 = .ok (.ifCond .eq 13, 3) := by decide +kernel
theorem dX11_checkAddress_16 : decode cX11_checkAddress 16 = .ok (.aload_n 0, 1) := by decide +kernel
theorem dX11_checkAddress_17 : decode cX11_checkAddress 17 = .ok (.getfield 66, 3) := by decide +kernel
theorem dX11_checkAddress_20 : decode cX11_checkAddress 20 = .ok (.iload_n 1, 1) := by decide +kernel
theorem dX11_checkAddress_21 : decode cX11_checkAddress 21 = .ok (.invokevirtual 196, 3) := by decide +kernel
theorem dX6_hasWord_21 : decode cX6_hasWord 21 = .ok (.iconst 0, 1) := by decide +kernel
theorem tw_283 : ∀ w ∈ ([.methodLink RX11 196 yX6_hasWord, .instanceMethod yX6_hasWord, .selects RX6 yX6_hasWord yX6_hasWord, .initialized RX6] : List Cond), w ∈ tw_W := tw_all (by decide +kernel)
theorem dX11_checkAddress_24 : decode cX11_checkAddress 24 = .ok (.ifCond .ne 13, 3) := by decide +kernel
theorem dX11_checkAddress_37 : decode cX11_checkAddress 37 = .ok (.return_, 1) := by decide +kernel
theorem dX11_checkAddress_27 : decode cX11_checkAddress 27 = .ok (.new 119, 3) := by decide +kernel
theorem dX11_checkAddress_30 : decode cX11_checkAddress 30 = .ok (.dup, 1) := by decide +kernel
theorem dX11_checkAddress_31 : decode cX11_checkAddress 31 = .ok (.ldc 200, 2) := by decide +kernel
theorem dX11_checkAddress_33 : decode cX11_checkAddress 33 = .ok (.invokespecial 123, 3) := by decide +kernel
theorem dX11_checkAddress_36 : decode cX11_checkAddress 36 = .ok (.athrow, 1) := by decide +kernel
theorem dX11_checkAddress_6 : decode cX11_checkAddress 6 = .ok (.new 137, 3) := by decide +kernel
theorem dX11_checkAddress_9 : decode cX11_checkAddress 9 = .ok (.dup, 1) := by decide +kernel
theorem dX11_checkAddress_10 : decode cX11_checkAddress 10 = .ok (.ldc 194, 2) := by decide +kernel
theorem dX11_checkAddress_12 : decode cX11_checkAddress 12 = .ok (.invokespecial 141, 3) := by decide +kernel
theorem dX11_checkAddress_15 : decode cX11_checkAddress 15 = .ok (.athrow, 1) := by decide +kernel
theorem tw_284 : (.code yX11_checkAddress cX11_checkAddress 2 none : Cond) ∈ tw_W := tw_in (by decide +kernel) (by decide +kernel)
theorem tw_285 : ∀ w ∈ ([.methodLink RX11 187 yX11_checkAddress, .instanceMethod yX11_checkAddress, .selects RX11 yX11_checkAddress yX11_checkAddress, .initialized RX11] : List Cond), w ∈ tw_W := tw_all (by decide +kernel)
theorem dX11_word_5 : decode cX11_word 5 = .ok (.aload_n 0, 1) := by decide +kernel
theorem dX11_word_6 : decode cX11_word 6 = .ok (.getfield 66, 3) := by decide +kernel
theorem dX11_word_9 : decode cX11_word 9 = .ok (.iload_n 1, 1) := by decide +kernel
theorem dX11_word_10 : decode cX11_word 10 = .ok (.invokevirtual 190, 3) := by decide +kernel
theorem dX6_wordAt_22 : decode cX6_wordAt 22 = .ok (.iconst 0, 1) := by decide +kernel
theorem tw_286 : ∀ w ∈ ([.methodLink RX11 190 yX6_wordAt, .instanceMethod yX6_wordAt, .selects RX6 yX6_wordAt yX6_wordAt, .initialized RX6] : List Cond), w ∈ tw_W := tw_all (by decide +kernel)
theorem dX11_word_13 : decode cX11_word 13 = .ok (.ireturn, 1) := by decide +kernel
theorem dX11_poke_0 : decode cX11_poke 0 = .ok (.aload_n 0, 1) := by decide +kernel
theorem dX11_poke_1 : decode cX11_poke 1 = .ok (.iload_n 1, 1) := by decide +kernel
theorem dX11_poke_2 : decode cX11_poke 2 = .ok (.invokevirtual 187, 3) := by decide +kernel
theorem dX11_poke_5 : decode cX11_poke 5 = .ok (.aload_n 0, 1) := by decide +kernel
theorem dX11_poke_6 : decode cX11_poke 6 = .ok (.getfield 66, 3) := by decide +kernel
theorem dX11_poke_9 : decode cX11_poke 9 = .ok (.iload_n 1, 1) := by decide +kernel
theorem dX11_poke_10 : decode cX11_poke 10 = .ok (.iload_n 2, 1) := by decide +kernel
theorem dX11_poke_11 : decode cX11_poke 11 = .ok (.invokevirtual 191, 3) := by decide +kernel
theorem dX6_layWord_0 : decode cX6_layWord 0 = .ok (.iload_n 1, 1) := by decide +kernel
theorem dX6_layWord_1 : decode cX6_layWord 1 = .ok (.iconst 2, 1) := by decide +kernel
theorem dX6_layWord_2 : decode cX6_layWord 2 = .ok (.iushr, 1) := by decide +kernel
theorem dX6_layWord_3 : decode cX6_layWord 3 = .ok (.istore_n 3, 1) := by decide +kernel
theorem dX6_layWord_4 : decode cX6_layWord 4 = .ok (.iload_n 3, 1) := by decide +kernel
theorem dX6_layWord_5 : decode cX6_layWord 5 = .ok (.aload_n 0, 1) := by decide +kernel
theorem dX6_layWord_6 : decode cX6_layWord 6 = .ok (.getfield 18, 3) := by decide +kernel
theorem dX6_layWord_9 : decode cX6_layWord 9 = .ok (.arraylength, 1) := by decide +kernel
theorem dX6_layWord_10 : decode cX6_layWord 10 = .ok (.if_icmp .ge 10, 3) := by decide +kernel
theorem dX6_layWord_20 : decode cX6_layWord 20 = .ok (.return_, 1) := by decide +kernel
theorem dX6_layWord_13 : decode cX6_layWord 13 = .ok (.aload_n 0, 1) := by decide +kernel
theorem dX6_layWord_14 : decode cX6_layWord 14 = .ok (.getfield 18, 3) := by decide +kernel
theorem dX6_layWord_17 : decode cX6_layWord 17 = .ok (.iload_n 3, 1) := by decide +kernel
theorem dX6_layWord_18 : decode cX6_layWord 18 = .ok (.iload_n 2, 1) := by decide +kernel
theorem dX6_layWord_19 : decode cX6_layWord 19 = .ok (.iastore, 1) := by decide +kernel
theorem tw_287 : (.code yX6_layWord cX6_layWord 4 none : Cond) ∈ tw_W := tw_in (by decide +kernel) (by decide +kernel)
theorem tw_288 : ∀ w ∈ ([.methodLink RX11 191 yX6_layWord, .instanceMethod yX6_layWord, .selects RX6 yX6_layWord yX6_layWord, .initialized RX6] : List Cond), w ∈ tw_W := tw_all (by decide +kernel)
theorem dX11_poke_14 : decode cX11_poke 14 = .ok (.return_, 1) := by decide +kernel
theorem dX11_work_0 : decode cX11_work 0 = .ok (.aload_n 0, 1) := by decide +kernel
theorem dX11_work_1 : decode cX11_work 1 = .ok (.getfield 36, 3) := by decide +kernel
theorem dX11_work_4 : decode cX11_work 4 = .ok (.iload_n 1, 1) := by decide +kernel
theorem dX11_work_5 : decode cX11_work 5 = .ok (.iconst 0, 1) := by decide +kernel
theorem dX11_work_6 : decode cX11_work 6 = .ok (.invokevirtual 130, 3) := by decide +kernel
theorem dX11_work_9 : decode cX11_work 9 = .ok (.istore 5, 2) := by decide +kernel
theorem dX11_work_11 : decode cX11_work 11 = .ok (.iload 5, 2) := by decide +kernel
theorem dX11_work_13 : decode cX11_work 13 = .ok (.iconst (-1), 1) := by decide +kernel
theorem dX11_work_14 : decode cX11_work 14 = .ok (.if_icmp .ne 13, 3) := by decide +kernel
theorem dX11_work_17 : decode cX11_work 17 = .ok (.new 205, 3) := by decide +kernel
theorem dX11_work_20 : decode cX11_work 20 = .ok (.dup, 1) := by decide +kernel
theorem dX11_work_21 : decode cX11_work 21 = .ok (.ldc 219, 2) := by decide +kernel
theorem dX11_work_23 : decode cX11_work 23 = .ok (.invokespecial 209, 3) := by decide +kernel
theorem dX11_work_26 : decode cX11_work 26 = .ok (.athrow, 1) := by decide +kernel
theorem dX11_worked_0 : decode cX11_worked 0 = .ok (.aload_n 0, 1) := by decide +kernel
theorem dX11_worked_1 : decode cX11_worked 1 = .ok (.getfield 75, 3) := by decide +kernel
theorem dX11_worked_4 : decode cX11_worked 4 = .ok (.getfield 232, 3) := by decide +kernel
theorem dX11_worked_7 : decode cX11_worked 7 = .ok (.ifCond .eq 25, 3) := by decide +kernel
theorem dX11_worked_32 : decode cX11_worked 32 = .ok (.new 205, 3) := by decide +kernel
theorem dX11_worked_35 : decode cX11_worked 35 = .ok (.dup, 1) := by decide +kernel
theorem dX11_worked_36 : decode cX11_worked 36 = .ok (.ldc 207, 2) := by decide +kernel
theorem dX11_worked_38 : decode cX11_worked 38 = .ok (.invokespecial 209, 3) := by decide +kernel
theorem dX11_worked_41 : decode cX11_worked 41 = .ok (.athrow, 1) := by decide +kernel
theorem dX11_left_0 : decode cX11_left 0 = .ok (.aload_n 0, 1) := by decide +kernel
theorem dX11_left_1 : decode cX11_left 1 = .ok (.getfield 75, 3) := by decide +kernel
theorem dX11_left_4 : decode cX11_left 4 = .ok (.getfield 232, 3) := by decide +kernel
theorem dX11_left_7 : decode cX11_left 7 = .ok (.ifCond .eq 20, 3) := by decide +kernel
theorem dX11_left_27 : decode cX11_left 27 = .ok (.new 205, 3) := by decide +kernel
theorem dX11_left_30 : decode cX11_left 30 = .ok (.dup, 1) := by decide +kernel
theorem dX11_left_31 : decode cX11_left 31 = .ok (.ldc 238, 2) := by decide +kernel
theorem dX11_left_33 : decode cX11_left 33 = .ok (.invokespecial 209, 3) := by decide +kernel
theorem dX11_left_36 : decode cX11_left 36 = .ok (.athrow, 1) := by decide +kernel
set_option maxHeartbeats 4000000 in
set_option maxRecDepth 100000 in
theorem c_X7_wordAt (l : Launch) (dC : Nat → ClassId) (dI : Nat → Nat → Nat) (cI cB cZ cJ cR : ClassId) (tb : Nat → Nat) (sz : Nat) (a0_ : Nat) (x0_ : Int32) (a1_ : Nat) (a2_ : Nat) (a3_ : Nat) (a4_ : Nat) (a5_ : Nat) (a6_ : Nat) (a7_ : Nat) (N : Nat) (hf_N_0 : 256 ≤ N) (hf_N_1 : N ≤ 4096) : Met l yX7_wordAt (Cond.code yX7_wordAt cX7_wordAt 2 (some .int) :: tw_W) ({ frames := 0, cells := 0, slots := 0, locals := 0 }) (pc_ (dC, dI) (tyS cI cB cZ cJ cR) tb [(a0_, .inr (10, [.ref a1_, .int 0, .ref a2_, .int 0, .ref a3_, .int 0, .ref a4_, .ref a5_, .ref a6_, .int 0, .ref a7_, .int 2, .int 8])), (a7_, .inl (cI, N, .inl (upd (upd (fun _ => 0) 0 2195) 1 1048691)))] sz [.ref a0_, .int x0_]) (qi_ (dC, dI) [(a0_, .inr (10, [.ref a1_, .int 0, .ref a2_, .int 0, .ref a3_, .int 0, .ref a4_, .ref a5_, .ref a6_, .int 0, .ref a7_, .int 2, .int 8])), (a7_, .inl (cI, N, .inl (upd (upd (fun _ => 0) 0 2195) 1 1048691)))] sz (fun (r : Int32) (u : Unit) => r = (if x0_ < 0 then 0 else (if 2 ≤ x0_ then 0 else (if (nI N) ≤ x0_ then 0 else ((upd (upd (fun _ => 0) 0 2195) 1 1048691) x0_.toNatClampNeg))))) (fun (u : Unit) => [(a0_, .inr (10, [.ref a1_, .int 0, .ref a2_, .int 0, .ref a3_, .int 0, .ref a4_, .ref a5_, .ref a6_, .int 0, .ref a7_, .int 2, .int 8])), (a7_, .inl (cI, N, .inl (upd (upd (fun _ => 0) 0 2195) 1 1048691)))])) 0 0 (va_A [(a0_, .inr (10, [.ref a1_, .int 0, .ref a2_, .int 0, .ref a3_, .int 0, .ref a4_, .ref a5_, .ref a6_, .int 0, .ref a7_, .int 2, .int 8])), (a7_, .inl (cI, N, .inl (upd (upd (fun _ => 0) 0 2195) 1 1048691)))] sz) := by
  refine Met.ofW (cc := cX7_wordAt) (maxL := 2) (ret := (some .int)) (by decide) rfl ?_
  intro p e s m args below meth c s₁ B hml hv
  obtain ⟨rfl, hsz, hP, hKK, hD0, hFx⟩ := hv
  have hK := hKK.1
  have hx := B.exec
  have hb := B.bytes
  have hr := B.returns
  have ht : ∀ w ∈ tw_W, w.before _ s = true := fun w h => atoms_spec (ws := Cond.code yX7_wordAt cX7_wordAt 2 (some .int) :: tw_W) B.pre w (List.mem_cons_of_mem _ h)
  have hown : s.vm.findClass RX7 = some m.cls := findClass_of_methodNamed B.named
  have hlocks := B.notSynchronized
  subst hsz
  unfold qi_
  have hD := hD0.self (sz := s.heap.size)
  generalize hAe : va_A [(a0_, .inr (10, [.ref a1_, .int 0, .ref a2_, .int 0, .ref a3_, .int 0, .ref a4_, .ref a5_, .ref a6_, .int 0, .ref a7_, .int 2, .int 8])), (a7_, .inl (cI, N, .inl (upd (upd (fun _ => 0) 0 2195) 1 1048691)))] s.heap.size = A at hD hFx ⊢
  have hA : ∀ q : Nat, s.heap.size ≤ q → A q := fun q h => by rw [← hAe]; exact Or.inr h
  have hS : va_S A s.heap s.heap [] := va_S.rf
  have hP : va_P (dC, dI) vwCl [(a0_, .inr (10, [.ref a1_, .int 0, .ref a2_, .int 0, .ref a3_, .int 0, .ref a4_, .ref a5_, .ref a6_, .int 0, .ref a7_, .int 2, .int 8])), (a7_, .inl (cI, N, .inl (upd (upd (fun _ => 0) 0 2195) 1 1048691)))] s.heap := hP
  have hl := lv_entry ([.ref a0_, .int x0_]) (n := 2) (Nat.le_of_ble_eq_true rfl)
  rw [lg_entry_eq]
  generalize (lg_sl ([.ref a0_, .int x0_]) ++ List.replicate (2 - (lg_sl ([.ref a0_, .int x0_])).length) Slot.unset).toArray = ls at hl ⊢
  have hl : lv_has ls 2 [(0, .ref a0_), (1, .int x0_)] := hl
  refine lv_iload_n hx hb dX7_wordAt_0 rfl (lv_at hl 1 rfl) ?_
  refine lv_if_lt (tgt := 30) hx hb dX7_wordAt_1 (by decide) (fun h1 => ?_) (fun h1 => ?_)
  · refine lv_iconst (v := 0) hx hb dX7_wordAt_30 (by decide) ?_
    have hP9 := hP.sub (ws' := [(a0_, .inr (10, [.ref a1_, .int 0, .ref a2_, .int 0, .ref a3_, .int 0, .ref a4_, .ref a5_, .ref a6_, .int 0, .ref a7_, .int 2, .int 8])), (a7_, .inl (cI, N, .inl (upd (upd (fun _ => 0) 0 2195) 1 1048691)))]) [0, 1] rfl
    have hD9 := hD.sub (ws' := [(a0_, .inr (10, [.ref a1_, .int 0, .ref a2_, .int 0, .ref a3_, .int 0, .ref a4_, .ref a5_, .ref a6_, .int 0, .ref a7_, .int 2, .int 8])), (a7_, .inl (cI, N, .inl (upd (upd (fun _ => 0) 0 2195) 1 1048691)))]) [0, 1] (by decide) rfl
    refine W.widen (k := 0) (n := 0) (by omega) (by omega) ?_
    exact W.iret (v := 0) hx hb hr (fun t ht9 hW => ⟨⟨0, (), rfl, (by rw [if_pos h1]), by rw [ht9]; exact hP9, hD9⟩, hS.F ht9⟩) hS.2.2 dX7_wordAt_31
  · refine lv_iload_n hx hb dX7_wordAt_4 rfl (lv_at hl 1 rfl) ?_
    refine lv_aload_n hx hb dX7_wordAt_5 rfl (lv_at hl 0 rfl) ?_
    refine va_get (D := (dC, dI)) (ci := 10) (v := .int 2) (C := RX7) (T := TX7) (N := 13) hx hb ht itX7 hown hK hP 0 rfl rfl 11 (by decide) (ht _ tw_170) (fun _ h9 => h9) rfl dX7_wordAt_6 ?_
    refine lv_icmp_ge (tgt := 30) hx hb dX7_wordAt_9 (by decide) (fun h2 => ?_) (fun h2 => ?_)
    · refine lv_iconst (v := 0) hx hb dX7_wordAt_30 (by decide) ?_
      have hP9 := hP.sub (ws' := [(a0_, .inr (10, [.ref a1_, .int 0, .ref a2_, .int 0, .ref a3_, .int 0, .ref a4_, .ref a5_, .ref a6_, .int 0, .ref a7_, .int 2, .int 8])), (a7_, .inl (cI, N, .inl (upd (upd (fun _ => 0) 0 2195) 1 1048691)))]) [0, 1] rfl
      have hD9 := hD.sub (ws' := [(a0_, .inr (10, [.ref a1_, .int 0, .ref a2_, .int 0, .ref a3_, .int 0, .ref a4_, .ref a5_, .ref a6_, .int 0, .ref a7_, .int 2, .int 8])), (a7_, .inl (cI, N, .inl (upd (upd (fun _ => 0) 0 2195) 1 1048691)))]) [0, 1] (by decide) rfl
      refine W.widen (k := 0) (n := 0) (by omega) (by omega) ?_
      exact W.iret (v := 0) hx hb hr (fun t ht9 hW => ⟨⟨0, (), rfl, (by rw [if_neg h1, if_pos h2]), by rw [ht9]; exact hP9, hD9⟩, hS.F ht9⟩) hS.2.2 dX7_wordAt_31
    · refine lv_iload_n hx hb dX7_wordAt_12 rfl (lv_at hl 1 rfl) ?_
      refine lv_aload_n hx hb dX7_wordAt_13 rfl (lv_at hl 0 rfl) ?_
      refine va_get (D := (dC, dI)) (ci := 10) (v := .ref a7_) (C := RX7) (T := TX7) (N := 13) hx hb ht itX7 hown hK hP 0 rfl rfl 10 (by decide) (ht _ tw_11) (fun _ h9 => h9) rfl dX7_wordAt_14 ?_
      refine va_alen (D := (dC, dI)) (v := (nI N)) hx hb hK hP 1 0 rfl rfl rfl dX7_wordAt_17 ?_
      refine lv_icmp_ge (tgt := 30) hx hb dX7_wordAt_18 (by decide) (fun h3 => ?_) (fun h3 => ?_)
      · refine lv_iconst (v := 0) hx hb dX7_wordAt_30 (by decide) ?_
        have hP9 := hP.sub (ws' := [(a0_, .inr (10, [.ref a1_, .int 0, .ref a2_, .int 0, .ref a3_, .int 0, .ref a4_, .ref a5_, .ref a6_, .int 0, .ref a7_, .int 2, .int 8])), (a7_, .inl (cI, N, .inl (upd (upd (fun _ => 0) 0 2195) 1 1048691)))]) [0, 1] rfl
        have hD9 := hD.sub (ws' := [(a0_, .inr (10, [.ref a1_, .int 0, .ref a2_, .int 0, .ref a3_, .int 0, .ref a4_, .ref a5_, .ref a6_, .int 0, .ref a7_, .int 2, .int 8])), (a7_, .inl (cI, N, .inl (upd (upd (fun _ => 0) 0 2195) 1 1048691)))]) [0, 1] (by decide) rfl
        refine W.widen (k := 0) (n := 0) (by omega) (by omega) ?_
        exact W.iret (v := 0) hx hb hr (fun t ht9 hW => ⟨⟨0, (), rfl, (by rw [if_neg h1, if_neg h2, if_pos h3]), by rw [ht9]; exact hP9, hD9⟩, hS.F ht9⟩) hS.2.2 dX7_wordAt_31
      · refine lv_aload_n hx hb dX7_wordAt_21 rfl (lv_at hl 0 rfl) ?_
        refine va_get (D := (dC, dI)) (ci := 10) (v := .ref a7_) (C := RX7) (T := TX7) (N := 13) hx hb ht itX7 hown hK hP 0 rfl rfl 10 (by decide) (ht _ tw_11) (fun _ h9 => h9) rfl dX7_wordAt_22 ?_
        refine lv_iload_n hx hb dX7_wordAt_25 rfl (lv_at hl 1 rfl) ?_
        refine va_iald (D := (dC, dI)) hx hb hK hP 1 0 rfl rfl (vp_in_iff.mpr (by rw [Int32.lt_iff_toInt_lt] at h1; rw [Int32.le_iff_toInt_le] at h2; have : (0 : Int32).toInt = 0 := (by decide); have : (2 : Int32).toInt = 2 := (by decide); constructor <;> omega)) dX7_wordAt_26 ?_
        refine lv_goto (tgt := 31) hx hb dX7_wordAt_27 (by decide) ?_
        have hP9 := hP.sub (ws' := [(a0_, .inr (10, [.ref a1_, .int 0, .ref a2_, .int 0, .ref a3_, .int 0, .ref a4_, .ref a5_, .ref a6_, .int 0, .ref a7_, .int 2, .int 8])), (a7_, .inl (cI, N, .inl (upd (upd (fun _ => 0) 0 2195) 1 1048691)))]) [0, 1] rfl
        have hD9 := hD.sub (ws' := [(a0_, .inr (10, [.ref a1_, .int 0, .ref a2_, .int 0, .ref a3_, .int 0, .ref a4_, .ref a5_, .ref a6_, .int 0, .ref a7_, .int 2, .int 8])), (a7_, .inl (cI, N, .inl (upd (upd (fun _ => 0) 0 2195) 1 1048691)))]) [0, 1] (by decide) rfl
        refine W.widen (k := 0) (n := 0) (by omega) (by omega) ?_
        exact W.iret (v := ((upd (upd (fun _ => 0) 0 2195) 1 1048691) x0_.toNatClampNeg)) hx hb hr (fun t ht9 hW => ⟨⟨((upd (upd (fun _ => 0) 0 2195) 1 1048691) x0_.toNatClampNeg), (), rfl, (by rw [if_neg h1, if_neg h2, if_neg h3]), by rw [ht9]; exact hP9, hD9⟩, hS.F ht9⟩) hS.2.2 dX7_wordAt_31
set_option maxHeartbeats 4000000 in
set_option maxRecDepth 100000 in
/-- X11_code on a new object: it returns or throws -/
theorem c_X11_code (l : Launch) (dC : Nat → ClassId) (dI : Nat → Nat → Nat) (cI cB cZ cJ cR : ClassId) (tb : Nat → Nat) (hst : l.stackTraces = false) (sz : Nat) (h0 : Nat) (pa : Int32) (q1 : Nat) (q9 : Nat) (q18 : Nat) (q27 : Nat) (q42 : Nat) (q2 : Nat) (q45 : Nat) (q50 : Nat) (q5 : Nat) (q17 : Nat) (N : Nat) (q11 : Nat) (q12 : Nat) (q13 : Nat) (q14 : Nat) (q15 : Nat) (q16 : Nat) (hf_N_0 : 256 ≤ N) (hf_N_1 : N ≤ 4096) : vx_Met l yX11_code (Cond.code yX11_code cX11_code 2 (some .int) :: tw_W) ({ frames := 6, cells := 1, slots := 6, locals := 82 }) (pc_ (dC, dI) (tyS cI cB cZ cJ cR) tb [(h0, .inr (14, [.ref q1, .int 0, .ref q9, .ref q18, .ref q27, .ref q42, .int 0, .int (-1), .ref q2, .ref q45, .ref q50, .ref q5])), (q17, .inl (cI, N, .inl (upd (upd (fun _ => 0) 0 2195) 1 1048691))), (q9, .inr (10, [.ref q11, .int 0, .ref q12, .int 0, .ref q13, .int 0, .ref q14, .ref q15, .ref q16, .int 0, .ref q17, .int 2, .int 8]))] sz [.ref h0, .int pa]) (qi_ (dC, dI) [(h0, .inr (14, [.ref q1, .int 0, .ref q9, .ref q18, .ref q27, .ref q42, .int 0, .int (-1), .ref q2, .ref q45, .ref q50, .ref q5])), (q17, .inl (cI, N, .inl (upd (upd (fun _ => 0) 0 2195) 1 1048691))), (q9, .inr (10, [.ref q11, .int 0, .ref q12, .int 0, .ref q13, .int 0, .ref q14, .ref q15, .ref q16, .int 0, .ref q17, .int 2, .int 8]))] sz (fun (r : Int32) (u : Unit) => (0 ≤ pa ∧ r = (if pa < 0 then 0 else (if 2 ≤ pa then 0 else (if (nI N) ≤ pa then 0 else ((upd (upd (fun _ => 0) 0 2195) 1 1048691) pa.toNatClampNeg)))))) (fun (u : Unit) => [])) (qx_ [(h0, .inr (14, [.ref q1, .int 0, .ref q9, .ref q18, .ref q27, .ref q42, .int 0, .int (-1), .ref q2, .ref q45, .ref q50, .ref q5])), (q17, .inl (cI, N, .inl (upd (upd (fun _ => 0) 0 2195) 1 1048691))), (q9, .inr (10, [.ref q11, .int 0, .ref q12, .int 0, .ref q13, .int 0, .ref q14, .ref q15, .ref q16, .int 0, .ref q17, .int 2, .int 8]))] sz (fun E => (¬ (0 ≤ pa) ∧ E = "java/lang/IndexOutOfBoundsException"))) 1 6 (va_A [(h0, .inr (14, [.ref q1, .int 0, .ref q9, .ref q18, .ref q27, .ref q42, .int 0, .int (-1), .ref q2, .ref q45, .ref q50, .ref q5])), (q17, .inl (cI, N, .inl (upd (upd (fun _ => 0) 0 2195) 1 1048691))), (q9, .inr (10, [.ref q11, .int 0, .ref q12, .int 0, .ref q13, .int 0, .ref q14, .ref q15, .ref q16, .int 0, .ref q17, .int 2, .int 8]))] sz) := by
  refine vx_ofW (cc := cX11_code) (maxL := 2) (ret := (some .int)) (by decide) rfl ?_
  intro p e s m args below meth c s₁ B hml hnt hv
  obtain ⟨rfl, hsz, hP, hKK, hD0, hFx⟩ := hv
  have hK := hKK.1
  have hx := B.exec
  have hb := B.bytes
  have hr := B.returns
  have ht : ∀ w ∈ tw_W, w.before _ s = true := fun w h => atoms_spec (ws := Cond.code yX11_code cX11_code 2 (some .int) :: tw_W) B.pre w (List.mem_cons_of_mem _ h)
  have hown : s.vm.findClass RX11 = some m.cls := findClass_of_methodNamed B.named
  have hlocks := B.notSynchronized
  subst hsz
  unfold qi_ qx_
  have hD := hD0.self (sz := s.heap.size)
  generalize hAe : va_A [(h0, .inr (14, [.ref q1, .int 0, .ref q9, .ref q18, .ref q27, .ref q42, .int 0, .int (-1), .ref q2, .ref q45, .ref q50, .ref q5])), (q17, .inl (cI, N, .inl (upd (upd (fun _ => 0) 0 2195) 1 1048691))), (q9, .inr (10, [.ref q11, .int 0, .ref q12, .int 0, .ref q13, .int 0, .ref q14, .ref q15, .ref q16, .int 0, .ref q17, .int 2, .int 8]))] s.heap.size = A at hD hFx ⊢
  have hA : ∀ q : Nat, s.heap.size ≤ q → A q := fun q h => by rw [← hAe]; exact Or.inr h
  have hS : va_S A s.heap s.heap [] := va_S.rf
  have hP : va_P (dC, dI) vwCl [(h0, .inr (14, [.ref q1, .int 0, .ref q9, .ref q18, .ref q27, .ref q42, .int 0, .int (-1), .ref q2, .ref q45, .ref q50, .ref q5])), (q17, .inl (cI, N, .inl (upd (upd (fun _ => 0) 0 2195) 1 1048691))), (q9, .inr (10, [.ref q11, .int 0, .ref q12, .int 0, .ref q13, .int 0, .ref q14, .ref q15, .ref q16, .int 0, .ref q17, .int 2, .int 8]))] s.heap := hP
  have hl := lv_entry ([.ref h0, .int pa]) (n := 2) (Nat.le_of_ble_eq_true rfl)
  rw [lg_entry_eq]
  generalize (lg_sl ([.ref h0, .int pa]) ++ List.replicate (2 - (lg_sl ([.ref h0, .int pa])).length) Slot.unset).toArray = ls at hl ⊢
  have hl : lv_has ls 2 [(0, .ref h0), (1, .int pa)] := hl
  refine lv_iload_n hx hb dX11_code_0 rfl (lv_at hl 1 rfl) ?_
  refine lv_if_ge (tgt := 14) hx hb dX11_code_1 (by decide) (fun h1 => ?_) (fun h1 => ?_)
  · refine lv_aload_n hx hb dX11_code_14 rfl (lv_at hl 0 rfl) ?_
    refine va_get (D := (dC, dI)) (ci := 14) (v := .ref q9) (C := RX11) (T := TX11) (N := 12) hx hb ht itX11 hown hK hP 0 rfl rfl 2 (by decide) (ht _ tw_110) (fun _ h9 => h9) rfl dX11_code_15 ?_
    refine lv_iload_n hx hb dX11_code_18 rfl (lv_at hl 1 rfl) ?_
    refine ca_i (wr := [(h0, .inr (14, [.ref q1, .int 0, .ref q9, .ref q18, .ref q27, .ref q42, .int 0, .int (-1), .ref q2, .ref q45, .ref q50, .ref q5]))]) (rn_V (n := 1) (As := [.int pa]) (rest := []) hx hb hml hown ht hKK hFx hP hD hS hA (c_X7_wordAt l dC dI cI cB cZ cJ cR tb s.heap.size q9 pa q11 q12 q13 q14 q15 q16 q17 N (by omega) (by omega)) tw_266 tw_267 (by decide +kernel) rfl rfl ⟨Nat.le_of_ble_eq_true rfl, Nat.le_of_ble_eq_true rfl⟩ [2, 1] rfl (by decide) rfl rfl rfl rfl hl.1 rfl (Nat.le_of_ble_eq_true rfl) dX11_code_19 ⟨Nat.le_of_ble_eq_true rfl, Nat.le_of_ble_eq_true rfl⟩) hP hD hS hA (isC := [2, 1]) (isR := [0]) rfl rfl (by decide) (by decide) (fun r3 u H locs hw2 hP hD hS => ?_)
    subst hw2
    have hP : va_P (dC, dI) vwCl [(h0, .inr (14, [.ref q1, .int 0, .ref q9, .ref q18, .ref q27, .ref q42, .int 0, .int (-1), .ref q2, .ref q45, .ref q50, .ref q5])), (q9, .inr (10, [.ref q11, .int 0, .ref q12, .int 0, .ref q13, .int 0, .ref q14, .ref q15, .ref q16, .int 0, .ref q17, .int 2, .int 8])), (q17, .inl (cI, N, .inl (upd (upd (fun _ => 0) 0 2195) 1 1048691)))] H := hP
    have hD : va_D A [(h0, .inr (14, [.ref q1, .int 0, .ref q9, .ref q18, .ref q27, .ref q42, .int 0, .int (-1), .ref q2, .ref q45, .ref q50, .ref q5])), (q9, .inr (10, [.ref q11, .int 0, .ref q12, .int 0, .ref q13, .int 0, .ref q14, .ref q15, .ref q16, .int 0, .ref q17, .int 2, .int 8])), (q17, .inl (cI, N, .inl (upd (upd (fun _ => 0) 0 2195) 1 1048691)))] := hD
    refine W.widen (k := 0) (n := 0) (by omega) (by omega) ?_
    have hP9 := hP.sub (ws' := []) [] rfl
    have hD9 := hD.sub (ws' := []) [] (by decide) rfl
    refine W.widen (k := 1) (n := 6) (by omega) (by omega) ?_
    refine vx_ret ?_
    exact W.iret (v := (if pa < 0 then 0 else (if 2 ≤ pa then 0 else (if (nI N) ≤ pa then 0 else ((upd (upd (fun _ => 0) 0 2195) 1 1048691) pa.toNatClampNeg))))) hx hb hr (fun t ht9 hW => ⟨⟨(if pa < 0 then 0 else (if 2 ≤ pa then 0 else (if (nI N) ≤ pa then 0 else ((upd (upd (fun _ => 0) 0 2195) 1 1048691) pa.toNatClampNeg)))), (), rfl, (⟨h1, rfl⟩), by rw [ht9]; exact hP9, hD9⟩, hS.F ht9⟩) hS.2.2 dX11_code_22
  · refine vx_throwS (names := ["java/lang/RuntimeException", "java/lang/Exception"]) (A := A) hx hb hst hown (by decide +kernel) (by decide +kernel) (ht _ tw_268) (ht _ tw_269) (hKK.2.2.2.2.1 _ (List.mem_of_getElem? (i := 13) rfl)) (vx_hat (fun w h => ht w (xat_0 w h)) xat_0_n (vx_c (va_Nw.use rfl (hKK.2.2.2.2.2.1 _ (List.mem_of_getElem? (i := 0) rfl))) (vx_c (dcl_0 ht) (vx_c (dcl_1 ht) (vx_c (dcl_2 ht) vx_n))))) xat_0_o hFx.2.2.2.2.1 hFx.2.2.2.2.2.1 hS (by rw [hml]; exact hl.1) dX11_code_4 dX11_code_7 dX11_code_8 dX11_code_10 dX11_code_13 (fun x h9 => (hnt x h9).elim) (Nat.le_of_ble_eq_true rfl) (Nat.le_of_ble_eq_true rfl) (Nat.le_of_ble_eq_true rfl) (Nat.le_of_ble_eq_true rfl) hlocks (fun t9 hv9 hz9 hk9 => ⟨(), trivial, (⟨h1, rfl⟩), ⟨Nat.le_trans hS.1 hz9, fun q h1 h2 => (hk9 q (Nat.lt_of_lt_of_le h1 hS.1)).trans (hS.2.1 q h1 h2)⟩⟩) hS.2.2 (Nat.le_of_ble_eq_true rfl) (Nat.le_of_ble_eq_true rfl)
set_option maxHeartbeats 4000000 in
set_option maxRecDepth 100000 in
/-- X11_find on a new object: it returns or throws -/
theorem c_X11_find (l : Launch) (dC : Nat → ClassId) (dI : Nat → Nat → Nat) (cI cB cZ cJ cR : ClassId) (tb : Nat → Nat) (hst : l.stackTraces = false) (sz : Nat) (h0 : Nat) (pa : Int32) (q1 : Nat) (q9 : Nat) (q18 : Nat) (q27 : Nat) (q42 : Nat) (q2 : Nat) (q45 : Nat) (q50 : Nat) (q5 : Nat) (q11 : Nat) (q12 : Nat) (q13 : Nat) (q14 : Nat) (q15 : Nat) (q16 : Nat) (q17 : Nat)  : vx_Met l yX11_find (Cond.code yX11_find cX11_find 5 (some .int) :: tw_W) ({ frames := 6, cells := 1, slots := 6, locals := 82 }) (pc_ (dC, dI) (tyS cI cB cZ cJ cR) tb [(h0, .inr (14, [.ref q1, .int 0, .ref q9, .ref q18, .ref q27, .ref q42, .int 0, .int (-1), .ref q2, .ref q45, .ref q50, .ref q5])), (q9, .inr (10, [.ref q11, .int 0, .ref q12, .int 0, .ref q13, .int 0, .ref q14, .ref q15, .ref q16, .int 0, .ref q17, .int 2, .int 8]))] sz [.ref h0, .int pa]) (qi_ (dC, dI) [(h0, .inr (14, [.ref q1, .int 0, .ref q9, .ref q18, .ref q27, .ref q42, .int 0, .int (-1), .ref q2, .ref q45, .ref q50, .ref q5])), (q9, .inr (10, [.ref q11, .int 0, .ref q12, .int 0, .ref q13, .int 0, .ref q14, .ref q15, .ref q16, .int 0, .ref q17, .int 2, .int 8]))] sz (fun (r : Int32) (u : Unit) => (pa = 0 ∧ r = (-1)) ∨ (¬ (pa = 0) ∧ pa = 1 ∧ r = (-1))) (fun (u : Unit) => [])) (qx_ [(h0, .inr (14, [.ref q1, .int 0, .ref q9, .ref q18, .ref q27, .ref q42, .int 0, .int (-1), .ref q2, .ref q45, .ref q50, .ref q5])), (q9, .inr (10, [.ref q11, .int 0, .ref q12, .int 0, .ref q13, .int 0, .ref q14, .ref q15, .ref q16, .int 0, .ref q17, .int 2, .int 8]))] sz (fun E => (¬ (pa = 0) ∧ ¬ (pa = 1) ∧ E = "java/lang/IllegalArgumentException"))) 1 6 (va_A [(h0, .inr (14, [.ref q1, .int 0, .ref q9, .ref q18, .ref q27, .ref q42, .int 0, .int (-1), .ref q2, .ref q45, .ref q50, .ref q5])), (q9, .inr (10, [.ref q11, .int 0, .ref q12, .int 0, .ref q13, .int 0, .ref q14, .ref q15, .ref q16, .int 0, .ref q17, .int 2, .int 8]))] sz) := by
  refine vx_ofW (cc := cX11_find) (maxL := 5) (ret := (some .int)) (by decide) rfl ?_
  intro p e s m args below meth c s₁ B hml hnt hv
  obtain ⟨rfl, hsz, hP, hKK, hD0, hFx⟩ := hv
  have hK := hKK.1
  have hx := B.exec
  have hb := B.bytes
  have hr := B.returns
  have ht : ∀ w ∈ tw_W, w.before _ s = true := fun w h => atoms_spec (ws := Cond.code yX11_find cX11_find 5 (some .int) :: tw_W) B.pre w (List.mem_cons_of_mem _ h)
  have hown : s.vm.findClass RX11 = some m.cls := findClass_of_methodNamed B.named
  have hlocks := B.notSynchronized
  subst hsz
  unfold qi_ qx_
  have hD := hD0.self (sz := s.heap.size)
  generalize hAe : va_A [(h0, .inr (14, [.ref q1, .int 0, .ref q9, .ref q18, .ref q27, .ref q42, .int 0, .int (-1), .ref q2, .ref q45, .ref q50, .ref q5])), (q9, .inr (10, [.ref q11, .int 0, .ref q12, .int 0, .ref q13, .int 0, .ref q14, .ref q15, .ref q16, .int 0, .ref q17, .int 2, .int 8]))] s.heap.size = A at hD hFx ⊢
  have hA : ∀ q : Nat, s.heap.size ≤ q → A q := fun q h => by rw [← hAe]; exact Or.inr h
  have hS : va_S A s.heap s.heap [] := va_S.rf
  have hP : va_P (dC, dI) vwCl [(h0, .inr (14, [.ref q1, .int 0, .ref q9, .ref q18, .ref q27, .ref q42, .int 0, .int (-1), .ref q2, .ref q45, .ref q50, .ref q5])), (q9, .inr (10, [.ref q11, .int 0, .ref q12, .int 0, .ref q13, .int 0, .ref q14, .ref q15, .ref q16, .int 0, .ref q17, .int 2, .int 8]))] s.heap := hP
  have hl := lv_entry ([.ref h0, .int pa]) (n := 5) (Nat.le_of_ble_eq_true rfl)
  rw [lg_entry_eq]
  generalize (lg_sl ([.ref h0, .int pa]) ++ List.replicate (5 - (lg_sl ([.ref h0, .int pa])).length) Slot.unset).toArray = ls at hl ⊢
  have hl : lv_has ls 5 [(0, .ref h0), (1, .int pa)] := hl
  refine lv_iload_n hx hb dX11_find_0 rfl (lv_at hl 1 rfl) ?_
  refine lv_if_eq (tgt := 19) hx hb dX11_find_1 (by decide) (fun h1 => ?_) (fun h1 => ?_)
  · refine lv_iload_n hx hb dX11_find_19 rfl (lv_at hl 1 rfl) ?_
    refine lv_if_ne (tgt := 33) hx hb dX11_find_20 (by decide) (fun k2 => False.elim (by rw [← Int32.toInt_inj] at h1; rw [← Int32.toInt_inj] at k2; have : (0 : Int32).toInt = 0 := (by decide); omega)) (fun _ => ?_)
    refine lv_aload_n hx hb dX11_find_23 rfl (lv_at hl 0 rfl) ?_
    refine va_get (D := (dC, dI)) (ci := 14) (v := .ref q9) (C := RX11) (T := TX11) (N := 12) hx hb ht itX11 hown hK hP 0 rfl rfl 2 (by decide) (ht _ tw_110) (fun _ h9 => h9) rfl dX11_find_24 ?_
    refine va_get (D := (dC, dI)) (ci := 10) (v := .int 0) (C := RX7) (T := TX7) (N := 13) hx hb ht itX7 hown hK hP 1 rfl rfl 3 (by decide) (ht _ tw_254) (fun _ h9 => h9) rfl dX11_find_27 ?_
    refine lv_goto (tgt := 40) hx hb dX11_find_30 (by decide) ?_
    refine lv_istore_n (lv' := [(2, .int 0), (0, .ref h0), (1, .int pa)]) hx hb dX11_find_40 rfl hl (by decide) rfl (fun ls hl => ?_)
    refine lv_iconst (v := 0) hx hb dX11_find_41 (by decide) ?_
    refine lv_istore_n (lv' := [(3, .int 0), (2, .int 0), (0, .ref h0), (1, .int pa)]) hx hb dX11_find_42 rfl hl (by decide) rfl (fun ls hl => ?_)
    refine lv_iload_n hx hb dX11_find_43 rfl (lv_at hl 0 rfl) ?_
    refine lv_iload_n hx hb dX11_find_44 rfl (lv_at hl 1 rfl) ?_
    refine lv_icmp_ge (tgt := 103) hx hb dX11_find_45 (by decide) (fun _ => ?_) (fun k3 => absurd k3 (by decide))
    refine lv_iconst (v := -1) hx hb dX11_find_103 (by decide) ?_
    have hP9 := hP.sub (ws' := []) [] rfl
    have hD9 := hD.sub (ws' := []) [] (by decide) rfl
    refine W.widen (k := 1) (n := 6) (by omega) (by omega) ?_
    refine vx_ret ?_
    exact W.iret (v := (-1)) hx hb hr (fun t ht9 hW => ⟨⟨(-1), (), rfl, (Or.inl ⟨h1, rfl⟩), by rw [ht9]; exact hP9, hD9⟩, hS.F ht9⟩) hS.2.2 dX11_find_104
  · refine lv_iload_n hx hb dX11_find_4 rfl (lv_at hl 1 rfl) ?_
    refine lv_iconst (v := 1) hx hb dX11_find_5 (by decide) ?_
    refine lv_icmp_eq (tgt := 19) hx hb dX11_find_6 (by decide) (fun h4 => ?_) (fun h4 => ?_)
    · refine lv_iload_n hx hb dX11_find_19 rfl (lv_at hl 1 rfl) ?_
      refine lv_if_ne (tgt := 33) hx hb dX11_find_20 (by decide) (fun _ => ?_) (fun k5 => False.elim (by rw [← Int32.toInt_inj] at h1; rw [← Int32.toInt_inj] at h4; rw [← Int32.toInt_inj] at k5; have : (0 : Int32).toInt = 0 := (by decide); have : (1 : Int32).toInt = 1 := (by decide); omega))
      refine lv_aload_n hx hb dX11_find_33 rfl (lv_at hl 0 rfl) ?_
      refine va_get (D := (dC, dI)) (ci := 14) (v := .ref q9) (C := RX11) (T := TX11) (N := 12) hx hb ht itX11 hown hK hP 0 rfl rfl 2 (by decide) (ht _ tw_110) (fun _ h9 => h9) rfl dX11_find_34 ?_
      refine va_get (D := (dC, dI)) (ci := 10) (v := .int 0) (C := RX7) (T := TX7) (N := 13) hx hb ht itX7 hown hK hP 1 rfl rfl 5 (by decide) (ht _ tw_255) (fun _ h9 => h9) rfl dX11_find_37 ?_
      refine lv_istore_n (lv' := [(2, .int 0), (0, .ref h0), (1, .int pa)]) hx hb dX11_find_40 rfl hl (by decide) rfl (fun ls hl => ?_)
      refine lv_iconst (v := 0) hx hb dX11_find_41 (by decide) ?_
      refine lv_istore_n (lv' := [(3, .int 0), (2, .int 0), (0, .ref h0), (1, .int pa)]) hx hb dX11_find_42 rfl hl (by decide) rfl (fun ls hl => ?_)
      refine lv_iload_n hx hb dX11_find_43 rfl (lv_at hl 0 rfl) ?_
      refine lv_iload_n hx hb dX11_find_44 rfl (lv_at hl 1 rfl) ?_
      refine lv_icmp_ge (tgt := 103) hx hb dX11_find_45 (by decide) (fun _ => ?_) (fun k6 => absurd k6 (by decide))
      refine lv_iconst (v := -1) hx hb dX11_find_103 (by decide) ?_
      have hP9 := hP.sub (ws' := []) [] rfl
      have hD9 := hD.sub (ws' := []) [] (by decide) rfl
      refine W.widen (k := 1) (n := 6) (by omega) (by omega) ?_
      refine vx_ret ?_
      exact W.iret (v := (-1)) hx hb hr (fun t ht9 hW => ⟨⟨(-1), (), rfl, (Or.inr (⟨h1, h4, rfl⟩)), by rw [ht9]; exact hP9, hD9⟩, hS.F ht9⟩) hS.2.2 dX11_find_104
    · refine vx_throwS (names := ["java/lang/RuntimeException", "java/lang/Exception"]) (A := A) hx hb hst hown (by decide +kernel) (by decide +kernel) (ht _ tw_270) (ht _ tw_271) (hKK.2.2.2.2.1 _ (List.mem_of_getElem? (i := 14) rfl)) (vx_hat (fun w h => ht w (xat_1 w h)) xat_1_n (vx_c (va_Nw.use rfl (hKK.2.2.2.2.2.1 _ (List.mem_of_getElem? (i := 1) rfl))) (vx_c (dcl_0 ht) (vx_c (dcl_1 ht) (vx_c (dcl_2 ht) vx_n))))) xat_1_o hFx.2.2.2.2.1 hFx.2.2.2.2.2.1 hS (by rw [hml]; exact hl.1) dX11_find_9 dX11_find_12 dX11_find_13 dX11_find_15 dX11_find_18 (fun x h9 => (hnt x h9).elim) (Nat.le_of_ble_eq_true rfl) (Nat.le_of_ble_eq_true rfl) (Nat.le_of_ble_eq_true rfl) (Nat.le_of_ble_eq_true rfl) hlocks (fun t9 hv9 hz9 hk9 => ⟨(), trivial, (⟨h1, h4, rfl⟩), ⟨Nat.le_trans hS.1 hz9, fun q h1 h2 => (hk9 q (Nat.lt_of_lt_of_le h1 hS.1)).trans (hS.2.1 q h1 h2)⟩⟩) hS.2.2 (Nat.le_of_ble_eq_true rfl) (Nat.le_of_ble_eq_true rfl)
set_option maxHeartbeats 4000000 in
set_option maxRecDepth 100000 in
theorem c_X6_valueOf_2 (l : Launch) (dC : Nat → ClassId) (dI : Nat → Nat → Nat) (cI cB cZ cJ cR : ClassId) (tb : Nat → Nat) (sz : Nat) (a0_ : Nat) (x0_ : Int32) (a1_ : Nat) (a2_ : Nat) (a3_ : Nat) (a4_ : Nat)  : Met l yX6_valueOf (Cond.code yX6_valueOf cX6_valueOf 2 (some .int) :: tw_W) ({ frames := 0, cells := 0, slots := 0, locals := 0 }) (pc_ (dC, dI) (tyS cI cB cZ cJ cR) tb [(a0_, .inr (9, [.ref a1_, .ref a2_, .int 0, .int 0, .int 0, .int 0, .ref a3_, .int 0, .ref a4_])), (a2_, .inl (cI, 32, .inl (fun _ => 0)))] sz [.ref a0_, .int x0_]) (qi_ (dC, dI) [(a0_, .inr (9, [.ref a1_, .ref a2_, .int 0, .int 0, .int 0, .int 0, .ref a3_, .int 0, .ref a4_])), (a2_, .inl (cI, 32, .inl (fun _ => 0)))] sz (fun (r : Int32) (u : Unit) => r = 0) (fun (u : Unit) => [(a0_, .inr (9, [.ref a1_, .ref a2_, .int 0, .int 0, .int 0, .int 0, .ref a3_, .int 0, .ref a4_])), (a2_, .inl (cI, 32, .inl (fun _ => 0)))])) 0 0 (va_A [(a0_, .inr (9, [.ref a1_, .ref a2_, .int 0, .int 0, .int 0, .int 0, .ref a3_, .int 0, .ref a4_])), (a2_, .inl (cI, 32, .inl (fun _ => 0)))] sz) := by
  refine Met.ofW (cc := cX6_valueOf) (maxL := 2) (ret := (some .int)) (by decide) rfl ?_
  intro p e s m args below meth c s₁ B hml hv
  obtain ⟨rfl, hsz, hP, hKK, hD0, hFx⟩ := hv
  have hK := hKK.1
  have hx := B.exec
  have hb := B.bytes
  have hr := B.returns
  have ht : ∀ w ∈ tw_W, w.before _ s = true := fun w h => atoms_spec (ws := Cond.code yX6_valueOf cX6_valueOf 2 (some .int) :: tw_W) B.pre w (List.mem_cons_of_mem _ h)
  have hown : s.vm.findClass RX6 = some m.cls := findClass_of_methodNamed B.named
  have hlocks := B.notSynchronized
  subst hsz
  unfold qi_
  have hD := hD0.self (sz := s.heap.size)
  generalize hAe : va_A [(a0_, .inr (9, [.ref a1_, .ref a2_, .int 0, .int 0, .int 0, .int 0, .ref a3_, .int 0, .ref a4_])), (a2_, .inl (cI, 32, .inl (fun _ => 0)))] s.heap.size = A at hD hFx ⊢
  have hA : ∀ q : Nat, s.heap.size ≤ q → A q := fun q h => by rw [← hAe]; exact Or.inr h
  have hS : va_S A s.heap s.heap [] := va_S.rf
  have hP : va_P (dC, dI) vwCl [(a0_, .inr (9, [.ref a1_, .ref a2_, .int 0, .int 0, .int 0, .int 0, .ref a3_, .int 0, .ref a4_])), (a2_, .inl (cI, 32, .inl (fun _ => 0)))] s.heap := hP
  have hl := lv_entry ([.ref a0_, .int x0_]) (n := 2) (Nat.le_of_ble_eq_true rfl)
  rw [lg_entry_eq]
  generalize (lg_sl ([.ref a0_, .int x0_]) ++ List.replicate (2 - (lg_sl ([.ref a0_, .int x0_])).length) Slot.unset).toArray = ls at hl ⊢
  have hl : lv_has ls 2 [(0, .ref a0_), (1, .int x0_)] := hl
  refine lv_aload_n hx hb dX6_valueOf_0 rfl (lv_at hl 0 rfl) ?_
  refine va_get (D := (dC, dI)) (ci := 9) (v := .ref a2_) (C := RX6) (T := TX6) (N := 9) hx hb ht itX6 hown hK hP 0 rfl rfl 1 (by decide) (ht _ tw_132) (fun _ h9 => h9) rfl dX6_valueOf_1 ?_
  refine lv_iload_n hx hb dX6_valueOf_4 rfl (lv_at hl 1 rfl) ?_
  refine lv_bipush (v := 31) hx hb dX6_valueOf_5 (by decide) ?_
  refine lv_iand hx hb dX6_valueOf_7 ?_
  refine va_iald (D := (dC, dI)) hx hb hK hP 1 0 rfl rfl (pk_andIn x0_ 5 (by decide) (by decide)) dX6_valueOf_8 ?_
  refine tp_i (y := 0) (rfl) ?_
  have hP9 := hP.sub (ws' := [(a0_, .inr (9, [.ref a1_, .ref a2_, .int 0, .int 0, .int 0, .int 0, .ref a3_, .int 0, .ref a4_])), (a2_, .inl (cI, 32, .inl (fun _ => 0)))]) [0, 1] rfl
  have hD9 := hD.sub (ws' := [(a0_, .inr (9, [.ref a1_, .ref a2_, .int 0, .int 0, .int 0, .int 0, .ref a3_, .int 0, .ref a4_])), (a2_, .inl (cI, 32, .inl (fun _ => 0)))]) [0, 1] (by decide) rfl
  refine W.widen (k := 0) (n := 0) (by omega) (by omega) ?_
  exact W.iret (v := 0) hx hb hr (fun t ht9 hW => ⟨⟨0, (), rfl, rfl, by rw [ht9]; exact hP9, hD9⟩, hS.F ht9⟩) hS.2.2 dX6_valueOf_9
set_option maxHeartbeats 4000000 in
set_option maxRecDepth 100000 in
/-- X11_register on a new object: it returns or throws -/
theorem c_X11_register (l : Launch) (dC : Nat → ClassId) (dI : Nat → Nat → Nat) (cI cB cZ cJ cR : ClassId) (tb : Nat → Nat) (hst : l.stackTraces = false) (sz : Nat) (h0 : Nat) (pa : Int32) (q1 : Nat) (q9 : Nat) (q18 : Nat) (q27 : Nat) (q42 : Nat) (q2 : Nat) (q45 : Nat) (q50 : Nat) (q5 : Nat) (q47 : Nat) (q48 : Nat) (q49 : Nat)  : vx_Met l yX11_register (Cond.code yX11_register cX11_register 2 (some .int) :: tw_W) ({ frames := 6, cells := 1, slots := 6, locals := 82 }) (pc_ (dC, dI) (tyS cI cB cZ cJ cR) tb [(h0, .inr (14, [.ref q1, .int 0, .ref q9, .ref q18, .ref q27, .ref q42, .int 0, .int (-1), .ref q2, .ref q45, .ref q50, .ref q5])), (q45, .inr (9, [.ref q47, .ref q48, .int 0, .int 0, .int 0, .int 0, .ref q49, .int 0, .ref q2])), (q48, .inl (cI, 32, .inl (fun _ => 0)))] sz [.ref h0, .int pa]) (qi_ (dC, dI) [(h0, .inr (14, [.ref q1, .int 0, .ref q9, .ref q18, .ref q27, .ref q42, .int 0, .int (-1), .ref q2, .ref q45, .ref q50, .ref q5])), (q45, .inr (9, [.ref q47, .ref q48, .int 0, .int 0, .int 0, .int 0, .ref q49, .int 0, .ref q2])), (q48, .inl (cI, 32, .inl (fun _ => 0)))] sz (fun (r : Int32) (u : Unit) => (¬ (pa < 0) ∧ pa ≤ 32 ∧ ¬ pa = 32 ∧ r = 0) ∨ (¬ (pa < 0) ∧ pa ≤ 32 ∧ ¬ (¬ pa = 32) ∧ r = 0)) (fun (u : Unit) => [])) (qx_ [(h0, .inr (14, [.ref q1, .int 0, .ref q9, .ref q18, .ref q27, .ref q42, .int 0, .int (-1), .ref q2, .ref q45, .ref q50, .ref q5])), (q45, .inr (9, [.ref q47, .ref q48, .int 0, .int 0, .int 0, .int 0, .ref q49, .int 0, .ref q2])), (q48, .inl (cI, 32, .inl (fun _ => 0)))] sz (fun E => (pa < 0 ∧ E = "java/lang/IndexOutOfBoundsException") ∨ (¬ (pa < 0) ∧ ¬ (pa ≤ 32) ∧ E = "java/lang/IndexOutOfBoundsException"))) 1 6 (va_A [(h0, .inr (14, [.ref q1, .int 0, .ref q9, .ref q18, .ref q27, .ref q42, .int 0, .int (-1), .ref q2, .ref q45, .ref q50, .ref q5])), (q45, .inr (9, [.ref q47, .ref q48, .int 0, .int 0, .int 0, .int 0, .ref q49, .int 0, .ref q2])), (q48, .inl (cI, 32, .inl (fun _ => 0)))] sz) := by
  refine vx_ofW (cc := cX11_register) (maxL := 2) (ret := (some .int)) (by decide) rfl ?_
  intro p e s m args below meth c s₁ B hml hnt hv
  obtain ⟨rfl, hsz, hP, hKK, hD0, hFx⟩ := hv
  have hK := hKK.1
  have hx := B.exec
  have hb := B.bytes
  have hr := B.returns
  have ht : ∀ w ∈ tw_W, w.before _ s = true := fun w h => atoms_spec (ws := Cond.code yX11_register cX11_register 2 (some .int) :: tw_W) B.pre w (List.mem_cons_of_mem _ h)
  have hown : s.vm.findClass RX11 = some m.cls := findClass_of_methodNamed B.named
  have hlocks := B.notSynchronized
  subst hsz
  unfold qi_ qx_
  have hD := hD0.self (sz := s.heap.size)
  generalize hAe : va_A [(h0, .inr (14, [.ref q1, .int 0, .ref q9, .ref q18, .ref q27, .ref q42, .int 0, .int (-1), .ref q2, .ref q45, .ref q50, .ref q5])), (q45, .inr (9, [.ref q47, .ref q48, .int 0, .int 0, .int 0, .int 0, .ref q49, .int 0, .ref q2])), (q48, .inl (cI, 32, .inl (fun _ => 0)))] s.heap.size = A at hD hFx ⊢
  have hA : ∀ q : Nat, s.heap.size ≤ q → A q := fun q h => by rw [← hAe]; exact Or.inr h
  have hS : va_S A s.heap s.heap [] := va_S.rf
  have hP : va_P (dC, dI) vwCl [(h0, .inr (14, [.ref q1, .int 0, .ref q9, .ref q18, .ref q27, .ref q42, .int 0, .int (-1), .ref q2, .ref q45, .ref q50, .ref q5])), (q45, .inr (9, [.ref q47, .ref q48, .int 0, .int 0, .int 0, .int 0, .ref q49, .int 0, .ref q2])), (q48, .inl (cI, 32, .inl (fun _ => 0)))] s.heap := hP
  have hl := lv_entry ([.ref h0, .int pa]) (n := 2) (Nat.le_of_ble_eq_true rfl)
  rw [lg_entry_eq]
  generalize (lg_sl ([.ref h0, .int pa]) ++ List.replicate (2 - (lg_sl ([.ref h0, .int pa])).length) Slot.unset).toArray = ls at hl ⊢
  have hl : lv_has ls 2 [(0, .ref h0), (1, .int pa)] := hl
  refine lv_iload_n hx hb dX11_register_0 rfl (lv_at hl 1 rfl) ?_
  refine lv_if_lt (tgt := 10) hx hb dX11_register_1 (by decide) (fun h1 => ?_) (fun h1 => ?_)
  · refine vx_throwS (names := ["java/lang/RuntimeException", "java/lang/Exception"]) (A := A) hx hb hst hown (by decide +kernel) (by decide +kernel) (ht _ tw_268) (ht _ tw_269) (hKK.2.2.2.2.1 _ (List.mem_of_getElem? (i := 16) rfl)) (vx_hat (fun w h => ht w (xat_0 w h)) xat_0_n (vx_c (va_Nw.use rfl (hKK.2.2.2.2.2.1 _ (List.mem_of_getElem? (i := 0) rfl))) (vx_c (dcl_0 ht) (vx_c (dcl_1 ht) (vx_c (dcl_2 ht) vx_n))))) xat_0_o hFx.2.2.2.2.1 hFx.2.2.2.2.2.1 hS (by rw [hml]; exact hl.1) dX11_register_10 dX11_register_13 dX11_register_14 dX11_register_16 dX11_register_19 (fun x h9 => (hnt x h9).elim) (Nat.le_of_ble_eq_true rfl) (Nat.le_of_ble_eq_true rfl) (Nat.le_of_ble_eq_true rfl) (Nat.le_of_ble_eq_true rfl) hlocks (fun t9 hv9 hz9 hk9 => ⟨(), trivial, (Or.inl ⟨h1, rfl⟩), ⟨Nat.le_trans hS.1 hz9, fun q h1 h2 => (hk9 q (Nat.lt_of_lt_of_le h1 hS.1)).trans (hS.2.1 q h1 h2)⟩⟩) hS.2.2 (Nat.le_of_ble_eq_true rfl) (Nat.le_of_ble_eq_true rfl)
  · refine lv_iload_n hx hb dX11_register_4 rfl (lv_at hl 1 rfl) ?_
    refine lv_bipush (v := 32) hx hb dX11_register_5 (by decide) ?_
    refine lv_icmp_le (tgt := 20) hx hb dX11_register_7 (by decide) (fun h2 => ?_) (fun h2 => ?_)
    · refine lv_iload_n hx hb dX11_register_20 rfl (lv_at hl 1 rfl) ?_
      refine lv_bipush (v := 32) hx hb dX11_register_21 (by decide) ?_
      refine lv_icmp_ne (tgt := 36) hx hb dX11_register_23 (by decide) (fun h3 => ?_) (fun h3 => ?_)
      · refine lv_aload_n hx hb dX11_register_36 rfl (lv_at hl 0 rfl) ?_
        refine va_get (D := (dC, dI)) (ci := 14) (v := .ref q45) (C := RX11) (T := TX11) (N := 12) hx hb ht itX11 hown hK hP 0 rfl rfl 9 (by decide) (ht _ tw_140) (fun _ h9 => h9) rfl dX11_register_37 ?_
        refine lv_iload_n hx hb dX11_register_40 rfl (lv_at hl 1 rfl) ?_
        refine ca_i (wr := [(h0, .inr (14, [.ref q1, .int 0, .ref q9, .ref q18, .ref q27, .ref q42, .int 0, .int (-1), .ref q2, .ref q45, .ref q50, .ref q5]))]) (rn_V (n := 1) (As := [.int pa]) (rest := []) hx hb hml hown ht hKK hFx hP hD hS hA (c_X6_valueOf_2 l dC dI cI cB cZ cJ cR tb s.heap.size q45 pa q47 q48 q49 q2) tw_238 tw_272 (by decide +kernel) rfl rfl ⟨Nat.le_of_ble_eq_true rfl, Nat.le_of_ble_eq_true rfl⟩ [1, 2] rfl (by decide) rfl rfl rfl rfl hl.1 rfl (Nat.le_of_ble_eq_true rfl) dX11_register_41 ⟨Nat.le_of_ble_eq_true rfl, Nat.le_of_ble_eq_true rfl⟩) hP hD hS hA (isC := [1, 2]) (isR := [0]) rfl rfl (by decide) (by decide) (fun r5 u H locs hw4 hP hD hS => ?_)
        subst hw4
        have hP : va_P (dC, dI) vwCl [(h0, .inr (14, [.ref q1, .int 0, .ref q9, .ref q18, .ref q27, .ref q42, .int 0, .int (-1), .ref q2, .ref q45, .ref q50, .ref q5])), (q45, .inr (9, [.ref q47, .ref q48, .int 0, .int 0, .int 0, .int 0, .ref q49, .int 0, .ref q2])), (q48, .inl (cI, 32, .inl (fun _ => 0)))] H := hP
        have hD : va_D A [(h0, .inr (14, [.ref q1, .int 0, .ref q9, .ref q18, .ref q27, .ref q42, .int 0, .int (-1), .ref q2, .ref q45, .ref q50, .ref q5])), (q45, .inr (9, [.ref q47, .ref q48, .int 0, .int 0, .int 0, .int 0, .ref q49, .int 0, .ref q2])), (q48, .inl (cI, 32, .inl (fun _ => 0)))] := hD
        refine W.widen (k := 0) (n := 0) (by omega) (by omega) ?_
        have hP9 := hP.sub (ws' := []) [] rfl
        have hD9 := hD.sub (ws' := []) [] (by decide) rfl
        refine W.widen (k := 1) (n := 6) (by omega) (by omega) ?_
        refine vx_ret ?_
        exact W.iret (v := 0) hx hb hr (fun t ht9 hW => ⟨⟨0, (), rfl, (Or.inl ⟨h1, h2, h3, rfl⟩), by rw [ht9]; exact hP9, hD9⟩, hS.F ht9⟩) hS.2.2 dX11_register_44
      · refine lv_aload_n hx hb dX11_register_26 rfl (lv_at hl 0 rfl) ?_
        refine va_get (D := (dC, dI)) (ci := 14) (v := .ref q45) (C := RX11) (T := TX11) (N := 12) hx hb ht itX11 hown hK hP 0 rfl rfl 9 (by decide) (ht _ tw_140) (fun _ h9 => h9) rfl dX11_register_27 ?_
        refine va_getN (D := (dC, dI)) (ci := 9) (v := .int 0) (C := RX6) (T := TX6) (N := 9) hx hb ht itX6 hown hK hP 1 rfl rfl 2 (by decide) (hKK.fld 9 rfl) (fun _ h9 => h9) rfl dX11_register_30 ?_
        refine lv_goto (tgt := 44) hx hb dX11_register_33 (by decide) ?_
        have hP9 := hP.sub (ws' := []) [] rfl
        have hD9 := hD.sub (ws' := []) [] (by decide) rfl
        refine W.widen (k := 1) (n := 6) (by omega) (by omega) ?_
        refine vx_ret ?_
        exact W.iret (v := 0) hx hb hr (fun t ht9 hW => ⟨⟨0, (), rfl, (Or.inr (⟨h1, h2, h3, rfl⟩)), by rw [ht9]; exact hP9, hD9⟩, hS.F ht9⟩) hS.2.2 dX11_register_44
    · refine vx_throwS (names := ["java/lang/RuntimeException", "java/lang/Exception"]) (A := A) hx hb hst hown (by decide +kernel) (by decide +kernel) (ht _ tw_268) (ht _ tw_269) (hKK.2.2.2.2.1 _ (List.mem_of_getElem? (i := 16) rfl)) (vx_hat (fun w h => ht w (xat_0 w h)) xat_0_n (vx_c (va_Nw.use rfl (hKK.2.2.2.2.2.1 _ (List.mem_of_getElem? (i := 0) rfl))) (vx_c (dcl_0 ht) (vx_c (dcl_1 ht) (vx_c (dcl_2 ht) vx_n))))) xat_0_o hFx.2.2.2.2.1 hFx.2.2.2.2.2.1 hS (by rw [hml]; exact hl.1) dX11_register_10 dX11_register_13 dX11_register_14 dX11_register_16 dX11_register_19 (fun x h9 => (hnt x h9).elim) (Nat.le_of_ble_eq_true rfl) (Nat.le_of_ble_eq_true rfl) (Nat.le_of_ble_eq_true rfl) (Nat.le_of_ble_eq_true rfl) hlocks (fun t9 hv9 hz9 hk9 => ⟨(), trivial, (Or.inr (⟨h1, h2, rfl⟩)), ⟨Nat.le_trans hS.1 hz9, fun q h1 h2 => (hk9 q (Nat.lt_of_lt_of_le h1 hS.1)).trans (hS.2.1 q h1 h2)⟩⟩) hS.2.2 (Nat.le_of_ble_eq_true rfl) (Nat.le_of_ble_eq_true rfl)
set_option maxHeartbeats 4000000 in
set_option maxRecDepth 100000 in
theorem c_X6_write (l : Launch) (dC : Nat → ClassId) (dI : Nat → Nat → Nat) (cI cB cZ cJ cR : ClassId) (tb : Nat → Nat) (sz : Nat) (a0_ : Nat) (x0_ : Int32) (x1_ : Int32) (a1_ : Nat) (a2_ : Nat) (a3_ : Nat) (a4_ : Nat)  : Met l yX6_write (Cond.code yX6_write cX6_write 3 none :: tw_W) ({ frames := 0, cells := 0, slots := 0, locals := 0 }) (pc_ (dC, dI) (tyS cI cB cZ cJ cR) tb [(a0_, .inr (9, [.ref a1_, .ref a2_, .int 0, .int 0, .int 0, .int 0, .ref a3_, .int 0, .ref a4_])), (a2_, .inl (cI, 32, .inl (fun _ => 0)))] sz [.ref a0_, .int x0_, .int x1_]) (qv_ (dC, dI) [(a0_, .inr (9, [.ref a1_, .ref a2_, .int 0, .int 0, .int 0, .int 0, .ref a3_, .int 0, .ref a4_])), (a2_, .inl (cI, 32, .inl (fun _ => 0)))] sz (fun (u : Unit) => True) (fun (u : Unit) => [(a0_, .inr (9, [.ref a1_, .ref a2_, .int 0, .int 0, .int 0, .int 0, .ref a3_, .int 0, .ref a4_]))])) 0 0 (va_A [(a0_, .inr (9, [.ref a1_, .ref a2_, .int 0, .int 0, .int 0, .int 0, .ref a3_, .int 0, .ref a4_])), (a2_, .inl (cI, 32, .inl (fun _ => 0)))] sz) := by
  refine Met.ofW (cc := cX6_write) (maxL := 3) (ret := none) (by decide) rfl ?_
  intro p e s m args below meth c s₁ B hml hv
  obtain ⟨rfl, hsz, hP, hKK, hD0, hFx⟩ := hv
  have hK := hKK.1
  have hx := B.exec
  have hb := B.bytes
  have hr := B.returns
  have ht : ∀ w ∈ tw_W, w.before _ s = true := fun w h => atoms_spec (ws := Cond.code yX6_write cX6_write 3 none :: tw_W) B.pre w (List.mem_cons_of_mem _ h)
  have hown : s.vm.findClass RX6 = some m.cls := findClass_of_methodNamed B.named
  have hlocks := B.notSynchronized
  subst hsz
  unfold qv_
  have hD := hD0.self (sz := s.heap.size)
  generalize hAe : va_A [(a0_, .inr (9, [.ref a1_, .ref a2_, .int 0, .int 0, .int 0, .int 0, .ref a3_, .int 0, .ref a4_])), (a2_, .inl (cI, 32, .inl (fun _ => 0)))] s.heap.size = A at hD hFx ⊢
  have hA : ∀ q : Nat, s.heap.size ≤ q → A q := fun q h => by rw [← hAe]; exact Or.inr h
  have hS : va_S A s.heap s.heap [] := va_S.rf
  have hP : va_P (dC, dI) vwCl [(a0_, .inr (9, [.ref a1_, .ref a2_, .int 0, .int 0, .int 0, .int 0, .ref a3_, .int 0, .ref a4_])), (a2_, .inl (cI, 32, .inl (fun _ => 0)))] s.heap := hP
  have hl := lv_entry ([.ref a0_, .int x0_, .int x1_]) (n := 3) (Nat.le_of_ble_eq_true rfl)
  rw [lg_entry_eq]
  generalize (lg_sl ([.ref a0_, .int x0_, .int x1_]) ++ List.replicate (3 - (lg_sl ([.ref a0_, .int x0_, .int x1_])).length) Slot.unset).toArray = ls at hl ⊢
  have hl : lv_has ls 3 [(0, .ref a0_), (1, .int x0_), (2, .int x1_)] := hl
  refine lv_iload_n hx hb dX6_write_0 rfl (lv_at hl 1 rfl) ?_
  refine lv_if_le (tgt := 20) hx hb dX6_write_1 (by decide) (fun h1 => ?_) (fun h1 => ?_)
  · have hP9 := hP.sub (ws' := [(a0_, .inr (9, [.ref a1_, .ref a2_, .int 0, .int 0, .int 0, .int 0, .ref a3_, .int 0, .ref a4_]))]) [0] rfl
    have hD9 := hD.sub (ws' := [(a0_, .inr (9, [.ref a1_, .ref a2_, .int 0, .int 0, .int 0, .int 0, .ref a3_, .int 0, .ref a4_]))]) [0] (by decide) rfl
    refine W.widen (k := 0) (n := 0) (by omega) (by omega) ?_
    exact W.vret hx hb hr (fun t ht9 hW => ⟨⟨(), rfl, trivial, by rw [ht9]; exact hP9, hD9⟩, hS.F ht9⟩) hS.2.2 dX6_write_20
  · refine lv_iload_n hx hb dX6_write_4 rfl (lv_at hl 1 rfl) ?_
    refine lv_aload_n hx hb dX6_write_5 rfl (lv_at hl 0 rfl) ?_
    refine va_get (D := (dC, dI)) (ci := 9) (v := .ref a2_) (C := RX6) (T := TX6) (N := 9) hx hb ht itX6 hown hK hP 0 rfl rfl 1 (by decide) (ht _ tw_132) (fun _ h9 => h9) rfl dX6_write_6 ?_
    refine va_alen (D := (dC, dI)) (v := 32) hx hb hK hP 1 0 rfl rfl (by decide) dX6_write_9 ?_
    refine lv_icmp_ge (tgt := 20) hx hb dX6_write_10 (by decide) (fun h2 => ?_) (fun h2 => ?_)
    · have hP9 := hP.sub (ws' := [(a0_, .inr (9, [.ref a1_, .ref a2_, .int 0, .int 0, .int 0, .int 0, .ref a3_, .int 0, .ref a4_]))]) [0] rfl
      have hD9 := hD.sub (ws' := [(a0_, .inr (9, [.ref a1_, .ref a2_, .int 0, .int 0, .int 0, .int 0, .ref a3_, .int 0, .ref a4_]))]) [0] (by decide) rfl
      refine W.widen (k := 0) (n := 0) (by omega) (by omega) ?_
      exact W.vret hx hb hr (fun t ht9 hW => ⟨⟨(), rfl, trivial, by rw [ht9]; exact hP9, hD9⟩, hS.F ht9⟩) hS.2.2 dX6_write_20
    · refine lv_aload_n hx hb dX6_write_13 rfl (lv_at hl 0 rfl) ?_
      refine va_get (D := (dC, dI)) (ci := 9) (v := .ref a2_) (C := RX6) (T := TX6) (N := 9) hx hb ht itX6 hown hK hP 0 rfl rfl 1 (by decide) (ht _ tw_132) (fun _ h9 => h9) rfl dX6_write_14 ?_
      refine lv_iload_n hx hb dX6_write_17 rfl (lv_at hl 1 rfl) ?_
      refine lv_iload_n hx hb dX6_write_18 rfl (lv_at hl 2 rfl) ?_
      refine va_iast (D := (dC, dI)) hx hb hK hP hD hS 1 0 rfl rfl (vp_in_iff.mpr (by rw [Int32.le_iff_toInt_le] at h1; rw [Int32.le_iff_toInt_le] at h2; have : (0 : Int32).toInt = 0 := (by decide); have : (32 : Int32).toInt = 32 := (by decide); constructor <;> omega)) dX6_write_19 (fun H locs hP hD hS => ?_)
      have hP : va_P (dC, dI) vwCl [(a0_, .inr (9, [.ref a1_, .ref a2_, .int 0, .int 0, .int 0, .int 0, .ref a3_, .int 0, .ref a4_])), (a2_, .inl (cI, 32, .inl (upd (fun _ => 0) x0_.toNatClampNeg x1_)))] H := hP
      have hD : va_D A [(a0_, .inr (9, [.ref a1_, .ref a2_, .int 0, .int 0, .int 0, .int 0, .ref a3_, .int 0, .ref a4_])), (a2_, .inl (cI, 32, .inl (upd (fun _ => 0) x0_.toNatClampNeg x1_)))] := hD
      have hP9 := hP.sub (ws' := [(a0_, .inr (9, [.ref a1_, .ref a2_, .int 0, .int 0, .int 0, .int 0, .ref a3_, .int 0, .ref a4_]))]) [0] rfl
      have hD9 := hD.sub (ws' := [(a0_, .inr (9, [.ref a1_, .ref a2_, .int 0, .int 0, .int 0, .int 0, .ref a3_, .int 0, .ref a4_]))]) [0] (by decide) rfl
      refine W.widen (k := 0) (n := 0) (by omega) (by omega) ?_
      exact W.vret hx hb hr (fun t ht9 hW => ⟨⟨(), rfl, trivial, by rw [ht9]; exact hP9, hD9⟩, hS.F ht9⟩) hS.2.2 dX6_write_20
set_option maxHeartbeats 4000000 in
set_option maxRecDepth 100000 in
theorem c_X6_change (l : Launch) (dC : Nat → ClassId) (dI : Nat → Nat → Nat) (cI cB cZ cJ cR : ClassId) (tb : Nat → Nat) (sz : Nat) (a0_ : Nat) (x0_ : Int32) (x1_ : Int32) (a1_ : Nat) (a2_ : Nat) (a3_ : Nat) (a4_ : Nat)  : Met l yX6_change (Cond.code yX6_change cX6_change 3 none :: tw_W) ({ frames := 1, cells := 0, slots := 0, locals := 22 }) (pc_ (dC, dI) (tyS cI cB cZ cJ cR) tb [(a0_, .inr (9, [.ref a1_, .ref a2_, .int 0, .int 0, .int 0, .int 0, .ref a3_, .int 0, .ref a4_])), (a2_, .inl (cI, 32, .inl (fun _ => 0)))] sz [.ref a0_, .int x0_, .int x1_]) (qv_ (dC, dI) [(a0_, .inr (9, [.ref a1_, .ref a2_, .int 0, .int 0, .int 0, .int 0, .ref a3_, .int 0, .ref a4_])), (a2_, .inl (cI, 32, .inl (fun _ => 0)))] sz (fun (u : Unit) => True) (fun (u : Unit) => [])) 0 0 (va_A [(a0_, .inr (9, [.ref a1_, .ref a2_, .int 0, .int 0, .int 0, .int 0, .ref a3_, .int 0, .ref a4_])), (a2_, .inl (cI, 32, .inl (fun _ => 0)))] sz) := by
  refine Met.ofW (cc := cX6_change) (maxL := 3) (ret := none) (by decide) rfl ?_
  intro p e s m args below meth c s₁ B hml hv
  obtain ⟨rfl, hsz, hP, hKK, hD0, hFx⟩ := hv
  have hK := hKK.1
  have hx := B.exec
  have hb := B.bytes
  have hr := B.returns
  have ht : ∀ w ∈ tw_W, w.before _ s = true := fun w h => atoms_spec (ws := Cond.code yX6_change cX6_change 3 none :: tw_W) B.pre w (List.mem_cons_of_mem _ h)
  have hown : s.vm.findClass RX6 = some m.cls := findClass_of_methodNamed B.named
  have hlocks := B.notSynchronized
  subst hsz
  unfold qv_
  have hD := hD0.self (sz := s.heap.size)
  generalize hAe : va_A [(a0_, .inr (9, [.ref a1_, .ref a2_, .int 0, .int 0, .int 0, .int 0, .ref a3_, .int 0, .ref a4_])), (a2_, .inl (cI, 32, .inl (fun _ => 0)))] s.heap.size = A at hD hFx ⊢
  have hA : ∀ q : Nat, s.heap.size ≤ q → A q := fun q h => by rw [← hAe]; exact Or.inr h
  have hS : va_S A s.heap s.heap [] := va_S.rf
  have hP : va_P (dC, dI) vwCl [(a0_, .inr (9, [.ref a1_, .ref a2_, .int 0, .int 0, .int 0, .int 0, .ref a3_, .int 0, .ref a4_])), (a2_, .inl (cI, 32, .inl (fun _ => 0)))] s.heap := hP
  have hl := lv_entry ([.ref a0_, .int x0_, .int x1_]) (n := 3) (Nat.le_of_ble_eq_true rfl)
  rw [lg_entry_eq]
  generalize (lg_sl ([.ref a0_, .int x0_, .int x1_]) ++ List.replicate (3 - (lg_sl ([.ref a0_, .int x0_, .int x1_])).length) Slot.unset).toArray = ls at hl ⊢
  have hl : lv_has ls 3 [(0, .ref a0_), (1, .int x0_), (2, .int x1_)] := hl
  refine lv_iload_n hx hb dX6_change_0 rfl (lv_at hl 1 rfl) ?_
  refine lv_bipush (v := 32) hx hb dX6_change_1 (by decide) ?_
  refine lv_icmp_ne (tgt := 14) hx hb dX6_change_3 (by decide) (fun h1 => ?_) (fun h1 => ?_)
  · refine lv_aload_n hx hb dX6_change_14 rfl (lv_at hl 0 rfl) ?_
    refine lv_iload_n hx hb dX6_change_15 rfl (lv_at hl 1 rfl) ?_
    refine lv_iload_n hx hb dX6_change_16 rfl (lv_at hl 2 rfl) ?_
    refine ca_v (wr := []) (rn_V (n := 2) (As := [.int x0_, .int x1_]) (rest := []) hx hb hml hown ht hKK hFx hP hD hS hA (c_X6_write l dC dI cI cB cZ cJ cR tb s.heap.size a0_ x0_ x1_ a1_ a2_ a3_ a4_) tw_273 tw_274 (by decide +kernel) rfl rfl ⟨Nat.le_of_ble_eq_true rfl, Nat.le_of_ble_eq_true rfl⟩ [0, 1] rfl (by decide) rfl rfl rfl rfl hl.1 rfl (Nat.le_of_ble_eq_true rfl) dX6_change_17 ⟨Nat.le_of_ble_eq_true rfl, Nat.le_of_ble_eq_true rfl⟩) hP hD hS hA (isC := [0, 1]) (isR := []) rfl rfl (by decide) (by decide) (fun u H locs hw2 hP hD hS => ?_)
    have hP : va_P (dC, dI) vwCl [(a0_, .inr (9, [.ref a1_, .ref a2_, .int 0, .int 0, .int 0, .int 0, .ref a3_, .int 0, .ref a4_]))] H := hP
    have hD : va_D A [(a0_, .inr (9, [.ref a1_, .ref a2_, .int 0, .int 0, .int 0, .int 0, .ref a3_, .int 0, .ref a4_]))] := hD
    refine W.widen (k := 0) (n := 0) (by omega) (by omega) ?_
    refine lv_aload_n hx hb dX6_change_20 rfl (lv_at hl 0 rfl) ?_
    refine lv_iconst (v := 0) hx hb dX6_change_21 (by decide) ?_
    refine va_put (D := (dC, dI)) (ci := 9) (v := .int 0) (ty := .int) (C := RX6) (T := TX6) (N := 9) hx hb ht itX6 tyX6 tyX6_ok nmX6 hown hK hP hD hS 0 rfl rfl 4 (by decide) (ht _ tw_226) (fun _ h9 => h9) rfl (by decide +kernel) rfl rfl (Nat.le_of_ble_eq_true rfl) dX6_change_22 (fun H locs hP hD hS => ?_)
    have hP : va_P (dC, dI) vwCl [(a0_, .inr (9, [.ref a1_, .ref a2_, .int 0, .int 0, .int 0, .int 0, .ref a3_, .int 0, .ref a4_]))] H := hP
    have hD : va_D A [(a0_, .inr (9, [.ref a1_, .ref a2_, .int 0, .int 0, .int 0, .int 0, .ref a3_, .int 0, .ref a4_]))] := hD
    have hP9 := hP.sub (ws' := []) [] rfl
    have hD9 := hD.sub (ws' := []) [] (by decide) rfl
    refine W.widen (k := 0) (n := 0) (by omega) (by omega) ?_
    exact W.vret hx hb hr (fun t ht9 hW => ⟨⟨(), rfl, trivial, by rw [ht9]; exact hP9, hD9⟩, hS.F ht9⟩) hS.2.2 dX6_change_25
  · refine lv_aload_n hx hb dX6_change_6 rfl (lv_at hl 0 rfl) ?_
    refine lv_iload_n hx hb dX6_change_7 rfl (lv_at hl 2 rfl) ?_
    refine va_put (D := (dC, dI)) (ci := 9) (v := .int x1_) (ty := .int) (C := RX6) (T := TX6) (N := 9) hx hb ht itX6 tyX6 tyX6_ok nmX6 hown hK hP hD hS 0 rfl rfl 2 (by decide) (ht _ tw_228) (fun _ h9 => h9) rfl (by decide +kernel) rfl rfl (Nat.le_of_ble_eq_true rfl) dX6_change_8 (fun H locs hP hD hS => ?_)
    have hP : va_P (dC, dI) vwCl [(a0_, .inr (9, [.ref a1_, .ref a2_, .int x1_, .int 0, .int 0, .int 0, .ref a3_, .int 0, .ref a4_])), (a2_, .inl (cI, 32, .inl (fun _ => 0)))] H := hP
    have hD : va_D A [(a0_, .inr (9, [.ref a1_, .ref a2_, .int x1_, .int 0, .int 0, .int 0, .ref a3_, .int 0, .ref a4_])), (a2_, .inl (cI, 32, .inl (fun _ => 0)))] := hD
    refine lv_goto (tgt := 20) hx hb dX6_change_11 (by decide) ?_
    refine lv_aload_n hx hb dX6_change_20 rfl (lv_at hl 0 rfl) ?_
    refine lv_iconst (v := 0) hx hb dX6_change_21 (by decide) ?_
    refine va_put (D := (dC, dI)) (ci := 9) (v := .int 0) (ty := .int) (C := RX6) (T := TX6) (N := 9) hx hb ht itX6 tyX6 tyX6_ok nmX6 hown hK hP hD hS 0 rfl rfl 4 (by decide) (ht _ tw_226) (fun _ h9 => h9) rfl (by decide +kernel) rfl rfl (Nat.le_of_ble_eq_true rfl) dX6_change_22 (fun H locs hP hD hS => ?_)
    have hP : va_P (dC, dI) vwCl [(a0_, .inr (9, [.ref a1_, .ref a2_, .int x1_, .int 0, .int 0, .int 0, .ref a3_, .int 0, .ref a4_])), (a2_, .inl (cI, 32, .inl (fun _ => 0)))] H := hP
    have hD : va_D A [(a0_, .inr (9, [.ref a1_, .ref a2_, .int x1_, .int 0, .int 0, .int 0, .ref a3_, .int 0, .ref a4_])), (a2_, .inl (cI, 32, .inl (fun _ => 0)))] := hD
    have hP9 := hP.sub (ws' := []) [] rfl
    have hD9 := hD.sub (ws' := []) [] (by decide) rfl
    refine W.widen (k := 0) (n := 0) (by omega) (by omega) ?_
    exact W.vret hx hb hr (fun t ht9 hW => ⟨⟨(), rfl, trivial, by rw [ht9]; exact hP9, hD9⟩, hS.F ht9⟩) hS.2.2 dX6_change_25
set_option maxHeartbeats 4000000 in
set_option maxRecDepth 100000 in
/-- X11_set on a new object: it returns or throws -/
theorem c_X11_set (l : Launch) (dC : Nat → ClassId) (dI : Nat → Nat → Nat) (cI cB cZ cJ cR : ClassId) (tb : Nat → Nat) (hst : l.stackTraces = false) (sz : Nat) (h0 : Nat) (pa : Int32) (pb : Int32) (q1 : Nat) (q9 : Nat) (q18 : Nat) (q27 : Nat) (q42 : Nat) (q2 : Nat) (q45 : Nat) (q50 : Nat) (q5 : Nat) (q47 : Nat) (q48 : Nat) (q49 : Nat)  : vx_Met l yX11_set (Cond.code yX11_set cX11_set 3 none :: tw_W) ({ frames := 6, cells := 1, slots := 6, locals := 82 }) (pc_ (dC, dI) (tyS cI cB cZ cJ cR) tb [(h0, .inr (14, [.ref q1, .int 0, .ref q9, .ref q18, .ref q27, .ref q42, .int 0, .int (-1), .ref q2, .ref q45, .ref q50, .ref q5])), (q45, .inr (9, [.ref q47, .ref q48, .int 0, .int 0, .int 0, .int 0, .ref q49, .int 0, .ref q2])), (q48, .inl (cI, 32, .inl (fun _ => 0)))] sz [.ref h0, .int pa, .int pb]) (qv_ (dC, dI) [(h0, .inr (14, [.ref q1, .int 0, .ref q9, .ref q18, .ref q27, .ref q42, .int 0, .int (-1), .ref q2, .ref q45, .ref q50, .ref q5])), (q45, .inr (9, [.ref q47, .ref q48, .int 0, .int 0, .int 0, .int 0, .ref q49, .int 0, .ref q2])), (q48, .inl (cI, 32, .inl (fun _ => 0)))] sz (fun (u : Unit) => (¬ (pa < 0) ∧ pa ≤ 32 ∧ True)) (fun (u : Unit) => [])) (qx_ [(h0, .inr (14, [.ref q1, .int 0, .ref q9, .ref q18, .ref q27, .ref q42, .int 0, .int (-1), .ref q2, .ref q45, .ref q50, .ref q5])), (q45, .inr (9, [.ref q47, .ref q48, .int 0, .int 0, .int 0, .int 0, .ref q49, .int 0, .ref q2])), (q48, .inl (cI, 32, .inl (fun _ => 0)))] sz (fun E => (pa < 0 ∧ E = "java/lang/IndexOutOfBoundsException") ∨ (¬ (pa < 0) ∧ ¬ (pa ≤ 32) ∧ E = "java/lang/IndexOutOfBoundsException"))) 1 6 (va_A [(h0, .inr (14, [.ref q1, .int 0, .ref q9, .ref q18, .ref q27, .ref q42, .int 0, .int (-1), .ref q2, .ref q45, .ref q50, .ref q5])), (q45, .inr (9, [.ref q47, .ref q48, .int 0, .int 0, .int 0, .int 0, .ref q49, .int 0, .ref q2])), (q48, .inl (cI, 32, .inl (fun _ => 0)))] sz) := by
  refine vx_ofW (cc := cX11_set) (maxL := 3) (ret := none) (by decide) rfl ?_
  intro p e s m args below meth c s₁ B hml hnt hv
  obtain ⟨rfl, hsz, hP, hKK, hD0, hFx⟩ := hv
  have hK := hKK.1
  have hx := B.exec
  have hb := B.bytes
  have hr := B.returns
  have ht : ∀ w ∈ tw_W, w.before _ s = true := fun w h => atoms_spec (ws := Cond.code yX11_set cX11_set 3 none :: tw_W) B.pre w (List.mem_cons_of_mem _ h)
  have hown : s.vm.findClass RX11 = some m.cls := findClass_of_methodNamed B.named
  have hlocks := B.notSynchronized
  subst hsz
  unfold qv_ qx_
  have hD := hD0.self (sz := s.heap.size)
  generalize hAe : va_A [(h0, .inr (14, [.ref q1, .int 0, .ref q9, .ref q18, .ref q27, .ref q42, .int 0, .int (-1), .ref q2, .ref q45, .ref q50, .ref q5])), (q45, .inr (9, [.ref q47, .ref q48, .int 0, .int 0, .int 0, .int 0, .ref q49, .int 0, .ref q2])), (q48, .inl (cI, 32, .inl (fun _ => 0)))] s.heap.size = A at hD hFx ⊢
  have hA : ∀ q : Nat, s.heap.size ≤ q → A q := fun q h => by rw [← hAe]; exact Or.inr h
  have hS : va_S A s.heap s.heap [] := va_S.rf
  have hP : va_P (dC, dI) vwCl [(h0, .inr (14, [.ref q1, .int 0, .ref q9, .ref q18, .ref q27, .ref q42, .int 0, .int (-1), .ref q2, .ref q45, .ref q50, .ref q5])), (q45, .inr (9, [.ref q47, .ref q48, .int 0, .int 0, .int 0, .int 0, .ref q49, .int 0, .ref q2])), (q48, .inl (cI, 32, .inl (fun _ => 0)))] s.heap := hP
  have hl := lv_entry ([.ref h0, .int pa, .int pb]) (n := 3) (Nat.le_of_ble_eq_true rfl)
  rw [lg_entry_eq]
  generalize (lg_sl ([.ref h0, .int pa, .int pb]) ++ List.replicate (3 - (lg_sl ([.ref h0, .int pa, .int pb])).length) Slot.unset).toArray = ls at hl ⊢
  have hl : lv_has ls 3 [(0, .ref h0), (1, .int pa), (2, .int pb)] := hl
  refine lv_iload_n hx hb dX11_set_0 rfl (lv_at hl 1 rfl) ?_
  refine lv_if_lt (tgt := 10) hx hb dX11_set_1 (by decide) (fun h1 => ?_) (fun h1 => ?_)
  · refine vx_throwS (names := ["java/lang/RuntimeException", "java/lang/Exception"]) (A := A) hx hb hst hown (by decide +kernel) (by decide +kernel) (ht _ tw_268) (ht _ tw_269) (hKK.2.2.2.2.1 _ (List.mem_of_getElem? (i := 16) rfl)) (vx_hat (fun w h => ht w (xat_0 w h)) xat_0_n (vx_c (va_Nw.use rfl (hKK.2.2.2.2.2.1 _ (List.mem_of_getElem? (i := 0) rfl))) (vx_c (dcl_0 ht) (vx_c (dcl_1 ht) (vx_c (dcl_2 ht) vx_n))))) xat_0_o hFx.2.2.2.2.1 hFx.2.2.2.2.2.1 hS (by rw [hml]; exact hl.1) dX11_set_10 dX11_set_13 dX11_set_14 dX11_set_16 dX11_set_19 (fun x h9 => (hnt x h9).elim) (Nat.le_of_ble_eq_true rfl) (Nat.le_of_ble_eq_true rfl) (Nat.le_of_ble_eq_true rfl) (Nat.le_of_ble_eq_true rfl) hlocks (fun t9 hv9 hz9 hk9 => ⟨(), trivial, (Or.inl ⟨h1, rfl⟩), ⟨Nat.le_trans hS.1 hz9, fun q h1 h2 => (hk9 q (Nat.lt_of_lt_of_le h1 hS.1)).trans (hS.2.1 q h1 h2)⟩⟩) hS.2.2 (Nat.le_of_ble_eq_true rfl) (Nat.le_of_ble_eq_true rfl)
  · refine lv_iload_n hx hb dX11_set_4 rfl (lv_at hl 1 rfl) ?_
    refine lv_bipush (v := 32) hx hb dX11_set_5 (by decide) ?_
    refine lv_icmp_le (tgt := 20) hx hb dX11_set_7 (by decide) (fun h2 => ?_) (fun h2 => ?_)
    · refine lv_aload_n hx hb dX11_set_20 rfl (lv_at hl 0 rfl) ?_
      refine va_get (D := (dC, dI)) (ci := 14) (v := .ref q45) (C := RX11) (T := TX11) (N := 12) hx hb ht itX11 hown hK hP 0 rfl rfl 9 (by decide) (ht _ tw_140) (fun _ h9 => h9) rfl dX11_set_21 ?_
      refine lv_iload_n hx hb dX11_set_24 rfl (lv_at hl 1 rfl) ?_
      refine lv_iload_n hx hb dX11_set_25 rfl (lv_at hl 2 rfl) ?_
      refine ca_v (wr := [(h0, .inr (14, [.ref q1, .int 0, .ref q9, .ref q18, .ref q27, .ref q42, .int 0, .int (-1), .ref q2, .ref q45, .ref q50, .ref q5]))]) (rn_V (n := 2) (As := [.int pa, .int pb]) (rest := []) hx hb hml hown ht hKK hFx hP hD hS hA (c_X6_change l dC dI cI cB cZ cJ cR tb s.heap.size q45 pa pb q47 q48 q49 q2) tw_275 tw_276 (by decide +kernel) rfl rfl ⟨Nat.le_of_ble_eq_true rfl, Nat.le_of_ble_eq_true rfl⟩ [1, 2] rfl (by decide) rfl rfl rfl rfl hl.1 rfl (Nat.le_of_ble_eq_true rfl) dX11_set_26 ⟨Nat.le_of_ble_eq_true rfl, Nat.le_of_ble_eq_true rfl⟩) hP hD hS hA (isC := [1, 2]) (isR := [0]) rfl rfl (by decide) (by decide) (fun u H locs hw3 hP hD hS => ?_)
      have hP : va_P (dC, dI) vwCl [(h0, .inr (14, [.ref q1, .int 0, .ref q9, .ref q18, .ref q27, .ref q42, .int 0, .int (-1), .ref q2, .ref q45, .ref q50, .ref q5]))] H := hP
      have hD : va_D A [(h0, .inr (14, [.ref q1, .int 0, .ref q9, .ref q18, .ref q27, .ref q42, .int 0, .int (-1), .ref q2, .ref q45, .ref q50, .ref q5]))] := hD
      refine W.widen (k := 0) (n := 0) (by omega) (by omega) ?_
      have hP9 := hP.sub (ws' := []) [] rfl
      have hD9 := hD.sub (ws' := []) [] (by decide) rfl
      refine W.widen (k := 1) (n := 6) (by omega) (by omega) ?_
      refine vx_ret ?_
      exact W.vret hx hb hr (fun t ht9 hW => ⟨⟨(), rfl, (⟨h1, h2, trivial⟩), by rw [ht9]; exact hP9, hD9⟩, hS.F ht9⟩) hS.2.2 dX11_set_29
    · refine vx_throwS (names := ["java/lang/RuntimeException", "java/lang/Exception"]) (A := A) hx hb hst hown (by decide +kernel) (by decide +kernel) (ht _ tw_268) (ht _ tw_269) (hKK.2.2.2.2.1 _ (List.mem_of_getElem? (i := 16) rfl)) (vx_hat (fun w h => ht w (xat_0 w h)) xat_0_n (vx_c (va_Nw.use rfl (hKK.2.2.2.2.2.1 _ (List.mem_of_getElem? (i := 0) rfl))) (vx_c (dcl_0 ht) (vx_c (dcl_1 ht) (vx_c (dcl_2 ht) vx_n))))) xat_0_o hFx.2.2.2.2.1 hFx.2.2.2.2.2.1 hS (by rw [hml]; exact hl.1) dX11_set_10 dX11_set_13 dX11_set_14 dX11_set_16 dX11_set_19 (fun x h9 => (hnt x h9).elim) (Nat.le_of_ble_eq_true rfl) (Nat.le_of_ble_eq_true rfl) (Nat.le_of_ble_eq_true rfl) (Nat.le_of_ble_eq_true rfl) hlocks (fun t9 hv9 hz9 hk9 => ⟨(), trivial, (Or.inr (⟨h1, h2, rfl⟩)), ⟨Nat.le_trans hS.1 hz9, fun q h1 h2 => (hk9 q (Nat.lt_of_lt_of_le h1 hS.1)).trans (hS.2.1 q h1 h2)⟩⟩) hS.2.2 (Nat.le_of_ble_eq_true rfl) (Nat.le_of_ble_eq_true rfl)
set_option maxHeartbeats 4000000 in
set_option maxRecDepth 100000 in
/-- X11_put on a new object: it returns or throws -/
theorem c_X11_put (l : Launch) (dC : Nat → ClassId) (dI : Nat → Nat → Nat) (cI cB cZ cJ cR : ClassId) (tb : Nat → Nat) (hst : l.stackTraces = false) (sz : Nat) (h0 : Nat) (pa : Int32) (q1 : Nat) (q9 : Nat) (q18 : Nat) (q27 : Nat) (q42 : Nat) (q2 : Nat) (q45 : Nat) (q50 : Nat) (q5 : Nat) (q47 : Nat) (q48 : Nat) (q49 : Nat)  : vx_Met l yX11_put (Cond.code yX11_put cX11_put 2 (some .int) :: tw_W) ({ frames := 6, cells := 1, slots := 6, locals := 82 }) (pc_ (dC, dI) (tyS cI cB cZ cJ cR) tb [(h0, .inr (14, [.ref q1, .int 0, .ref q9, .ref q18, .ref q27, .ref q42, .int 0, .int (-1), .ref q2, .ref q45, .ref q50, .ref q5])), (q45, .inr (9, [.ref q47, .ref q48, .int 0, .int 0, .int 0, .int 0, .ref q49, .int 0, .ref q2]))] sz [.ref h0, .int pa]) (qi_ (dC, dI) [(h0, .inr (14, [.ref q1, .int 0, .ref q9, .ref q18, .ref q27, .ref q42, .int 0, .int (-1), .ref q2, .ref q45, .ref q50, .ref q5])), (q45, .inr (9, [.ref q47, .ref q48, .int 0, .int 0, .int 0, .int 0, .ref q49, .int 0, .ref q2]))] sz (fun (r : Int32) (u : Unit) => False) (fun (u : Unit) => [])) (qx_ [(h0, .inr (14, [.ref q1, .int 0, .ref q9, .ref q18, .ref q27, .ref q42, .int 0, .int (-1), .ref q2, .ref q45, .ref q50, .ref q5])), (q45, .inr (9, [.ref q47, .ref q48, .int 0, .int 0, .int 0, .int 0, .ref q49, .int 0, .ref q2]))] sz (fun E => (pa < 0 ∧ E = "java/util/NoSuchElementException") ∨ (¬ (pa < 0) ∧ E = "java/util/NoSuchElementException"))) 1 6 (va_A [(h0, .inr (14, [.ref q1, .int 0, .ref q9, .ref q18, .ref q27, .ref q42, .int 0, .int (-1), .ref q2, .ref q45, .ref q50, .ref q5])), (q45, .inr (9, [.ref q47, .ref q48, .int 0, .int 0, .int 0, .int 0, .ref q49, .int 0, .ref q2]))] sz) := by
  refine vx_ofW (cc := cX11_put) (maxL := 2) (ret := (some .int)) (by decide) rfl ?_
  intro p e s m args below meth c s₁ B hml hnt hv
  obtain ⟨rfl, hsz, hP, hKK, hD0, hFx⟩ := hv
  have hK := hKK.1
  have hx := B.exec
  have hb := B.bytes
  have hr := B.returns
  have ht : ∀ w ∈ tw_W, w.before _ s = true := fun w h => atoms_spec (ws := Cond.code yX11_put cX11_put 2 (some .int) :: tw_W) B.pre w (List.mem_cons_of_mem _ h)
  have hown : s.vm.findClass RX11 = some m.cls := findClass_of_methodNamed B.named
  have hlocks := B.notSynchronized
  subst hsz
  unfold qi_ qx_
  have hD := hD0.self (sz := s.heap.size)
  generalize hAe : va_A [(h0, .inr (14, [.ref q1, .int 0, .ref q9, .ref q18, .ref q27, .ref q42, .int 0, .int (-1), .ref q2, .ref q45, .ref q50, .ref q5])), (q45, .inr (9, [.ref q47, .ref q48, .int 0, .int 0, .int 0, .int 0, .ref q49, .int 0, .ref q2]))] s.heap.size = A at hD hFx ⊢
  have hA : ∀ q : Nat, s.heap.size ≤ q → A q := fun q h => by rw [← hAe]; exact Or.inr h
  have hS : va_S A s.heap s.heap [] := va_S.rf
  have hP : va_P (dC, dI) vwCl [(h0, .inr (14, [.ref q1, .int 0, .ref q9, .ref q18, .ref q27, .ref q42, .int 0, .int (-1), .ref q2, .ref q45, .ref q50, .ref q5])), (q45, .inr (9, [.ref q47, .ref q48, .int 0, .int 0, .int 0, .int 0, .ref q49, .int 0, .ref q2]))] s.heap := hP
  have hl := lv_entry ([.ref h0, .int pa]) (n := 2) (Nat.le_of_ble_eq_true rfl)
  rw [lg_entry_eq]
  generalize (lg_sl ([.ref h0, .int pa]) ++ List.replicate (2 - (lg_sl ([.ref h0, .int pa])).length) Slot.unset).toArray = ls at hl ⊢
  have hl : lv_has ls 2 [(0, .ref h0), (1, .int pa)] := hl
  refine lv_iload_n hx hb dX11_put_0 rfl (lv_at hl 1 rfl) ?_
  refine lv_if_lt (tgt := 22) hx hb dX11_put_1 (by decide) (fun h1 => ?_) (fun h1 => ?_)
  · refine vx_throwS (names := ["java/lang/RuntimeException", "java/lang/Exception"]) (A := A) hx hb hst hown (by decide +kernel) (by decide +kernel) (ht _ tw_277) (ht _ tw_278) (hKK.2.2.2.2.1 _ (List.mem_of_getElem? (i := 19) rfl)) (vx_hat (fun w h => ht w (xat_2 w h)) xat_2_n (vx_c (va_Nw.use rfl (hKK.2.2.2.2.2.1 _ (List.mem_of_getElem? (i := 2) rfl))) (vx_c (dcl_0 ht) (vx_c (dcl_1 ht) (vx_c (dcl_2 ht) vx_n))))) xat_2_o hFx.2.2.2.2.1 hFx.2.2.2.2.2.1 hS (by rw [hml]; exact hl.1) dX11_put_22 dX11_put_25 dX11_put_26 dX11_put_28 dX11_put_31 (fun x h9 => (hnt x h9).elim) (Nat.le_of_ble_eq_true rfl) (Nat.le_of_ble_eq_true rfl) (Nat.le_of_ble_eq_true rfl) (Nat.le_of_ble_eq_true rfl) hlocks (fun t9 hv9 hz9 hk9 => ⟨(), trivial, (Or.inl ⟨h1, rfl⟩), ⟨Nat.le_trans hS.1 hz9, fun q h1 h2 => (hk9 q (Nat.lt_of_lt_of_le h1 hS.1)).trans (hS.2.1 q h1 h2)⟩⟩) hS.2.2 (Nat.le_of_ble_eq_true rfl) (Nat.le_of_ble_eq_true rfl)
  · refine lv_iload_n hx hb dX11_put_4 rfl (lv_at hl 1 rfl) ?_
    refine lv_aload_n hx hb dX11_put_5 rfl (lv_at hl 0 rfl) ?_
    refine va_get (D := (dC, dI)) (ci := 14) (v := .ref q45) (C := RX11) (T := TX11) (N := 12) hx hb ht itX11 hown hK hP 0 rfl rfl 9 (by decide) (ht _ tw_140) (fun _ h9 => h9) rfl dX11_put_6 ?_
    refine va_getN (D := (dC, dI)) (ci := 9) (v := .int 0) (C := RX6) (T := TX6) (N := 9) hx hb ht itX6 hown hK hP 1 rfl rfl 7 (by decide) (hKK.fld 13 rfl) (fun _ h9 => h9) rfl dX11_put_9 ?_
    refine lv_icmp_ge (tgt := 22) hx hb dX11_put_12 (by decide) (fun _ => ?_) (fun k2 => False.elim (by rw [Int32.lt_iff_toInt_lt] at h1; rw [Int32.le_iff_toInt_le] at k2; have : (0 : Int32).toInt = 0 := (by decide); omega))
    refine vx_throwS (names := ["java/lang/RuntimeException", "java/lang/Exception"]) (A := A) hx hb hst hown (by decide +kernel) (by decide +kernel) (ht _ tw_277) (ht _ tw_278) (hKK.2.2.2.2.1 _ (List.mem_of_getElem? (i := 19) rfl)) (vx_hat (fun w h => ht w (xat_2 w h)) xat_2_n (vx_c (va_Nw.use rfl (hKK.2.2.2.2.2.1 _ (List.mem_of_getElem? (i := 2) rfl))) (vx_c (dcl_0 ht) (vx_c (dcl_1 ht) (vx_c (dcl_2 ht) vx_n))))) xat_2_o hFx.2.2.2.2.1 hFx.2.2.2.2.2.1 hS (by rw [hml]; exact hl.1) dX11_put_22 dX11_put_25 dX11_put_26 dX11_put_28 dX11_put_31 (fun x h9 => (hnt x h9).elim) (Nat.le_of_ble_eq_true rfl) (Nat.le_of_ble_eq_true rfl) (Nat.le_of_ble_eq_true rfl) (Nat.le_of_ble_eq_true rfl) hlocks (fun t9 hv9 hz9 hk9 => ⟨(), trivial, (Or.inr (⟨h1, rfl⟩)), ⟨Nat.le_trans hS.1 hz9, fun q h1 h2 => (hk9 q (Nat.lt_of_lt_of_le h1 hS.1)).trans (hS.2.1 q h1 h2)⟩⟩) hS.2.2 (Nat.le_of_ble_eq_true rfl) (Nat.le_of_ble_eq_true rfl)
set_option maxHeartbeats 4000000 in
set_option maxRecDepth 100000 in
theorem c_X6_ticks (l : Launch) (dC : Nat → ClassId) (dI : Nat → Nat → Nat) (cI cB cZ cJ cR : ClassId) (tb : Nat → Nat) (sz : Nat) (a0_ : Nat) (x0_ : Int32) (a1_ : Nat) (a2_ : Nat) (a3_ : Nat) (a4_ : Nat) (N : Nat) (hf_N_0 : 256 ≤ N) (hf_N_1 : N ≤ 4096) : Met l yX6_ticks (Cond.code yX6_ticks cX6_ticks 4 (some .int) :: tw_W) ({ frames := 3, cells := 0, slots := 0, locals := 69 }) (pc_ (dC, dI) (tyS cI cB cZ cJ cR) tb [(a0_, .inr (9, [.ref a1_, .ref a2_, .int 0, .int 0, .int 0, .int 0, .ref a3_, .int 0, .ref a4_])), (a2_, .inl (cI, 32, .inl (fun _ => 0))), (a1_, .inl (cI, N, .inl (fun _ => 0)))] sz [.ref a0_, .int x0_]) (qi_ (dC, dI) [(a0_, .inr (9, [.ref a1_, .ref a2_, .int 0, .int 0, .int 0, .int 0, .ref a3_, .int 0, .ref a4_])), (a2_, .inl (cI, 32, .inl (fun _ => 0))), (a1_, .inl (cI, N, .inl (fun _ => 0)))] sz (fun (r : Int32) (u : Unit) => r = (if x0_ ≤ (0 : Int32) then 0 else 1)) (fun (u : Unit) => [(a2_, .inl (cI, 32, .inl (fun _ => 0))), (a1_, .inl (cI, N, .inl (fun _ => 0)))])) 0 0 (va_A [(a0_, .inr (9, [.ref a1_, .ref a2_, .int 0, .int 0, .int 0, .int 0, .ref a3_, .int 0, .ref a4_])), (a2_, .inl (cI, 32, .inl (fun _ => 0))), (a1_, .inl (cI, N, .inl (fun _ => 0)))] sz) := by
  refine Met.ofW (cc := cX6_ticks) (maxL := 4) (ret := (some .int)) (by decide) rfl ?_
  intro p e s m args below meth c s₁ B hml hv
  obtain ⟨rfl, hsz, hP, hKK, hD0, hFx⟩ := hv
  have hK := hKK.1
  have hx := B.exec
  have hb := B.bytes
  have hr := B.returns
  have ht : ∀ w ∈ tw_W, w.before _ s = true := fun w h => atoms_spec (ws := Cond.code yX6_ticks cX6_ticks 4 (some .int) :: tw_W) B.pre w (List.mem_cons_of_mem _ h)
  have hown : s.vm.findClass RX6 = some m.cls := findClass_of_methodNamed B.named
  have hlocks := B.notSynchronized
  subst hsz
  unfold qi_
  have hD := hD0.self (sz := s.heap.size)
  generalize hAe : va_A [(a0_, .inr (9, [.ref a1_, .ref a2_, .int 0, .int 0, .int 0, .int 0, .ref a3_, .int 0, .ref a4_])), (a2_, .inl (cI, 32, .inl (fun _ => 0))), (a1_, .inl (cI, N, .inl (fun _ => 0)))] s.heap.size = A at hD hFx ⊢
  have hA : ∀ q : Nat, s.heap.size ≤ q → A q := fun q h => by rw [← hAe]; exact Or.inr h
  have hS : va_S A s.heap s.heap [] := va_S.rf
  have hP : va_P (dC, dI) vwCl [(a0_, .inr (9, [.ref a1_, .ref a2_, .int 0, .int 0, .int 0, .int 0, .ref a3_, .int 0, .ref a4_])), (a2_, .inl (cI, 32, .inl (fun _ => 0))), (a1_, .inl (cI, N, .inl (fun _ => 0)))] s.heap := hP
  have hl := lv_entry ([.ref a0_, .int x0_]) (n := 4) (Nat.le_of_ble_eq_true rfl)
  rw [lg_entry_eq]
  generalize (lg_sl ([.ref a0_, .int x0_]) ++ List.replicate (4 - (lg_sl ([.ref a0_, .int x0_])).length) Slot.unset).toArray = ls at hl ⊢
  have hl : lv_has ls 4 [(0, .ref a0_), (1, .int x0_)] := hl
  refine lv_aload_n hx hb dX6_ticks_0 rfl (lv_at hl 0 rfl) ?_
  refine va_get (D := (dC, dI)) (ci := 9) (v := .int 0) (C := RX6) (T := TX6) (N := 9) hx hb ht itX6 hown hK hP 0 rfl rfl 5 (by decide) (ht _ tw_227) (fun _ h9 => h9) rfl dX6_ticks_1 ?_
  refine lv_istore_n (lv' := [(2, .int 0), (0, .ref a0_), (1, .int x0_)]) hx hb dX6_ticks_4 rfl hl (by decide) rfl (fun ls hl => ?_)
  refine lv_iconst (v := 0) hx hb dX6_ticks_5 (by decide) ?_
  refine lv_istore_n (lv' := [(3, .int 0), (2, .int 0), (0, .ref a0_), (1, .int x0_)]) hx hb dX6_ticks_6 rfl hl (by decide) rfl (fun ls hl => ?_)
  refine lv_iload_n hx hb dX6_ticks_7 rfl (lv_at hl 0 rfl) ?_
  refine lv_iload_n hx hb dX6_ticks_8 rfl (lv_at hl 3 rfl) ?_
  refine lv_icmp_ge (tgt := 29) hx hb dX6_ticks_9 (by decide) (fun h1 => ?_) (fun h1 => ?_)
  · refine lv_aload_n hx hb dX6_ticks_29 rfl (lv_at hl 2 rfl) ?_
    refine va_get (D := (dC, dI)) (ci := 9) (v := .int 0) (C := RX6) (T := TX6) (N := 9) hx hb ht itX6 hown hK hP 0 rfl rfl 5 (by decide) (ht _ tw_227) (fun _ h9 => h9) rfl dX6_ticks_30 ?_
    refine lv_iload_n hx hb dX6_ticks_33 rfl (lv_at hl 1 rfl) ?_
    refine lv_isub hx hb dX6_ticks_34 ?_
    refine tp_i (y := 0) (by decide) ?_
    have hP9 := hP.sub (ws' := [(a2_, .inl (cI, 32, .inl (fun _ => 0))), (a1_, .inl (cI, N, .inl (fun _ => 0)))]) [1, 2] rfl
    have hD9 := hD.sub (ws' := [(a2_, .inl (cI, 32, .inl (fun _ => 0))), (a1_, .inl (cI, N, .inl (fun _ => 0)))]) [1, 2] (by decide) rfl
    refine W.widen (k := 0) (n := 0) (by omega) (by omega) ?_
    exact W.iret (v := 0) hx hb hr (fun t ht9 hW => ⟨⟨0, (), rfl, (by rw [if_pos h1]), by rw [ht9]; exact hP9, hD9⟩, hS.F ht9⟩) hS.2.2 dX6_ticks_35
  · refine lv_aload_n hx hb dX6_ticks_12 rfl (lv_at hl 2 rfl) ?_
    refine va_get (D := (dC, dI)) (ci := 9) (v := .int 0) (C := RX6) (T := TX6) (N := 9) hx hb ht itX6 hown hK hP 0 rfl rfl 4 (by decide) (ht _ tw_226) (fun _ h9 => h9) rfl dX6_ticks_13 ?_
    refine lv_if_ne (tgt := 29) hx hb dX6_ticks_16 (by decide) (fun k2 => absurd k2 (by decide)) (fun _ => ?_)
    refine lv_aload_n hx hb dX6_ticks_19 rfl (lv_at hl 2 rfl) ?_
    refine ca_v (wr := []) (rn_V (n := 0) (As := []) (rest := []) hx hb hml hown ht hKK hFx hP hD hS hA (c_X6_tick l dC dI cI cB cZ cJ cR tb s.heap.size a0_ a1_ a2_ a3_ a4_ N (by omega) (by omega)) tw_248 tw_280 (by decide +kernel) rfl rfl ⟨Nat.le_of_ble_eq_true rfl, Nat.le_of_ble_eq_true rfl⟩ [0, 1, 2] rfl (by decide) rfl rfl rfl rfl hl.1 rfl (Nat.le_of_ble_eq_true rfl) dX6_ticks_20 ⟨Nat.le_of_ble_eq_true rfl, Nat.le_of_ble_eq_true rfl⟩) hP hD hS hA (isC := [0, 1, 2]) (isR := []) rfl rfl (by decide) (by decide) (fun u H locs hw3 hP hD hS => ?_)
    have hP : va_P (dC, dI) vwCl [(a0_, .inr (9, [.ref a1_, .ref a2_, .int 0, .int 4, .int 2, .int 1, .ref a3_, .int 0, .ref a4_])), (a2_, .inl (cI, 32, .inl (fun _ => 0))), (a1_, .inl (cI, N, .inl (fun _ => 0)))] H := hP
    have hD : va_D A [(a0_, .inr (9, [.ref a1_, .ref a2_, .int 0, .int 4, .int 2, .int 1, .ref a3_, .int 0, .ref a4_])), (a2_, .inl (cI, 32, .inl (fun _ => 0))), (a1_, .inl (cI, N, .inl (fun _ => 0)))] := hD
    refine W.widen (k := 0) (n := 0) (by omega) (by omega) ?_
    refine lv_iinc (v := 1) (lv' := [(3, .int 1), (2, .int 0), (0, .ref a0_), (1, .int x0_)]) hx hb dX6_ticks_23 hl (k := 0) rfl (by decide) (by decide) rfl (fun ls hl => ?_)
    refine lv_goto (tgt := 7) hx hb dX6_ticks_26 (by decide) ?_
    refine lv_iload_n hx hb dX6_ticks_7 rfl (lv_at hl 0 rfl) ?_
    refine lv_iload_n hx hb dX6_ticks_8 rfl (lv_at hl 3 rfl) ?_
    refine lv_icmp_ge (tgt := 29) hx hb dX6_ticks_9 (by decide) (fun h4 => ?_) (fun h4 => ?_)
    · refine lv_aload_n hx hb dX6_ticks_29 rfl (lv_at hl 2 rfl) ?_
      refine va_get (D := (dC, dI)) (ci := 9) (v := .int 1) (C := RX6) (T := TX6) (N := 9) hx hb ht itX6 hown hK hP 0 rfl rfl 5 (by decide) (ht _ tw_227) (fun _ h9 => h9) rfl dX6_ticks_30 ?_
      refine lv_iload_n hx hb dX6_ticks_33 rfl (lv_at hl 1 rfl) ?_
      refine lv_isub hx hb dX6_ticks_34 ?_
      refine tp_i (y := 1) (by decide) ?_
      have hP9 := hP.sub (ws' := [(a2_, .inl (cI, 32, .inl (fun _ => 0))), (a1_, .inl (cI, N, .inl (fun _ => 0)))]) [1, 2] rfl
      have hD9 := hD.sub (ws' := [(a2_, .inl (cI, 32, .inl (fun _ => 0))), (a1_, .inl (cI, N, .inl (fun _ => 0)))]) [1, 2] (by decide) rfl
      refine W.widen (k := 0) (n := 0) (by omega) (by omega) ?_
      exact W.iret (v := 1) hx hb hr (fun t ht9 hW => ⟨⟨1, (), rfl, (by rw [if_neg h1]), by rw [ht9]; exact hP9, hD9⟩, hS.F ht9⟩) hS.2.2 dX6_ticks_35
    · refine lv_aload_n hx hb dX6_ticks_12 rfl (lv_at hl 2 rfl) ?_
      refine va_get (D := (dC, dI)) (ci := 9) (v := .int 2) (C := RX6) (T := TX6) (N := 9) hx hb ht itX6 hown hK hP 0 rfl rfl 4 (by decide) (ht _ tw_226) (fun _ h9 => h9) rfl dX6_ticks_13 ?_
      refine lv_if_ne (tgt := 29) hx hb dX6_ticks_16 (by decide) (fun _ => ?_) (fun k5 => absurd k5 (by decide))
      refine lv_aload_n hx hb dX6_ticks_29 rfl (lv_at hl 2 rfl) ?_
      refine va_get (D := (dC, dI)) (ci := 9) (v := .int 1) (C := RX6) (T := TX6) (N := 9) hx hb ht itX6 hown hK hP 0 rfl rfl 5 (by decide) (ht _ tw_227) (fun _ h9 => h9) rfl dX6_ticks_30 ?_
      refine lv_iload_n hx hb dX6_ticks_33 rfl (lv_at hl 1 rfl) ?_
      refine lv_isub hx hb dX6_ticks_34 ?_
      refine tp_i (y := 1) (by decide) ?_
      have hP9 := hP.sub (ws' := [(a2_, .inl (cI, 32, .inl (fun _ => 0))), (a1_, .inl (cI, N, .inl (fun _ => 0)))]) [1, 2] rfl
      have hD9 := hD.sub (ws' := [(a2_, .inl (cI, 32, .inl (fun _ => 0))), (a1_, .inl (cI, N, .inl (fun _ => 0)))]) [1, 2] (by decide) rfl
      refine W.widen (k := 0) (n := 0) (by omega) (by omega) ?_
      exact W.iret (v := 1) hx hb hr (fun t ht9 hW => ⟨⟨1, (), rfl, (by rw [if_neg h1]), by rw [ht9]; exact hP9, hD9⟩, hS.F ht9⟩) hS.2.2 dX6_ticks_35
set_option maxHeartbeats 4000000 in
set_option maxRecDepth 100000 in
/-- X11_run on a new object: it returns or throws -/
theorem c_X11_run (l : Launch) (dC : Nat → ClassId) (dI : Nat → Nat → Nat) (cI cB cZ cJ cR : ClassId) (tb : Nat → Nat) (hst : l.stackTraces = false) (sz : Nat) (h0 : Nat) (pa : Int32) (q1 : Nat) (q9 : Nat) (q18 : Nat) (q27 : Nat) (q42 : Nat) (q2 : Nat) (q45 : Nat) (q50 : Nat) (q5 : Nat) (q47 : Nat) (q48 : Nat) (q49 : Nat) (N : Nat) (hf_N_0 : 256 ≤ N) (hf_N_1 : N ≤ 4096) : vx_Met l yX11_run (Cond.code yX11_run cX11_run 2 (some .int) :: tw_W) ({ frames := 6, cells := 1, slots := 6, locals := 92 }) (pc_ (dC, dI) (tyS cI cB cZ cJ cR) tb [(h0, .inr (14, [.ref q1, .int 0, .ref q9, .ref q18, .ref q27, .ref q42, .int 0, .int (-1), .ref q2, .ref q45, .ref q50, .ref q5])), (q45, .inr (9, [.ref q47, .ref q48, .int 0, .int 0, .int 0, .int 0, .ref q49, .int 0, .ref q2])), (q48, .inl (cI, 32, .inl (fun _ => 0))), (q47, .inl (cI, N, .inl (fun _ => 0)))] sz [.ref h0, .int pa]) (qi_ (dC, dI) [(h0, .inr (14, [.ref q1, .int 0, .ref q9, .ref q18, .ref q27, .ref q42, .int 0, .int (-1), .ref q2, .ref q45, .ref q50, .ref q5])), (q45, .inr (9, [.ref q47, .ref q48, .int 0, .int 0, .int 0, .int 0, .ref q49, .int 0, .ref q2])), (q48, .inl (cI, 32, .inl (fun _ => 0))), (q47, .inl (cI, N, .inl (fun _ => 0)))] sz (fun (r : Int32) (u : Unit) => (¬ (pa < 0) ∧ pa ≤ 50000 ∧ r = (if pa ≤ (0 : Int32) then 0 else 1))) (fun (u : Unit) => [])) (qx_ [(h0, .inr (14, [.ref q1, .int 0, .ref q9, .ref q18, .ref q27, .ref q42, .int 0, .int (-1), .ref q2, .ref q45, .ref q50, .ref q5])), (q45, .inr (9, [.ref q47, .ref q48, .int 0, .int 0, .int 0, .int 0, .ref q49, .int 0, .ref q2])), (q48, .inl (cI, 32, .inl (fun _ => 0))), (q47, .inl (cI, N, .inl (fun _ => 0)))] sz (fun E => (pa < 0 ∧ E = "java/lang/IllegalArgumentException") ∨ (¬ (pa < 0) ∧ ¬ (pa ≤ 50000) ∧ E = "java/lang/IllegalArgumentException"))) 1 6 (va_A [(h0, .inr (14, [.ref q1, .int 0, .ref q9, .ref q18, .ref q27, .ref q42, .int 0, .int (-1), .ref q2, .ref q45, .ref q50, .ref q5])), (q45, .inr (9, [.ref q47, .ref q48, .int 0, .int 0, .int 0, .int 0, .ref q49, .int 0, .ref q2])), (q48, .inl (cI, 32, .inl (fun _ => 0))), (q47, .inl (cI, N, .inl (fun _ => 0)))] sz) := by
  refine vx_ofW (cc := cX11_run) (maxL := 2) (ret := (some .int)) (by decide) rfl ?_
  intro p e s m args below meth c s₁ B hml hnt hv
  obtain ⟨rfl, hsz, hP, hKK, hD0, hFx⟩ := hv
  have hK := hKK.1
  have hx := B.exec
  have hb := B.bytes
  have hr := B.returns
  have ht : ∀ w ∈ tw_W, w.before _ s = true := fun w h => atoms_spec (ws := Cond.code yX11_run cX11_run 2 (some .int) :: tw_W) B.pre w (List.mem_cons_of_mem _ h)
  have hown : s.vm.findClass RX11 = some m.cls := findClass_of_methodNamed B.named
  have hlocks := B.notSynchronized
  subst hsz
  unfold qi_ qx_
  have hD := hD0.self (sz := s.heap.size)
  generalize hAe : va_A [(h0, .inr (14, [.ref q1, .int 0, .ref q9, .ref q18, .ref q27, .ref q42, .int 0, .int (-1), .ref q2, .ref q45, .ref q50, .ref q5])), (q45, .inr (9, [.ref q47, .ref q48, .int 0, .int 0, .int 0, .int 0, .ref q49, .int 0, .ref q2])), (q48, .inl (cI, 32, .inl (fun _ => 0))), (q47, .inl (cI, N, .inl (fun _ => 0)))] s.heap.size = A at hD hFx ⊢
  have hA : ∀ q : Nat, s.heap.size ≤ q → A q := fun q h => by rw [← hAe]; exact Or.inr h
  have hS : va_S A s.heap s.heap [] := va_S.rf
  have hP : va_P (dC, dI) vwCl [(h0, .inr (14, [.ref q1, .int 0, .ref q9, .ref q18, .ref q27, .ref q42, .int 0, .int (-1), .ref q2, .ref q45, .ref q50, .ref q5])), (q45, .inr (9, [.ref q47, .ref q48, .int 0, .int 0, .int 0, .int 0, .ref q49, .int 0, .ref q2])), (q48, .inl (cI, 32, .inl (fun _ => 0))), (q47, .inl (cI, N, .inl (fun _ => 0)))] s.heap := hP
  have hl := lv_entry ([.ref h0, .int pa]) (n := 2) (Nat.le_of_ble_eq_true rfl)
  rw [lg_entry_eq]
  generalize (lg_sl ([.ref h0, .int pa]) ++ List.replicate (2 - (lg_sl ([.ref h0, .int pa])).length) Slot.unset).toArray = ls at hl ⊢
  have hl : lv_has ls 2 [(0, .ref h0), (1, .int pa)] := hl
  refine lv_iload_n hx hb dX11_run_0 rfl (lv_at hl 1 rfl) ?_
  refine lv_if_lt (tgt := 10) hx hb dX11_run_1 (by decide) (fun h1 => ?_) (fun h1 => ?_)
  · refine vx_throwS (names := ["java/lang/RuntimeException", "java/lang/Exception"]) (A := A) hx hb hst hown (by decide +kernel) (by decide +kernel) (ht _ tw_270) (ht _ tw_271) (hKK.2.2.2.2.1 _ (List.mem_of_getElem? (i := 15) rfl)) (vx_hat (fun w h => ht w (xat_1 w h)) xat_1_n (vx_c (va_Nw.use rfl (hKK.2.2.2.2.2.1 _ (List.mem_of_getElem? (i := 1) rfl))) (vx_c (dcl_0 ht) (vx_c (dcl_1 ht) (vx_c (dcl_2 ht) vx_n))))) xat_1_o hFx.2.2.2.2.1 hFx.2.2.2.2.2.1 hS (by rw [hml]; exact hl.1) dX11_run_10 dX11_run_13 dX11_run_14 dX11_run_16 dX11_run_19 (fun x h9 => (hnt x h9).elim) (Nat.le_of_ble_eq_true rfl) (Nat.le_of_ble_eq_true rfl) (Nat.le_of_ble_eq_true rfl) (Nat.le_of_ble_eq_true rfl) hlocks (fun t9 hv9 hz9 hk9 => ⟨(), trivial, (Or.inl ⟨h1, rfl⟩), ⟨Nat.le_trans hS.1 hz9, fun q h1 h2 => (hk9 q (Nat.lt_of_lt_of_le h1 hS.1)).trans (hS.2.1 q h1 h2)⟩⟩) hS.2.2 (Nat.le_of_ble_eq_true rfl) (Nat.le_of_ble_eq_true rfl)
  · refine lv_iload_n hx hb dX11_run_4 rfl (lv_at hl 1 rfl) ?_
    refine lv_ldc (v := 50000) hx hb hown (ht _ tw_279) dX11_run_5 ?_
    refine lv_icmp_le (tgt := 20) hx hb dX11_run_7 (by decide) (fun h2 => ?_) (fun h2 => ?_)
    · refine lv_aload_n hx hb dX11_run_20 rfl (lv_at hl 0 rfl) ?_
      refine va_get (D := (dC, dI)) (ci := 14) (v := .ref q45) (C := RX11) (T := TX11) (N := 12) hx hb ht itX11 hown hK hP 0 rfl rfl 9 (by decide) (ht _ tw_140) (fun _ h9 => h9) rfl dX11_run_21 ?_
      refine lv_iload_n hx hb dX11_run_24 rfl (lv_at hl 1 rfl) ?_
      refine ca_i (wr := [(h0, .inr (14, [.ref q1, .int 0, .ref q9, .ref q18, .ref q27, .ref q42, .int 0, .int (-1), .ref q2, .ref q45, .ref q50, .ref q5]))]) (rn_V (n := 1) (As := [.int pa]) (rest := []) hx hb hml hown ht hKK hFx hP hD hS hA (c_X6_ticks l dC dI cI cB cZ cJ cR tb s.heap.size q45 pa q47 q48 q49 q2 N (by omega) (by omega)) tw_281 tw_282 (by decide +kernel) rfl rfl ⟨Nat.le_of_ble_eq_true rfl, Nat.le_of_ble_eq_true rfl⟩ [1, 2, 3] rfl (by decide) rfl rfl rfl rfl hl.1 rfl (Nat.le_of_ble_eq_true rfl) dX11_run_25 ⟨Nat.le_of_ble_eq_true rfl, Nat.le_of_ble_eq_true rfl⟩) hP hD hS hA (isC := [1, 2, 3]) (isR := [0]) rfl rfl (by decide) (by decide) (fun r4 u H locs hw3 hP hD hS => ?_)
      subst hw3
      have hP : va_P (dC, dI) vwCl [(h0, .inr (14, [.ref q1, .int 0, .ref q9, .ref q18, .ref q27, .ref q42, .int 0, .int (-1), .ref q2, .ref q45, .ref q50, .ref q5])), (q48, .inl (cI, 32, .inl (fun _ => 0))), (q47, .inl (cI, N, .inl (fun _ => 0)))] H := hP
      have hD : va_D A [(h0, .inr (14, [.ref q1, .int 0, .ref q9, .ref q18, .ref q27, .ref q42, .int 0, .int (-1), .ref q2, .ref q45, .ref q50, .ref q5])), (q48, .inl (cI, 32, .inl (fun _ => 0))), (q47, .inl (cI, N, .inl (fun _ => 0)))] := hD
      refine W.widen (k := 0) (n := 0) (by omega) (by omega) ?_
      have hP9 := hP.sub (ws' := []) [] rfl
      have hD9 := hD.sub (ws' := []) [] (by decide) rfl
      refine W.widen (k := 1) (n := 6) (by omega) (by omega) ?_
      refine vx_ret ?_
      exact W.iret (v := (if pa ≤ (0 : Int32) then 0 else 1)) hx hb hr (fun t ht9 hW => ⟨⟨(if pa ≤ (0 : Int32) then 0 else 1), (), rfl, (⟨h1, h2, rfl⟩), by rw [ht9]; exact hP9, hD9⟩, hS.F ht9⟩) hS.2.2 dX11_run_28
    · refine vx_throwS (names := ["java/lang/RuntimeException", "java/lang/Exception"]) (A := A) hx hb hst hown (by decide +kernel) (by decide +kernel) (ht _ tw_270) (ht _ tw_271) (hKK.2.2.2.2.1 _ (List.mem_of_getElem? (i := 15) rfl)) (vx_hat (fun w h => ht w (xat_1 w h)) xat_1_n (vx_c (va_Nw.use rfl (hKK.2.2.2.2.2.1 _ (List.mem_of_getElem? (i := 1) rfl))) (vx_c (dcl_0 ht) (vx_c (dcl_1 ht) (vx_c (dcl_2 ht) vx_n))))) xat_1_o hFx.2.2.2.2.1 hFx.2.2.2.2.2.1 hS (by rw [hml]; exact hl.1) dX11_run_10 dX11_run_13 dX11_run_14 dX11_run_16 dX11_run_19 (fun x h9 => (hnt x h9).elim) (Nat.le_of_ble_eq_true rfl) (Nat.le_of_ble_eq_true rfl) (Nat.le_of_ble_eq_true rfl) (Nat.le_of_ble_eq_true rfl) hlocks (fun t9 hv9 hz9 hk9 => ⟨(), trivial, (Or.inr (⟨h1, h2, rfl⟩)), ⟨Nat.le_trans hS.1 hz9, fun q h1 h2 => (hk9 q (Nat.lt_of_lt_of_le h1 hS.1)).trans (hS.2.1 q h1 h2)⟩⟩) hS.2.2 (Nat.le_of_ble_eq_true rfl) (Nat.le_of_ble_eq_true rfl)
set_option maxHeartbeats 4000000 in
set_option maxRecDepth 100000 in
theorem c_X6_hasWord_2 (l : Launch) (dC : Nat → ClassId) (dI : Nat → Nat → Nat) (cI cB cZ cJ cR : ClassId) (tb : Nat → Nat) (sz : Nat) (a0_ : Nat) (x0_ : Int32) (a1_ : Nat) (a2_ : Nat) (a3_ : Nat) (a4_ : Nat) (N : Nat) (hf_N_0 : 256 ≤ N) (hf_N_1 : N ≤ 4096) : Met l yX6_hasWord (Cond.code yX6_hasWord cX6_hasWord 2 (some .boolean) :: tw_W) ({ frames := 0, cells := 0, slots := 0, locals := 0 }) (pc_ (dC, dI) (tyS cI cB cZ cJ cR) tb [(a0_, .inr (9, [.ref a1_, .ref a2_, .int 0, .int 0, .int 0, .int 0, .ref a3_, .int 0, .ref a4_])), (a1_, .inl (cI, N, .inl (fun _ => 0)))] sz [.ref a0_, .int x0_]) (qi_ (dC, dI) [(a0_, .inr (9, [.ref a1_, .ref a2_, .int 0, .int 0, .int 0, .int 0, .ref a3_, .int 0, .ref a4_])), (a1_, .inl (cI, N, .inl (fun _ => 0)))] sz (fun (r : Int32) (u : Unit) => r = (if ¬ (x0_ &&& 3) = 0 then 0 else (if (nI N) ≤ ((x0_.toUInt32 >>> ((2 : Int32).toUInt32 &&& Int32.toUInt32 31)).toInt32) then 0 else 1))) (fun (u : Unit) => [(a0_, .inr (9, [.ref a1_, .ref a2_, .int 0, .int 0, .int 0, .int 0, .ref a3_, .int 0, .ref a4_])), (a1_, .inl (cI, N, .inl (fun _ => 0)))])) 0 0 (va_A [(a0_, .inr (9, [.ref a1_, .ref a2_, .int 0, .int 0, .int 0, .int 0, .ref a3_, .int 0, .ref a4_])), (a1_, .inl (cI, N, .inl (fun _ => 0)))] sz) := by
  refine Met.ofW (cc := cX6_hasWord) (maxL := 2) (ret := (some .boolean)) (by decide) rfl ?_
  intro p e s m args below meth c s₁ B hml hv
  obtain ⟨rfl, hsz, hP, hKK, hD0, hFx⟩ := hv
  have hK := hKK.1
  have hx := B.exec
  have hb := B.bytes
  have hr := B.returns
  have ht : ∀ w ∈ tw_W, w.before _ s = true := fun w h => atoms_spec (ws := Cond.code yX6_hasWord cX6_hasWord 2 (some .boolean) :: tw_W) B.pre w (List.mem_cons_of_mem _ h)
  have hown : s.vm.findClass RX6 = some m.cls := findClass_of_methodNamed B.named
  have hlocks := B.notSynchronized
  subst hsz
  unfold qi_
  have hD := hD0.self (sz := s.heap.size)
  generalize hAe : va_A [(a0_, .inr (9, [.ref a1_, .ref a2_, .int 0, .int 0, .int 0, .int 0, .ref a3_, .int 0, .ref a4_])), (a1_, .inl (cI, N, .inl (fun _ => 0)))] s.heap.size = A at hD hFx ⊢
  have hA : ∀ q : Nat, s.heap.size ≤ q → A q := fun q h => by rw [← hAe]; exact Or.inr h
  have hS : va_S A s.heap s.heap [] := va_S.rf
  have hP : va_P (dC, dI) vwCl [(a0_, .inr (9, [.ref a1_, .ref a2_, .int 0, .int 0, .int 0, .int 0, .ref a3_, .int 0, .ref a4_])), (a1_, .inl (cI, N, .inl (fun _ => 0)))] s.heap := hP
  have hl := lv_entry ([.ref a0_, .int x0_]) (n := 2) (Nat.le_of_ble_eq_true rfl)
  rw [lg_entry_eq]
  generalize (lg_sl ([.ref a0_, .int x0_]) ++ List.replicate (2 - (lg_sl ([.ref a0_, .int x0_])).length) Slot.unset).toArray = ls at hl ⊢
  have hl : lv_has ls 2 [(0, .ref a0_), (1, .int x0_)] := hl
  refine lv_iload_n hx hb dX6_hasWord_0 rfl (lv_at hl 1 rfl) ?_
  refine lv_iconst (v := 3) hx hb dX6_hasWord_1 (by decide) ?_
  refine lv_iand hx hb dX6_hasWord_2 ?_
  refine lv_if_ne (tgt := 21) hx hb dX6_hasWord_3 (by decide) (fun h1 => ?_) (fun h1 => ?_)
  · refine lv_iconst (v := 0) hx hb dX6_hasWord_21 (by decide) ?_
    have hP9 := hP.sub (ws' := [(a0_, .inr (9, [.ref a1_, .ref a2_, .int 0, .int 0, .int 0, .int 0, .ref a3_, .int 0, .ref a4_])), (a1_, .inl (cI, N, .inl (fun _ => 0)))]) [0, 1] rfl
    have hD9 := hD.sub (ws' := [(a0_, .inr (9, [.ref a1_, .ref a2_, .int 0, .int 0, .int 0, .int 0, .ref a3_, .int 0, .ref a4_])), (a1_, .inl (cI, N, .inl (fun _ => 0)))]) [0, 1] (by decide) rfl
    refine W.widen (k := 0) (n := 0) (by omega) (by omega) ?_
    exact W.zret (v := 0) hx hb hr rfl (fun t ht9 hW => ⟨⟨0, (), rfl, (by rw [if_pos h1]), by rw [ht9]; exact hP9, hD9⟩, hS.F ht9⟩) hS.2.2 dX6_hasWord_22
  · refine lv_iload_n hx hb dX6_hasWord_6 rfl (lv_at hl 1 rfl) ?_
    refine lv_iconst (v := 2) hx hb dX6_hasWord_7 (by decide) ?_
    refine lv_iushr hx hb dX6_hasWord_8 rfl ?_
    refine lv_aload_n hx hb dX6_hasWord_9 rfl (lv_at hl 0 rfl) ?_
    refine va_get (D := (dC, dI)) (ci := 9) (v := .ref a1_) (C := RX6) (T := TX6) (N := 9) hx hb ht itX6 hown hK hP 0 rfl rfl 0 (by decide) (ht _ tw_134) (fun _ h9 => h9) rfl dX6_hasWord_10 ?_
    refine va_alen (D := (dC, dI)) (v := (nI N)) hx hb hK hP 1 0 rfl rfl rfl dX6_hasWord_13 ?_
    refine lv_icmp_ge (tgt := 21) hx hb dX6_hasWord_14 (by decide) (fun h2 => ?_) (fun h2 => ?_)
    · refine lv_iconst (v := 0) hx hb dX6_hasWord_21 (by decide) ?_
      have hP9 := hP.sub (ws' := [(a0_, .inr (9, [.ref a1_, .ref a2_, .int 0, .int 0, .int 0, .int 0, .ref a3_, .int 0, .ref a4_])), (a1_, .inl (cI, N, .inl (fun _ => 0)))]) [0, 1] rfl
      have hD9 := hD.sub (ws' := [(a0_, .inr (9, [.ref a1_, .ref a2_, .int 0, .int 0, .int 0, .int 0, .ref a3_, .int 0, .ref a4_])), (a1_, .inl (cI, N, .inl (fun _ => 0)))]) [0, 1] (by decide) rfl
      refine W.widen (k := 0) (n := 0) (by omega) (by omega) ?_
      exact W.zret (v := 0) hx hb hr rfl (fun t ht9 hW => ⟨⟨0, (), rfl, (by rw [if_neg h1, if_pos h2]), by rw [ht9]; exact hP9, hD9⟩, hS.F ht9⟩) hS.2.2 dX6_hasWord_22
    · refine lv_iconst (v := 1) hx hb dX6_hasWord_17 (by decide) ?_
      refine lv_goto (tgt := 22) hx hb dX6_hasWord_18 (by decide) ?_
      have hP9 := hP.sub (ws' := [(a0_, .inr (9, [.ref a1_, .ref a2_, .int 0, .int 0, .int 0, .int 0, .ref a3_, .int 0, .ref a4_])), (a1_, .inl (cI, N, .inl (fun _ => 0)))]) [0, 1] rfl
      have hD9 := hD.sub (ws' := [(a0_, .inr (9, [.ref a1_, .ref a2_, .int 0, .int 0, .int 0, .int 0, .ref a3_, .int 0, .ref a4_])), (a1_, .inl (cI, N, .inl (fun _ => 0)))]) [0, 1] (by decide) rfl
      refine W.widen (k := 0) (n := 0) (by omega) (by omega) ?_
      exact W.zret (v := 1) hx hb hr rfl (fun t ht9 hW => ⟨⟨1, (), rfl, (by rw [if_neg h1, if_neg h2]), by rw [ht9]; exact hP9, hD9⟩, hS.F ht9⟩) hS.2.2 dX6_hasWord_22
set_option maxHeartbeats 4000000 in
set_option maxRecDepth 100000 in
theorem c_X11_checkAddress (l : Launch) (dC : Nat → ClassId) (dI : Nat → Nat → Nat) (cI cB cZ cJ cR : ClassId) (tb : Nat → Nat) (hst : l.stackTraces = false) (sz : Nat) (a0_ : Nat) (x0_ : Int32) (a1_ : Nat) (a2_ : Nat) (a3_ : Nat) (a4_ : Nat) (a5_ : Nat) (a6_ : Nat) (a7_ : Nat) (a8_ : Nat) (a9_ : Nat) (a10_ : Nat) (a11_ : Nat) (a12_ : Nat) (N : Nat) (hf_N_0 : 256 ≤ N) (hf_N_1 : N ≤ 4096) : vx_Met l yX11_checkAddress (Cond.code yX11_checkAddress cX11_checkAddress 2 none :: tw_W) ({ frames := 6, cells := 1, slots := 6, locals := 82 }) (pc_ (dC, dI) (tyS cI cB cZ cJ cR) tb [(a0_, .inr (14, [.ref a1_, .int 0, .ref a2_, .ref a3_, .ref a4_, .ref a5_, .int 0, .int (-1), .ref a6_, .ref a7_, .ref a8_, .ref a9_])), (a7_, .inr (9, [.ref a10_, .ref a11_, .int 0, .int 0, .int 0, .int 0, .ref a12_, .int 0, .ref a6_])), (a10_, .inl (cI, N, .inl (fun _ => 0)))] sz [.ref a0_, .int x0_]) (qv_ (dC, dI) [(a0_, .inr (14, [.ref a1_, .int 0, .ref a2_, .ref a3_, .ref a4_, .ref a5_, .int 0, .int (-1), .ref a6_, .ref a7_, .ref a8_, .ref a9_])), (a7_, .inr (9, [.ref a10_, .ref a11_, .int 0, .int 0, .int 0, .int 0, .ref a12_, .int 0, .ref a6_])), (a10_, .inl (cI, N, .inl (fun _ => 0)))] sz (fun (u : Unit) => ((x0_ &&& 3) = 0 ∧ ¬ (if ¬ (x0_ &&& 3) = 0 then 0 else (if (nI N) ≤ ((x0_.toUInt32 >>> ((2 : Int32).toUInt32 &&& Int32.toUInt32 31)).toInt32) then 0 else 1)) = 0 ∧ True)) (fun (u : Unit) => [(a0_, .inr (14, [.ref a1_, .int 0, .ref a2_, .ref a3_, .ref a4_, .ref a5_, .int 0, .int (-1), .ref a6_, .ref a7_, .ref a8_, .ref a9_])), (a7_, .inr (9, [.ref a10_, .ref a11_, .int 0, .int 0, .int 0, .int 0, .ref a12_, .int 0, .ref a6_])), (a10_, .inl (cI, N, .inl (fun _ => 0)))])) (qx_ [(a0_, .inr (14, [.ref a1_, .int 0, .ref a2_, .ref a3_, .ref a4_, .ref a5_, .int 0, .int (-1), .ref a6_, .ref a7_, .ref a8_, .ref a9_])), (a7_, .inr (9, [.ref a10_, .ref a11_, .int 0, .int 0, .int 0, .int 0, .ref a12_, .int 0, .ref a6_])), (a10_, .inl (cI, N, .inl (fun _ => 0)))] sz (fun E => ((x0_ &&& 3) = 0 ∧ ¬ (¬ (if ¬ (x0_ &&& 3) = 0 then 0 else (if (nI N) ≤ ((x0_.toUInt32 >>> ((2 : Int32).toUInt32 &&& Int32.toUInt32 31)).toInt32) then 0 else 1)) = 0) ∧ E = "java/lang/IndexOutOfBoundsException") ∨ (¬ ((x0_ &&& 3) = 0) ∧ E = "java/lang/IllegalArgumentException"))) 1 6 (va_A [(a0_, .inr (14, [.ref a1_, .int 0, .ref a2_, .ref a3_, .ref a4_, .ref a5_, .int 0, .int (-1), .ref a6_, .ref a7_, .ref a8_, .ref a9_])), (a7_, .inr (9, [.ref a10_, .ref a11_, .int 0, .int 0, .int 0, .int 0, .ref a12_, .int 0, .ref a6_])), (a10_, .inl (cI, N, .inl (fun _ => 0)))] sz) := by
  refine vx_ofW (cc := cX11_checkAddress) (maxL := 2) (ret := none) (by decide) rfl ?_
  intro p e s m args below meth c s₁ B hml hnt hv
  obtain ⟨rfl, hsz, hP, hKK, hD0, hFx⟩ := hv
  have hK := hKK.1
  have hx := B.exec
  have hb := B.bytes
  have hr := B.returns
  have ht : ∀ w ∈ tw_W, w.before _ s = true := fun w h => atoms_spec (ws := Cond.code yX11_checkAddress cX11_checkAddress 2 none :: tw_W) B.pre w (List.mem_cons_of_mem _ h)
  have hown : s.vm.findClass RX11 = some m.cls := findClass_of_methodNamed B.named
  have hlocks := B.notSynchronized
  subst hsz
  unfold qv_ qx_
  have hD := hD0.self (sz := s.heap.size)
  generalize hAe : va_A [(a0_, .inr (14, [.ref a1_, .int 0, .ref a2_, .ref a3_, .ref a4_, .ref a5_, .int 0, .int (-1), .ref a6_, .ref a7_, .ref a8_, .ref a9_])), (a7_, .inr (9, [.ref a10_, .ref a11_, .int 0, .int 0, .int 0, .int 0, .ref a12_, .int 0, .ref a6_])), (a10_, .inl (cI, N, .inl (fun _ => 0)))] s.heap.size = A at hD hFx ⊢
  have hA : ∀ q : Nat, s.heap.size ≤ q → A q := fun q h => by rw [← hAe]; exact Or.inr h
  have hS : va_S A s.heap s.heap [] := va_S.rf
  have hP : va_P (dC, dI) vwCl [(a0_, .inr (14, [.ref a1_, .int 0, .ref a2_, .ref a3_, .ref a4_, .ref a5_, .int 0, .int (-1), .ref a6_, .ref a7_, .ref a8_, .ref a9_])), (a7_, .inr (9, [.ref a10_, .ref a11_, .int 0, .int 0, .int 0, .int 0, .ref a12_, .int 0, .ref a6_])), (a10_, .inl (cI, N, .inl (fun _ => 0)))] s.heap := hP
  have hl := lv_entry ([.ref a0_, .int x0_]) (n := 2) (Nat.le_of_ble_eq_true rfl)
  rw [lg_entry_eq]
  generalize (lg_sl ([.ref a0_, .int x0_]) ++ List.replicate (2 - (lg_sl ([.ref a0_, .int x0_])).length) Slot.unset).toArray = ls at hl ⊢
  have hl : lv_has ls 2 [(0, .ref a0_), (1, .int x0_)] := hl
  refine lv_iload_n hx hb dX11_checkAddress_0 rfl (lv_at hl 1 rfl) ?_
  refine lv_iconst (v := 3) hx hb dX11_checkAddress_1 (by decide) ?_
  refine lv_iand hx hb dX11_checkAddress_2 ?_
  refine lv_if_eq (tgt := 16) hx hb dX11_checkAddress_3 (by decide) (fun h1 => ?_) (fun h1 => ?_)
  · refine lv_aload_n hx hb dX11_checkAddress_16 rfl (lv_at hl 0 rfl) ?_
    refine va_get (D := (dC, dI)) (ci := 14) (v := .ref a7_) (C := RX11) (T := TX11) (N := 12) hx hb ht itX11 hown hK hP 0 rfl rfl 9 (by decide) (ht _ tw_140) (fun _ h9 => h9) rfl dX11_checkAddress_17 ?_
    refine lv_iload_n hx hb dX11_checkAddress_20 rfl (lv_at hl 1 rfl) ?_
    refine ca_i (wr := [(a0_, .inr (14, [.ref a1_, .int 0, .ref a2_, .ref a3_, .ref a4_, .ref a5_, .int 0, .int (-1), .ref a6_, .ref a7_, .ref a8_, .ref a9_]))]) (rn_V (n := 1) (As := [.int x0_]) (rest := []) hx hb hml hown ht hKK hFx hP hD hS hA (c_X6_hasWord_2 l dC dI cI cB cZ cJ cR tb s.heap.size a7_ x0_ a10_ a11_ a12_ a6_ N (by omega) (by omega)) tw_229 tw_283 (by decide +kernel) rfl rfl ⟨Nat.le_of_ble_eq_true rfl, Nat.le_of_ble_eq_true rfl⟩ [1, 2] rfl (by decide) rfl rfl rfl rfl hl.1 rfl (Nat.le_of_ble_eq_true rfl) dX11_checkAddress_21 ⟨Nat.le_of_ble_eq_true rfl, Nat.le_of_ble_eq_true rfl⟩) hP hD hS hA (isC := [1, 2]) (isR := [0]) rfl rfl (by decide) (by decide) (fun r3 u H locs hw2 hP hD hS => ?_)
    subst hw2
    have hP : va_P (dC, dI) vwCl [(a0_, .inr (14, [.ref a1_, .int 0, .ref a2_, .ref a3_, .ref a4_, .ref a5_, .int 0, .int (-1), .ref a6_, .ref a7_, .ref a8_, .ref a9_])), (a7_, .inr (9, [.ref a10_, .ref a11_, .int 0, .int 0, .int 0, .int 0, .ref a12_, .int 0, .ref a6_])), (a10_, .inl (cI, N, .inl (fun _ => 0)))] H := hP
    have hD : va_D A [(a0_, .inr (14, [.ref a1_, .int 0, .ref a2_, .ref a3_, .ref a4_, .ref a5_, .int 0, .int (-1), .ref a6_, .ref a7_, .ref a8_, .ref a9_])), (a7_, .inr (9, [.ref a10_, .ref a11_, .int 0, .int 0, .int 0, .int 0, .ref a12_, .int 0, .ref a6_])), (a10_, .inl (cI, N, .inl (fun _ => 0)))] := hD
    refine W.widen (k := 0) (n := 0) (by omega) (by omega) ?_
    refine lv_if_ne (tgt := 37) hx hb dX11_checkAddress_24 (by decide) (fun h4 => ?_) (fun h4 => ?_)
    · have hP9 := hP.sub (ws' := [(a0_, .inr (14, [.ref a1_, .int 0, .ref a2_, .ref a3_, .ref a4_, .ref a5_, .int 0, .int (-1), .ref a6_, .ref a7_, .ref a8_, .ref a9_])), (a7_, .inr (9, [.ref a10_, .ref a11_, .int 0, .int 0, .int 0, .int 0, .ref a12_, .int 0, .ref a6_])), (a10_, .inl (cI, N, .inl (fun _ => 0)))]) [0, 1, 2] rfl
      have hD9 := hD.sub (ws' := [(a0_, .inr (14, [.ref a1_, .int 0, .ref a2_, .ref a3_, .ref a4_, .ref a5_, .int 0, .int (-1), .ref a6_, .ref a7_, .ref a8_, .ref a9_])), (a7_, .inr (9, [.ref a10_, .ref a11_, .int 0, .int 0, .int 0, .int 0, .ref a12_, .int 0, .ref a6_])), (a10_, .inl (cI, N, .inl (fun _ => 0)))]) [0, 1, 2] (by decide) rfl
      refine W.widen (k := 1) (n := 6) (by omega) (by omega) ?_
      refine vx_ret ?_
      exact W.vret hx hb hr (fun t ht9 hW => ⟨⟨(), rfl, (⟨h1, h4, trivial⟩), by rw [ht9]; exact hP9, hD9⟩, hS.F ht9⟩) hS.2.2 dX11_checkAddress_37
    · refine vx_throwS (names := ["java/lang/RuntimeException", "java/lang/Exception"]) (A := A) hx hb hst hown (by decide +kernel) (by decide +kernel) (ht _ tw_268) (ht _ tw_269) (hKK.2.2.2.2.1 _ (List.mem_of_getElem? (i := 18) rfl)) (vx_hat (fun w h => ht w (xat_0 w h)) xat_0_n (vx_c (va_Nw.use rfl (hKK.2.2.2.2.2.1 _ (List.mem_of_getElem? (i := 0) rfl))) (vx_c (dcl_0 ht) (vx_c (dcl_1 ht) (vx_c (dcl_2 ht) vx_n))))) xat_0_o hFx.2.2.2.2.1 hFx.2.2.2.2.2.1 hS (by rw [hml]; exact hl.1) dX11_checkAddress_27 dX11_checkAddress_30 dX11_checkAddress_31 dX11_checkAddress_33 dX11_checkAddress_36 (fun x h9 => (hnt x h9).elim) (Nat.le_of_ble_eq_true rfl) (Nat.le_of_ble_eq_true rfl) (Nat.le_of_ble_eq_true rfl) (Nat.le_of_ble_eq_true rfl) hlocks (fun t9 hv9 hz9 hk9 => ⟨(), trivial, (Or.inl ⟨h1, h4, rfl⟩), ⟨Nat.le_trans hS.1 hz9, fun q h1 h2 => (hk9 q (Nat.lt_of_lt_of_le h1 hS.1)).trans (hS.2.1 q h1 h2)⟩⟩) hS.2.2 (Nat.le_of_ble_eq_true rfl) (Nat.le_of_ble_eq_true rfl)
  · refine vx_throwS (names := ["java/lang/RuntimeException", "java/lang/Exception"]) (A := A) hx hb hst hown (by decide +kernel) (by decide +kernel) (ht _ tw_270) (ht _ tw_271) (hKK.2.2.2.2.1 _ (List.mem_of_getElem? (i := 17) rfl)) (vx_hat (fun w h => ht w (xat_1 w h)) xat_1_n (vx_c (va_Nw.use rfl (hKK.2.2.2.2.2.1 _ (List.mem_of_getElem? (i := 1) rfl))) (vx_c (dcl_0 ht) (vx_c (dcl_1 ht) (vx_c (dcl_2 ht) vx_n))))) xat_1_o hFx.2.2.2.2.1 hFx.2.2.2.2.2.1 hS (by rw [hml]; exact hl.1) dX11_checkAddress_6 dX11_checkAddress_9 dX11_checkAddress_10 dX11_checkAddress_12 dX11_checkAddress_15 (fun x h9 => (hnt x h9).elim) (Nat.le_of_ble_eq_true rfl) (Nat.le_of_ble_eq_true rfl) (Nat.le_of_ble_eq_true rfl) (Nat.le_of_ble_eq_true rfl) hlocks (fun t9 hv9 hz9 hk9 => ⟨(), trivial, (Or.inr (⟨h1, rfl⟩)), ⟨Nat.le_trans hS.1 hz9, fun q h1 h2 => (hk9 q (Nat.lt_of_lt_of_le h1 hS.1)).trans (hS.2.1 q h1 h2)⟩⟩) hS.2.2 (Nat.le_of_ble_eq_true rfl) (Nat.le_of_ble_eq_true rfl)
set_option maxHeartbeats 4000000 in
set_option maxRecDepth 100000 in
theorem c_X6_wordAt_2 (l : Launch) (dC : Nat → ClassId) (dI : Nat → Nat → Nat) (cI cB cZ cJ cR : ClassId) (tb : Nat → Nat) (sz : Nat) (a0_ : Nat) (x0_ : Int32) (a1_ : Nat) (a2_ : Nat) (a3_ : Nat) (a4_ : Nat) (N : Nat) (hf_N_0 : 256 ≤ N) (hf_N_1 : N ≤ 4096) : Met l yX6_wordAt (Cond.code yX6_wordAt cX6_wordAt 3 (some .int) :: tw_W) ({ frames := 0, cells := 0, slots := 0, locals := 0 }) (pc_ (dC, dI) (tyS cI cB cZ cJ cR) tb [(a0_, .inr (9, [.ref a1_, .ref a2_, .int 0, .int 0, .int 0, .int 0, .ref a3_, .int 0, .ref a4_])), (a1_, .inl (cI, N, .inl (fun _ => 0)))] sz [.ref a0_, .int x0_]) (qi_ (dC, dI) [(a0_, .inr (9, [.ref a1_, .ref a2_, .int 0, .int 0, .int 0, .int 0, .ref a3_, .int 0, .ref a4_])), (a1_, .inl (cI, N, .inl (fun _ => 0)))] sz (fun (r : Int32) (u : Unit) => r = 0) (fun (u : Unit) => [(a0_, .inr (9, [.ref a1_, .ref a2_, .int 0, .int 0, .int 0, .int 0, .ref a3_, .int 0, .ref a4_])), (a1_, .inl (cI, N, .inl (fun _ => 0)))])) 0 0 (va_A [(a0_, .inr (9, [.ref a1_, .ref a2_, .int 0, .int 0, .int 0, .int 0, .ref a3_, .int 0, .ref a4_])), (a1_, .inl (cI, N, .inl (fun _ => 0)))] sz) := by
  refine Met.ofW (cc := cX6_wordAt) (maxL := 3) (ret := (some .int)) (by decide) rfl ?_
  intro p e s m args below meth c s₁ B hml hv
  obtain ⟨rfl, hsz, hP, hKK, hD0, hFx⟩ := hv
  have hK := hKK.1
  have hx := B.exec
  have hb := B.bytes
  have hr := B.returns
  have ht : ∀ w ∈ tw_W, w.before _ s = true := fun w h => atoms_spec (ws := Cond.code yX6_wordAt cX6_wordAt 3 (some .int) :: tw_W) B.pre w (List.mem_cons_of_mem _ h)
  have hown : s.vm.findClass RX6 = some m.cls := findClass_of_methodNamed B.named
  have hlocks := B.notSynchronized
  subst hsz
  unfold qi_
  have hD := hD0.self (sz := s.heap.size)
  generalize hAe : va_A [(a0_, .inr (9, [.ref a1_, .ref a2_, .int 0, .int 0, .int 0, .int 0, .ref a3_, .int 0, .ref a4_])), (a1_, .inl (cI, N, .inl (fun _ => 0)))] s.heap.size = A at hD hFx ⊢
  have hA : ∀ q : Nat, s.heap.size ≤ q → A q := fun q h => by rw [← hAe]; exact Or.inr h
  have hS : va_S A s.heap s.heap [] := va_S.rf
  have hP : va_P (dC, dI) vwCl [(a0_, .inr (9, [.ref a1_, .ref a2_, .int 0, .int 0, .int 0, .int 0, .ref a3_, .int 0, .ref a4_])), (a1_, .inl (cI, N, .inl (fun _ => 0)))] s.heap := hP
  have hl := lv_entry ([.ref a0_, .int x0_]) (n := 3) (Nat.le_of_ble_eq_true rfl)
  rw [lg_entry_eq]
  generalize (lg_sl ([.ref a0_, .int x0_]) ++ List.replicate (3 - (lg_sl ([.ref a0_, .int x0_])).length) Slot.unset).toArray = ls at hl ⊢
  have hl : lv_has ls 3 [(0, .ref a0_), (1, .int x0_)] := hl
  refine lv_iload_n hx hb dX6_wordAt_0 rfl (lv_at hl 1 rfl) ?_
  refine lv_iconst (v := 2) hx hb dX6_wordAt_1 (by decide) ?_
  refine lv_iushr hx hb dX6_wordAt_2 rfl ?_
  refine lv_istore_n (lv' := [(2, .int ((x0_.toUInt32 >>> ((2 : Int32).toUInt32 &&& Int32.toUInt32 31)).toInt32)), (0, .ref a0_), (1, .int x0_)]) hx hb dX6_wordAt_3 rfl hl (by decide) rfl (fun ls hl => ?_)
  refine lv_iload_n hx hb dX6_wordAt_4 rfl (lv_at hl 0 rfl) ?_
  refine lv_aload_n hx hb dX6_wordAt_5 rfl (lv_at hl 1 rfl) ?_
  refine va_get (D := (dC, dI)) (ci := 9) (v := .ref a1_) (C := RX6) (T := TX6) (N := 9) hx hb ht itX6 hown hK hP 0 rfl rfl 0 (by decide) (ht _ tw_134) (fun _ h9 => h9) rfl dX6_wordAt_6 ?_
  refine va_alen (D := (dC, dI)) (v := (nI N)) hx hb hK hP 1 0 rfl rfl rfl dX6_wordAt_9 ?_
  refine lv_icmp_ge (tgt := 22) hx hb dX6_wordAt_10 (by decide) (fun h1 => ?_) (fun h1 => ?_)
  · refine lv_iconst (v := 0) hx hb dX6_wordAt_22 (by decide) ?_
    have hP9 := hP.sub (ws' := [(a0_, .inr (9, [.ref a1_, .ref a2_, .int 0, .int 0, .int 0, .int 0, .ref a3_, .int 0, .ref a4_])), (a1_, .inl (cI, N, .inl (fun _ => 0)))]) [0, 1] rfl
    have hD9 := hD.sub (ws' := [(a0_, .inr (9, [.ref a1_, .ref a2_, .int 0, .int 0, .int 0, .int 0, .ref a3_, .int 0, .ref a4_])), (a1_, .inl (cI, N, .inl (fun _ => 0)))]) [0, 1] (by decide) rfl
    refine W.widen (k := 0) (n := 0) (by omega) (by omega) ?_
    exact W.iret (v := 0) hx hb hr (fun t ht9 hW => ⟨⟨0, (), rfl, rfl, by rw [ht9]; exact hP9, hD9⟩, hS.F ht9⟩) hS.2.2 dX6_wordAt_23
  · refine lv_aload_n hx hb dX6_wordAt_13 rfl (lv_at hl 1 rfl) ?_
    refine va_get (D := (dC, dI)) (ci := 9) (v := .ref a1_) (C := RX6) (T := TX6) (N := 9) hx hb ht itX6 hown hK hP 0 rfl rfl 0 (by decide) (ht _ tw_134) (fun _ h9 => h9) rfl dX6_wordAt_14 ?_
    refine lv_iload_n hx hb dX6_wordAt_17 rfl (lv_at hl 0 rfl) ?_
    refine va_iald (D := (dC, dI)) hx hb hK hP 1 0 rfl rfl (ush2_in _ h1 (by omega)) dX6_wordAt_18 ?_
    refine tp_i (y := 0) (rfl) ?_
    refine lv_goto (tgt := 23) hx hb dX6_wordAt_19 (by decide) ?_
    have hP9 := hP.sub (ws' := [(a0_, .inr (9, [.ref a1_, .ref a2_, .int 0, .int 0, .int 0, .int 0, .ref a3_, .int 0, .ref a4_])), (a1_, .inl (cI, N, .inl (fun _ => 0)))]) [0, 1] rfl
    have hD9 := hD.sub (ws' := [(a0_, .inr (9, [.ref a1_, .ref a2_, .int 0, .int 0, .int 0, .int 0, .ref a3_, .int 0, .ref a4_])), (a1_, .inl (cI, N, .inl (fun _ => 0)))]) [0, 1] (by decide) rfl
    refine W.widen (k := 0) (n := 0) (by omega) (by omega) ?_
    exact W.iret (v := 0) hx hb hr (fun t ht9 hW => ⟨⟨0, (), rfl, rfl, by rw [ht9]; exact hP9, hD9⟩, hS.F ht9⟩) hS.2.2 dX6_wordAt_23
set_option maxHeartbeats 4000000 in
set_option maxRecDepth 100000 in
/-- X11_word on a new object: it returns or throws -/
theorem c_X11_word (l : Launch) (dC : Nat → ClassId) (dI : Nat → Nat → Nat) (cI cB cZ cJ cR : ClassId) (tb : Nat → Nat) (hst : l.stackTraces = false) (sz : Nat) (h0 : Nat) (pa : Int32) (q1 : Nat) (q9 : Nat) (q18 : Nat) (q27 : Nat) (q42 : Nat) (q2 : Nat) (q45 : Nat) (q50 : Nat) (q5 : Nat) (q47 : Nat) (q48 : Nat) (q49 : Nat) (N : Nat) (hf_N_0 : 256 ≤ N) (hf_N_1 : N ≤ 4096) : vx_Met l yX11_word (Cond.code yX11_word cX11_word 2 (some .int) :: tw_W) ({ frames := 7, cells := 1, slots := 6, locals := 103 }) (pc_ (dC, dI) (tyS cI cB cZ cJ cR) tb [(h0, .inr (14, [.ref q1, .int 0, .ref q9, .ref q18, .ref q27, .ref q42, .int 0, .int (-1), .ref q2, .ref q45, .ref q50, .ref q5])), (q45, .inr (9, [.ref q47, .ref q48, .int 0, .int 0, .int 0, .int 0, .ref q49, .int 0, .ref q2])), (q47, .inl (cI, N, .inl (fun _ => 0)))] sz [.ref h0, .int pa]) (qi_ (dC, dI) [(h0, .inr (14, [.ref q1, .int 0, .ref q9, .ref q18, .ref q27, .ref q42, .int 0, .int (-1), .ref q2, .ref q45, .ref q50, .ref q5])), (q45, .inr (9, [.ref q47, .ref q48, .int 0, .int 0, .int 0, .int 0, .ref q49, .int 0, .ref q2])), (q47, .inl (cI, N, .inl (fun _ => 0)))] sz (fun (r : Int32) (u : Unit) => ((pa &&& 3) = 0 ∧ ¬ (if ¬ (pa &&& 3) = 0 then 0 else (if (nI N) ≤ ((pa.toUInt32 >>> ((2 : Int32).toUInt32 &&& Int32.toUInt32 31)).toInt32) then 0 else 1)) = 0 ∧ r = 0)) (fun (u : Unit) => [])) (qx_ [(h0, .inr (14, [.ref q1, .int 0, .ref q9, .ref q18, .ref q27, .ref q42, .int 0, .int (-1), .ref q2, .ref q45, .ref q50, .ref q5])), (q45, .inr (9, [.ref q47, .ref q48, .int 0, .int 0, .int 0, .int 0, .ref q49, .int 0, .ref q2])), (q47, .inl (cI, N, .inl (fun _ => 0)))] sz (fun E => ((pa &&& 3) = 0 ∧ ¬ (¬ (if ¬ (pa &&& 3) = 0 then 0 else (if (nI N) ≤ ((pa.toUInt32 >>> ((2 : Int32).toUInt32 &&& Int32.toUInt32 31)).toInt32) then 0 else 1)) = 0) ∧ E = "java/lang/IndexOutOfBoundsException") ∨ (¬ ((pa &&& 3) = 0) ∧ E = "java/lang/IllegalArgumentException"))) 1 6 (va_A [(h0, .inr (14, [.ref q1, .int 0, .ref q9, .ref q18, .ref q27, .ref q42, .int 0, .int (-1), .ref q2, .ref q45, .ref q50, .ref q5])), (q45, .inr (9, [.ref q47, .ref q48, .int 0, .int 0, .int 0, .int 0, .ref q49, .int 0, .ref q2])), (q47, .inl (cI, N, .inl (fun _ => 0)))] sz) := by
  refine vx_ofW (cc := cX11_word) (maxL := 2) (ret := (some .int)) (by decide) rfl ?_
  intro p e s m args below meth c s₁ B hml hnt hv
  obtain ⟨rfl, hsz, hP, hKK, hD0, hFx⟩ := hv
  have hK := hKK.1
  have hx := B.exec
  have hb := B.bytes
  have hr := B.returns
  have ht : ∀ w ∈ tw_W, w.before _ s = true := fun w h => atoms_spec (ws := Cond.code yX11_word cX11_word 2 (some .int) :: tw_W) B.pre w (List.mem_cons_of_mem _ h)
  have hown : s.vm.findClass RX11 = some m.cls := findClass_of_methodNamed B.named
  have hlocks := B.notSynchronized
  subst hsz
  unfold qi_ qx_
  have hD := hD0.self (sz := s.heap.size)
  generalize hAe : va_A [(h0, .inr (14, [.ref q1, .int 0, .ref q9, .ref q18, .ref q27, .ref q42, .int 0, .int (-1), .ref q2, .ref q45, .ref q50, .ref q5])), (q45, .inr (9, [.ref q47, .ref q48, .int 0, .int 0, .int 0, .int 0, .ref q49, .int 0, .ref q2])), (q47, .inl (cI, N, .inl (fun _ => 0)))] s.heap.size = A at hD hFx ⊢
  have hA : ∀ q : Nat, s.heap.size ≤ q → A q := fun q h => by rw [← hAe]; exact Or.inr h
  have hS : va_S A s.heap s.heap [] := va_S.rf
  have hP : va_P (dC, dI) vwCl [(h0, .inr (14, [.ref q1, .int 0, .ref q9, .ref q18, .ref q27, .ref q42, .int 0, .int (-1), .ref q2, .ref q45, .ref q50, .ref q5])), (q45, .inr (9, [.ref q47, .ref q48, .int 0, .int 0, .int 0, .int 0, .ref q49, .int 0, .ref q2])), (q47, .inl (cI, N, .inl (fun _ => 0)))] s.heap := hP
  have hl := lv_entry ([.ref h0, .int pa]) (n := 2) (Nat.le_of_ble_eq_true rfl)
  rw [lg_entry_eq]
  generalize (lg_sl ([.ref h0, .int pa]) ++ List.replicate (2 - (lg_sl ([.ref h0, .int pa])).length) Slot.unset).toArray = ls at hl ⊢
  have hl : lv_has ls 2 [(0, .ref h0), (1, .int pa)] := hl
  refine lv_aload_n hx hb dX11_word_0 rfl (lv_at hl 0 rfl) ?_
  refine lv_iload_n hx hb dX11_word_1 rfl (lv_at hl 1 rfl) ?_
  refine ca_xv (wr := []) (rx_V (n := 1) (As := [.int pa]) (rest := []) hx hb hml hown ht hKK hFx hP hD hS hA (c_X11_checkAddress l dC dI cI cB cZ cJ cR tb hst s.heap.size h0 pa q1 q9 q18 q27 q42 q2 q45 q50 q5 q47 q48 q49 N (by omega) (by omega)) tw_284 tw_285 (by decide +kernel) rfl rfl ⟨Nat.le_of_ble_eq_true rfl, Nat.le_of_ble_eq_true rfl⟩ [0, 1, 2] rfl (by decide) rfl rfl rfl rfl hl.1 rfl (Nat.le_of_ble_eq_true rfl) dX11_word_2 ⟨Nat.le_of_ble_eq_true rfl, Nat.le_of_ble_eq_true rfl⟩) hP hD hS hA (isC := [0, 1, 2]) (isR := []) rfl rfl (by decide) (by decide) (fun E9 ce9 q9 H locs hx9 hP hD hS hc9 hv9 hf9 => ?_) (fun u H locs hw9 hP hD hS => ?_)
  · rcases hx9 with ⟨h3, h4, rfl⟩ | ⟨h5, rfl⟩
    · refine vx_out (fun x h9 => (hnt x h9).elim) hlocks hc9 hv9 hf9 (fun t9 ht9 hv8 => ⟨(), trivial, (Or.inl ⟨h3, h4, rfl⟩), hS.F ht9⟩) hS.2.2 (by omega) (by omega)
    · refine vx_out (fun x h9 => (hnt x h9).elim) hlocks hc9 hv9 hf9 (fun t9 ht9 hv8 => ⟨(), trivial, (Or.inr (⟨h5, rfl⟩)), hS.F ht9⟩) hS.2.2 (by omega) (by omega)
  · rcases hw9 with ⟨h6, h7, _⟩
    · have hP : va_P (dC, dI) vwCl [(h0, .inr (14, [.ref q1, .int 0, .ref q9, .ref q18, .ref q27, .ref q42, .int 0, .int (-1), .ref q2, .ref q45, .ref q50, .ref q5])), (q45, .inr (9, [.ref q47, .ref q48, .int 0, .int 0, .int 0, .int 0, .ref q49, .int 0, .ref q2])), (q47, .inl (cI, N, .inl (fun _ => 0)))] H := hP
      have hD : va_D A [(h0, .inr (14, [.ref q1, .int 0, .ref q9, .ref q18, .ref q27, .ref q42, .int 0, .int (-1), .ref q2, .ref q45, .ref q50, .ref q5])), (q45, .inr (9, [.ref q47, .ref q48, .int 0, .int 0, .int 0, .int 0, .ref q49, .int 0, .ref q2])), (q47, .inl (cI, N, .inl (fun _ => 0)))] := hD
      refine W.widen (k := 1) (n := 6) (by omega) (by omega) ?_
      refine lv_aload_n hx hb dX11_word_5 rfl (lv_at hl 0 rfl) ?_
      refine va_get (D := (dC, dI)) (ci := 14) (v := .ref q45) (C := RX11) (T := TX11) (N := 12) hx hb ht itX11 hown hK hP 0 rfl rfl 9 (by decide) (ht _ tw_140) (fun _ h9 => h9) rfl dX11_word_6 ?_
      refine lv_iload_n hx hb dX11_word_9 rfl (lv_at hl 1 rfl) ?_
      refine ca_i (wr := [(h0, .inr (14, [.ref q1, .int 0, .ref q9, .ref q18, .ref q27, .ref q42, .int 0, .int (-1), .ref q2, .ref q45, .ref q50, .ref q5]))]) (rn_V (n := 1) (As := [.int pa]) (rest := []) hx hb hml hown ht hKK hFx hP hD hS hA (c_X6_wordAt_2 l dC dI cI cB cZ cJ cR tb H.size q45 pa q47 q48 q49 q2 N (by omega) (by omega)) tw_231 tw_286 (by decide +kernel) rfl rfl ⟨Nat.le_of_ble_eq_true rfl, Nat.le_of_ble_eq_true rfl⟩ [1, 2] rfl (by decide) rfl rfl rfl rfl hl.1 rfl (Nat.le_of_ble_eq_true rfl) dX11_word_10 ⟨Nat.le_of_ble_eq_true rfl, Nat.le_of_ble_eq_true rfl⟩) hP hD hS hA (isC := [1, 2]) (isR := [0]) rfl rfl (by decide) (by decide) (fun r9 u H locs hw8 hP hD hS => ?_)
      subst hw8
      have hP : va_P (dC, dI) vwCl [(h0, .inr (14, [.ref q1, .int 0, .ref q9, .ref q18, .ref q27, .ref q42, .int 0, .int (-1), .ref q2, .ref q45, .ref q50, .ref q5])), (q45, .inr (9, [.ref q47, .ref q48, .int 0, .int 0, .int 0, .int 0, .ref q49, .int 0, .ref q2])), (q47, .inl (cI, N, .inl (fun _ => 0)))] H := hP
      have hD : va_D A [(h0, .inr (14, [.ref q1, .int 0, .ref q9, .ref q18, .ref q27, .ref q42, .int 0, .int (-1), .ref q2, .ref q45, .ref q50, .ref q5])), (q45, .inr (9, [.ref q47, .ref q48, .int 0, .int 0, .int 0, .int 0, .ref q49, .int 0, .ref q2])), (q47, .inl (cI, N, .inl (fun _ => 0)))] := hD
      refine W.widen (k := 1) (n := 6) (by omega) (by omega) ?_
      have hP9 := hP.sub (ws' := []) [] rfl
      have hD9 := hD.sub (ws' := []) [] (by decide) rfl
      refine W.widen (k := 1) (n := 6) (by omega) (by omega) ?_
      refine vx_ret ?_
      exact W.iret (v := 0) hx hb hr (fun t ht9 hW => ⟨⟨0, (), rfl, (⟨h6, h7, rfl⟩), by rw [ht9]; exact hP9, hD9⟩, hS.F ht9⟩) hS.2.2 dX11_word_13
set_option maxHeartbeats 4000000 in
set_option maxRecDepth 100000 in
theorem c_X6_layWord (l : Launch) (dC : Nat → ClassId) (dI : Nat → Nat → Nat) (cI cB cZ cJ cR : ClassId) (tb : Nat → Nat) (sz : Nat) (a0_ : Nat) (x0_ : Int32) (x1_ : Int32) (a1_ : Nat) (a2_ : Nat) (a3_ : Nat) (a4_ : Nat) (N : Nat) (hf_N_0 : 256 ≤ N) (hf_N_1 : N ≤ 4096) : Met l yX6_layWord (Cond.code yX6_layWord cX6_layWord 4 none :: tw_W) ({ frames := 0, cells := 0, slots := 0, locals := 0 }) (pc_ (dC, dI) (tyS cI cB cZ cJ cR) tb [(a0_, .inr (9, [.ref a1_, .ref a2_, .int 0, .int 0, .int 0, .int 0, .ref a3_, .int 0, .ref a4_])), (a1_, .inl (cI, N, .inl (fun _ => 0)))] sz [.ref a0_, .int x0_, .int x1_]) (qv_ (dC, dI) [(a0_, .inr (9, [.ref a1_, .ref a2_, .int 0, .int 0, .int 0, .int 0, .ref a3_, .int 0, .ref a4_])), (a1_, .inl (cI, N, .inl (fun _ => 0)))] sz (fun (u : Unit) => True) (fun (u : Unit) => [(a0_, .inr (9, [.ref a1_, .ref a2_, .int 0, .int 0, .int 0, .int 0, .ref a3_, .int 0, .ref a4_]))])) 0 0 (va_A [(a0_, .inr (9, [.ref a1_, .ref a2_, .int 0, .int 0, .int 0, .int 0, .ref a3_, .int 0, .ref a4_])), (a1_, .inl (cI, N, .inl (fun _ => 0)))] sz) := by
  refine Met.ofW (cc := cX6_layWord) (maxL := 4) (ret := none) (by decide) rfl ?_
  intro p e s m args below meth c s₁ B hml hv
  obtain ⟨rfl, hsz, hP, hKK, hD0, hFx⟩ := hv
  have hK := hKK.1
  have hx := B.exec
  have hb := B.bytes
  have hr := B.returns
  have ht : ∀ w ∈ tw_W, w.before _ s = true := fun w h => atoms_spec (ws := Cond.code yX6_layWord cX6_layWord 4 none :: tw_W) B.pre w (List.mem_cons_of_mem _ h)
  have hown : s.vm.findClass RX6 = some m.cls := findClass_of_methodNamed B.named
  have hlocks := B.notSynchronized
  subst hsz
  unfold qv_
  have hD := hD0.self (sz := s.heap.size)
  generalize hAe : va_A [(a0_, .inr (9, [.ref a1_, .ref a2_, .int 0, .int 0, .int 0, .int 0, .ref a3_, .int 0, .ref a4_])), (a1_, .inl (cI, N, .inl (fun _ => 0)))] s.heap.size = A at hD hFx ⊢
  have hA : ∀ q : Nat, s.heap.size ≤ q → A q := fun q h => by rw [← hAe]; exact Or.inr h
  have hS : va_S A s.heap s.heap [] := va_S.rf
  have hP : va_P (dC, dI) vwCl [(a0_, .inr (9, [.ref a1_, .ref a2_, .int 0, .int 0, .int 0, .int 0, .ref a3_, .int 0, .ref a4_])), (a1_, .inl (cI, N, .inl (fun _ => 0)))] s.heap := hP
  have hl := lv_entry ([.ref a0_, .int x0_, .int x1_]) (n := 4) (Nat.le_of_ble_eq_true rfl)
  rw [lg_entry_eq]
  generalize (lg_sl ([.ref a0_, .int x0_, .int x1_]) ++ List.replicate (4 - (lg_sl ([.ref a0_, .int x0_, .int x1_])).length) Slot.unset).toArray = ls at hl ⊢
  have hl : lv_has ls 4 [(0, .ref a0_), (1, .int x0_), (2, .int x1_)] := hl
  refine lv_iload_n hx hb dX6_layWord_0 rfl (lv_at hl 1 rfl) ?_
  refine lv_iconst (v := 2) hx hb dX6_layWord_1 (by decide) ?_
  refine lv_iushr hx hb dX6_layWord_2 rfl ?_
  refine lv_istore_n (lv' := [(3, .int ((x0_.toUInt32 >>> ((2 : Int32).toUInt32 &&& Int32.toUInt32 31)).toInt32)), (0, .ref a0_), (1, .int x0_), (2, .int x1_)]) hx hb dX6_layWord_3 rfl hl (by decide) rfl (fun ls hl => ?_)
  refine lv_iload_n hx hb dX6_layWord_4 rfl (lv_at hl 0 rfl) ?_
  refine lv_aload_n hx hb dX6_layWord_5 rfl (lv_at hl 1 rfl) ?_
  refine va_get (D := (dC, dI)) (ci := 9) (v := .ref a1_) (C := RX6) (T := TX6) (N := 9) hx hb ht itX6 hown hK hP 0 rfl rfl 0 (by decide) (ht _ tw_134) (fun _ h9 => h9) rfl dX6_layWord_6 ?_
  refine va_alen (D := (dC, dI)) (v := (nI N)) hx hb hK hP 1 0 rfl rfl rfl dX6_layWord_9 ?_
  refine lv_icmp_ge (tgt := 20) hx hb dX6_layWord_10 (by decide) (fun h1 => ?_) (fun h1 => ?_)
  · have hP9 := hP.sub (ws' := [(a0_, .inr (9, [.ref a1_, .ref a2_, .int 0, .int 0, .int 0, .int 0, .ref a3_, .int 0, .ref a4_]))]) [0] rfl
    have hD9 := hD.sub (ws' := [(a0_, .inr (9, [.ref a1_, .ref a2_, .int 0, .int 0, .int 0, .int 0, .ref a3_, .int 0, .ref a4_]))]) [0] (by decide) rfl
    refine W.widen (k := 0) (n := 0) (by omega) (by omega) ?_
    exact W.vret hx hb hr (fun t ht9 hW => ⟨⟨(), rfl, trivial, by rw [ht9]; exact hP9, hD9⟩, hS.F ht9⟩) hS.2.2 dX6_layWord_20
  · refine lv_aload_n hx hb dX6_layWord_13 rfl (lv_at hl 1 rfl) ?_
    refine va_get (D := (dC, dI)) (ci := 9) (v := .ref a1_) (C := RX6) (T := TX6) (N := 9) hx hb ht itX6 hown hK hP 0 rfl rfl 0 (by decide) (ht _ tw_134) (fun _ h9 => h9) rfl dX6_layWord_14 ?_
    refine lv_iload_n hx hb dX6_layWord_17 rfl (lv_at hl 0 rfl) ?_
    refine lv_iload_n hx hb dX6_layWord_18 rfl (lv_at hl 3 rfl) ?_
    refine va_iast (D := (dC, dI)) hx hb hK hP hD hS 1 0 rfl rfl (ush2_in _ h1 (by omega)) dX6_layWord_19 (fun H locs hP hD hS => ?_)
    have hP : va_P (dC, dI) vwCl [(a0_, .inr (9, [.ref a1_, .ref a2_, .int 0, .int 0, .int 0, .int 0, .ref a3_, .int 0, .ref a4_])), (a1_, .inl (cI, N, .inl (upd (fun _ => 0) ((x0_.toUInt32 >>> ((2 : Int32).toUInt32 &&& Int32.toUInt32 31)).toInt32).toNatClampNeg x1_)))] H := hP
    have hD : va_D A [(a0_, .inr (9, [.ref a1_, .ref a2_, .int 0, .int 0, .int 0, .int 0, .ref a3_, .int 0, .ref a4_])), (a1_, .inl (cI, N, .inl (upd (fun _ => 0) ((x0_.toUInt32 >>> ((2 : Int32).toUInt32 &&& Int32.toUInt32 31)).toInt32).toNatClampNeg x1_)))] := hD
    have hP9 := hP.sub (ws' := [(a0_, .inr (9, [.ref a1_, .ref a2_, .int 0, .int 0, .int 0, .int 0, .ref a3_, .int 0, .ref a4_]))]) [0] rfl
    have hD9 := hD.sub (ws' := [(a0_, .inr (9, [.ref a1_, .ref a2_, .int 0, .int 0, .int 0, .int 0, .ref a3_, .int 0, .ref a4_]))]) [0] (by decide) rfl
    refine W.widen (k := 0) (n := 0) (by omega) (by omega) ?_
    exact W.vret hx hb hr (fun t ht9 hW => ⟨⟨(), rfl, trivial, by rw [ht9]; exact hP9, hD9⟩, hS.F ht9⟩) hS.2.2 dX6_layWord_20
set_option maxHeartbeats 4000000 in
set_option maxRecDepth 100000 in
/-- X11_poke on a new object: it returns or throws -/
theorem c_X11_poke (l : Launch) (dC : Nat → ClassId) (dI : Nat → Nat → Nat) (cI cB cZ cJ cR : ClassId) (tb : Nat → Nat) (hst : l.stackTraces = false) (sz : Nat) (h0 : Nat) (pa : Int32) (pb : Int32) (q1 : Nat) (q9 : Nat) (q18 : Nat) (q27 : Nat) (q42 : Nat) (q2 : Nat) (q45 : Nat) (q50 : Nat) (q5 : Nat) (q47 : Nat) (q48 : Nat) (q49 : Nat) (N : Nat) (hf_N_0 : 256 ≤ N) (hf_N_1 : N ≤ 4096) : vx_Met l yX11_poke (Cond.code yX11_poke cX11_poke 3 none :: tw_W) ({ frames := 7, cells := 1, slots := 6, locals := 103 }) (pc_ (dC, dI) (tyS cI cB cZ cJ cR) tb [(h0, .inr (14, [.ref q1, .int 0, .ref q9, .ref q18, .ref q27, .ref q42, .int 0, .int (-1), .ref q2, .ref q45, .ref q50, .ref q5])), (q45, .inr (9, [.ref q47, .ref q48, .int 0, .int 0, .int 0, .int 0, .ref q49, .int 0, .ref q2])), (q47, .inl (cI, N, .inl (fun _ => 0)))] sz [.ref h0, .int pa, .int pb]) (qv_ (dC, dI) [(h0, .inr (14, [.ref q1, .int 0, .ref q9, .ref q18, .ref q27, .ref q42, .int 0, .int (-1), .ref q2, .ref q45, .ref q50, .ref q5])), (q45, .inr (9, [.ref q47, .ref q48, .int 0, .int 0, .int 0, .int 0, .ref q49, .int 0, .ref q2])), (q47, .inl (cI, N, .inl (fun _ => 0)))] sz (fun (u : Unit) => ((pa &&& 3) = 0 ∧ ¬ (if ¬ (pa &&& 3) = 0 then 0 else (if (nI N) ≤ ((pa.toUInt32 >>> ((2 : Int32).toUInt32 &&& Int32.toUInt32 31)).toInt32) then 0 else 1)) = 0 ∧ True)) (fun (u : Unit) => [])) (qx_ [(h0, .inr (14, [.ref q1, .int 0, .ref q9, .ref q18, .ref q27, .ref q42, .int 0, .int (-1), .ref q2, .ref q45, .ref q50, .ref q5])), (q45, .inr (9, [.ref q47, .ref q48, .int 0, .int 0, .int 0, .int 0, .ref q49, .int 0, .ref q2])), (q47, .inl (cI, N, .inl (fun _ => 0)))] sz (fun E => ((pa &&& 3) = 0 ∧ ¬ (¬ (if ¬ (pa &&& 3) = 0 then 0 else (if (nI N) ≤ ((pa.toUInt32 >>> ((2 : Int32).toUInt32 &&& Int32.toUInt32 31)).toInt32) then 0 else 1)) = 0) ∧ E = "java/lang/IndexOutOfBoundsException") ∨ (¬ ((pa &&& 3) = 0) ∧ E = "java/lang/IllegalArgumentException"))) 1 6 (va_A [(h0, .inr (14, [.ref q1, .int 0, .ref q9, .ref q18, .ref q27, .ref q42, .int 0, .int (-1), .ref q2, .ref q45, .ref q50, .ref q5])), (q45, .inr (9, [.ref q47, .ref q48, .int 0, .int 0, .int 0, .int 0, .ref q49, .int 0, .ref q2])), (q47, .inl (cI, N, .inl (fun _ => 0)))] sz) := by
  refine vx_ofW (cc := cX11_poke) (maxL := 3) (ret := none) (by decide) rfl ?_
  intro p e s m args below meth c s₁ B hml hnt hv
  obtain ⟨rfl, hsz, hP, hKK, hD0, hFx⟩ := hv
  have hK := hKK.1
  have hx := B.exec
  have hb := B.bytes
  have hr := B.returns
  have ht : ∀ w ∈ tw_W, w.before _ s = true := fun w h => atoms_spec (ws := Cond.code yX11_poke cX11_poke 3 none :: tw_W) B.pre w (List.mem_cons_of_mem _ h)
  have hown : s.vm.findClass RX11 = some m.cls := findClass_of_methodNamed B.named
  have hlocks := B.notSynchronized
  subst hsz
  unfold qv_ qx_
  have hD := hD0.self (sz := s.heap.size)
  generalize hAe : va_A [(h0, .inr (14, [.ref q1, .int 0, .ref q9, .ref q18, .ref q27, .ref q42, .int 0, .int (-1), .ref q2, .ref q45, .ref q50, .ref q5])), (q45, .inr (9, [.ref q47, .ref q48, .int 0, .int 0, .int 0, .int 0, .ref q49, .int 0, .ref q2])), (q47, .inl (cI, N, .inl (fun _ => 0)))] s.heap.size = A at hD hFx ⊢
  have hA : ∀ q : Nat, s.heap.size ≤ q → A q := fun q h => by rw [← hAe]; exact Or.inr h
  have hS : va_S A s.heap s.heap [] := va_S.rf
  have hP : va_P (dC, dI) vwCl [(h0, .inr (14, [.ref q1, .int 0, .ref q9, .ref q18, .ref q27, .ref q42, .int 0, .int (-1), .ref q2, .ref q45, .ref q50, .ref q5])), (q45, .inr (9, [.ref q47, .ref q48, .int 0, .int 0, .int 0, .int 0, .ref q49, .int 0, .ref q2])), (q47, .inl (cI, N, .inl (fun _ => 0)))] s.heap := hP
  have hl := lv_entry ([.ref h0, .int pa, .int pb]) (n := 3) (Nat.le_of_ble_eq_true rfl)
  rw [lg_entry_eq]
  generalize (lg_sl ([.ref h0, .int pa, .int pb]) ++ List.replicate (3 - (lg_sl ([.ref h0, .int pa, .int pb])).length) Slot.unset).toArray = ls at hl ⊢
  have hl : lv_has ls 3 [(0, .ref h0), (1, .int pa), (2, .int pb)] := hl
  refine lv_aload_n hx hb dX11_poke_0 rfl (lv_at hl 0 rfl) ?_
  refine lv_iload_n hx hb dX11_poke_1 rfl (lv_at hl 1 rfl) ?_
  refine ca_xv (wr := []) (rx_V (n := 1) (As := [.int pa]) (rest := []) hx hb hml hown ht hKK hFx hP hD hS hA (c_X11_checkAddress l dC dI cI cB cZ cJ cR tb hst s.heap.size h0 pa q1 q9 q18 q27 q42 q2 q45 q50 q5 q47 q48 q49 N (by omega) (by omega)) tw_284 tw_285 (by decide +kernel) rfl rfl ⟨Nat.le_of_ble_eq_true rfl, Nat.le_of_ble_eq_true rfl⟩ [0, 1, 2] rfl (by decide) rfl rfl rfl rfl hl.1 rfl (Nat.le_of_ble_eq_true rfl) dX11_poke_2 ⟨Nat.le_of_ble_eq_true rfl, Nat.le_of_ble_eq_true rfl⟩) hP hD hS hA (isC := [0, 1, 2]) (isR := []) rfl rfl (by decide) (by decide) (fun E9 ce9 q9 H locs hx9 hP hD hS hc9 hv9 hf9 => ?_) (fun u H locs hw9 hP hD hS => ?_)
  · rcases hx9 with ⟨h3, h4, rfl⟩ | ⟨h5, rfl⟩
    · refine vx_out (fun x h9 => (hnt x h9).elim) hlocks hc9 hv9 hf9 (fun t9 ht9 hv8 => ⟨(), trivial, (Or.inl ⟨h3, h4, rfl⟩), hS.F ht9⟩) hS.2.2 (by omega) (by omega)
    · refine vx_out (fun x h9 => (hnt x h9).elim) hlocks hc9 hv9 hf9 (fun t9 ht9 hv8 => ⟨(), trivial, (Or.inr (⟨h5, rfl⟩)), hS.F ht9⟩) hS.2.2 (by omega) (by omega)
  · rcases hw9 with ⟨h6, h7, _⟩
    · have hP : va_P (dC, dI) vwCl [(h0, .inr (14, [.ref q1, .int 0, .ref q9, .ref q18, .ref q27, .ref q42, .int 0, .int (-1), .ref q2, .ref q45, .ref q50, .ref q5])), (q45, .inr (9, [.ref q47, .ref q48, .int 0, .int 0, .int 0, .int 0, .ref q49, .int 0, .ref q2])), (q47, .inl (cI, N, .inl (fun _ => 0)))] H := hP
      have hD : va_D A [(h0, .inr (14, [.ref q1, .int 0, .ref q9, .ref q18, .ref q27, .ref q42, .int 0, .int (-1), .ref q2, .ref q45, .ref q50, .ref q5])), (q45, .inr (9, [.ref q47, .ref q48, .int 0, .int 0, .int 0, .int 0, .ref q49, .int 0, .ref q2])), (q47, .inl (cI, N, .inl (fun _ => 0)))] := hD
      refine W.widen (k := 1) (n := 6) (by omega) (by omega) ?_
      refine lv_aload_n hx hb dX11_poke_5 rfl (lv_at hl 0 rfl) ?_
      refine va_get (D := (dC, dI)) (ci := 14) (v := .ref q45) (C := RX11) (T := TX11) (N := 12) hx hb ht itX11 hown hK hP 0 rfl rfl 9 (by decide) (ht _ tw_140) (fun _ h9 => h9) rfl dX11_poke_6 ?_
      refine lv_iload_n hx hb dX11_poke_9 rfl (lv_at hl 1 rfl) ?_
      refine lv_iload_n hx hb dX11_poke_10 rfl (lv_at hl 2 rfl) ?_
      refine ca_v (wr := [(h0, .inr (14, [.ref q1, .int 0, .ref q9, .ref q18, .ref q27, .ref q42, .int 0, .int (-1), .ref q2, .ref q45, .ref q50, .ref q5]))]) (rn_V (n := 2) (As := [.int pa, .int pb]) (rest := []) hx hb hml hown ht hKK hFx hP hD hS hA (c_X6_layWord l dC dI cI cB cZ cJ cR tb H.size q45 pa pb q47 q48 q49 q2 N (by omega) (by omega)) tw_287 tw_288 (by decide +kernel) rfl rfl ⟨Nat.le_of_ble_eq_true rfl, Nat.le_of_ble_eq_true rfl⟩ [1, 2] rfl (by decide) rfl rfl rfl rfl hl.1 rfl (Nat.le_of_ble_eq_true rfl) dX11_poke_11 ⟨Nat.le_of_ble_eq_true rfl, Nat.le_of_ble_eq_true rfl⟩) hP hD hS hA (isC := [1, 2]) (isR := [0]) rfl rfl (by decide) (by decide) (fun u H locs hw8 hP hD hS => ?_)
      have hP : va_P (dC, dI) vwCl [(h0, .inr (14, [.ref q1, .int 0, .ref q9, .ref q18, .ref q27, .ref q42, .int 0, .int (-1), .ref q2, .ref q45, .ref q50, .ref q5])), (q45, .inr (9, [.ref q47, .ref q48, .int 0, .int 0, .int 0, .int 0, .ref q49, .int 0, .ref q2]))] H := hP
      have hD : va_D A [(h0, .inr (14, [.ref q1, .int 0, .ref q9, .ref q18, .ref q27, .ref q42, .int 0, .int (-1), .ref q2, .ref q45, .ref q50, .ref q5])), (q45, .inr (9, [.ref q47, .ref q48, .int 0, .int 0, .int 0, .int 0, .ref q49, .int 0, .ref q2]))] := hD
      refine W.widen (k := 1) (n := 6) (by omega) (by omega) ?_
      have hP9 := hP.sub (ws' := []) [] rfl
      have hD9 := hD.sub (ws' := []) [] (by decide) rfl
      refine W.widen (k := 1) (n := 6) (by omega) (by omega) ?_
      refine vx_ret ?_
      exact W.vret hx hb hr (fun t ht9 hW => ⟨⟨(), rfl, (⟨h6, h7, trivial⟩), by rw [ht9]; exact hP9, hD9⟩, hS.F ht9⟩) hS.2.2 dX11_poke_14
set_option maxHeartbeats 4000000 in
set_option maxRecDepth 100000 in
/-- X11_work on a new object: it returns or throws -/
theorem c_X11_work (l : Launch) (dC : Nat → ClassId) (dI : Nat → Nat → Nat) (cI cB cZ cJ cR : ClassId) (tb : Nat → Nat) (hst : l.stackTraces = false) (sz : Nat) (h0 : Nat) (pa : Int32) (pb : Int32) (pc : Int32) (pd : Int32) (q1 : Nat) (q9 : Nat) (q18 : Nat) (q27 : Nat) (q42 : Nat) (q2 : Nat) (q45 : Nat) (q50 : Nat) (q5 : Nat) (q11 : Nat) (q12 : Nat) (q13 : Nat) (q14 : Nat) (q15 : Nat) (q16 : Nat) (q17 : Nat)  : vx_Met l yX11_work (Cond.code yX11_work cX11_work 6 (some .int) :: tw_W) ({ frames := 6, cells := 1, slots := 6, locals := 82 }) (pc_ (dC, dI) (tyS cI cB cZ cJ cR) tb [(h0, .inr (14, [.ref q1, .int 0, .ref q9, .ref q18, .ref q27, .ref q42, .int 0, .int (-1), .ref q2, .ref q45, .ref q50, .ref q5])), (q9, .inr (10, [.ref q11, .int 0, .ref q12, .int 0, .ref q13, .int 0, .ref q14, .ref q15, .ref q16, .int 0, .ref q17, .int 2, .int 8]))] sz [.ref h0, .int pa, .int pb, .int pc, .int pd]) (qi_ (dC, dI) [(h0, .inr (14, [.ref q1, .int 0, .ref q9, .ref q18, .ref q27, .ref q42, .int 0, .int (-1), .ref q2, .ref q45, .ref q50, .ref q5])), (q9, .inr (10, [.ref q11, .int 0, .ref q12, .int 0, .ref q13, .int 0, .ref q14, .ref q15, .ref q16, .int 0, .ref q17, .int 2, .int 8]))] sz (fun (r : Int32) (u : Unit) => False) (fun (u : Unit) => [])) (qx_ [(h0, .inr (14, [.ref q1, .int 0, .ref q9, .ref q18, .ref q27, .ref q42, .int 0, .int (-1), .ref q2, .ref q45, .ref q50, .ref q5])), (q9, .inr (10, [.ref q11, .int 0, .ref q12, .int 0, .ref q13, .int 0, .ref q14, .ref q15, .ref q16, .int 0, .ref q17, .int 2, .int 8]))] sz (fun E => (E = "java/util/NoSuchElementException"))) 1 6 (va_A [(h0, .inr (14, [.ref q1, .int 0, .ref q9, .ref q18, .ref q27, .ref q42, .int 0, .int (-1), .ref q2, .ref q45, .ref q50, .ref q5])), (q9, .inr (10, [.ref q11, .int 0, .ref q12, .int 0, .ref q13, .int 0, .ref q14, .ref q15, .ref q16, .int 0, .ref q17, .int 2, .int 8]))] sz) := by
  refine vx_ofW (cc := cX11_work) (maxL := 6) (ret := (some .int)) (by decide) rfl ?_
  intro p e s m args below meth c s₁ B hml hnt hv
  obtain ⟨rfl, hsz, hP, hKK, hD0, hFx⟩ := hv
  have hK := hKK.1
  have hx := B.exec
  have hb := B.bytes
  have hr := B.returns
  have ht : ∀ w ∈ tw_W, w.before _ s = true := fun w h => atoms_spec (ws := Cond.code yX11_work cX11_work 6 (some .int) :: tw_W) B.pre w (List.mem_cons_of_mem _ h)
  have hown : s.vm.findClass RX11 = some m.cls := findClass_of_methodNamed B.named
  have hlocks := B.notSynchronized
  subst hsz
  unfold qi_ qx_
  have hD := hD0.self (sz := s.heap.size)
  generalize hAe : va_A [(h0, .inr (14, [.ref q1, .int 0, .ref q9, .ref q18, .ref q27, .ref q42, .int 0, .int (-1), .ref q2, .ref q45, .ref q50, .ref q5])), (q9, .inr (10, [.ref q11, .int 0, .ref q12, .int 0, .ref q13, .int 0, .ref q14, .ref q15, .ref q16, .int 0, .ref q17, .int 2, .int 8]))] s.heap.size = A at hD hFx ⊢
  have hA : ∀ q : Nat, s.heap.size ≤ q → A q := fun q h => by rw [← hAe]; exact Or.inr h
  have hS : va_S A s.heap s.heap [] := va_S.rf
  have hP : va_P (dC, dI) vwCl [(h0, .inr (14, [.ref q1, .int 0, .ref q9, .ref q18, .ref q27, .ref q42, .int 0, .int (-1), .ref q2, .ref q45, .ref q50, .ref q5])), (q9, .inr (10, [.ref q11, .int 0, .ref q12, .int 0, .ref q13, .int 0, .ref q14, .ref q15, .ref q16, .int 0, .ref q17, .int 2, .int 8]))] s.heap := hP
  have hl := lv_entry ([.ref h0, .int pa, .int pb, .int pc, .int pd]) (n := 6) (Nat.le_of_ble_eq_true rfl)
  rw [lg_entry_eq]
  generalize (lg_sl ([.ref h0, .int pa, .int pb, .int pc, .int pd]) ++ List.replicate (6 - (lg_sl ([.ref h0, .int pa, .int pb, .int pc, .int pd])).length) Slot.unset).toArray = ls at hl ⊢
  have hl : lv_has ls 6 [(0, .ref h0), (1, .int pa), (2, .int pb), (3, .int pc), (4, .int pd)] := hl
  refine lv_aload_n hx hb dX11_work_0 rfl (lv_at hl 0 rfl) ?_
  refine va_get (D := (dC, dI)) (ci := 14) (v := .ref q9) (C := RX11) (T := TX11) (N := 12) hx hb ht itX11 hown hK hP 0 rfl rfl 2 (by decide) (ht _ tw_110) (fun _ h9 => h9) rfl dX11_work_1 ?_
  refine lv_iload_n hx hb dX11_work_4 rfl (lv_at hl 1 rfl) ?_
  refine lv_iconst (v := 0) hx hb dX11_work_5 (by decide) ?_
  refine ca_i (wr := [(h0, .inr (14, [.ref q1, .int 0, .ref q9, .ref q18, .ref q27, .ref q42, .int 0, .int (-1), .ref q2, .ref q45, .ref q50, .ref q5]))]) (rn_V (n := 2) (As := [.int pa, .int 0]) (rest := []) hx hb hml hown ht hKK hFx hP hD hS hA (c_X7_functionFact_2 l dC dI cI cB cZ cJ cR tb s.heap.size q9 pa q11 q12 q13 q14 q15 q16 q17) tw_216 tw_217 (by decide +kernel) rfl rfl ⟨Nat.le_of_ble_eq_true rfl, Nat.le_of_ble_eq_true rfl⟩ [1] rfl (by decide) rfl rfl rfl rfl hl.1 rfl (Nat.le_of_ble_eq_true rfl) dX11_work_6 ⟨Nat.le_of_ble_eq_true rfl, Nat.le_of_ble_eq_true rfl⟩) hP hD hS hA (isC := [1]) (isR := [0]) rfl rfl (by decide) (by decide) (fun r2 u H locs hw1 hP hD hS => ?_)
  subst hw1
  have hP : va_P (dC, dI) vwCl [(h0, .inr (14, [.ref q1, .int 0, .ref q9, .ref q18, .ref q27, .ref q42, .int 0, .int (-1), .ref q2, .ref q45, .ref q50, .ref q5])), (q9, .inr (10, [.ref q11, .int 0, .ref q12, .int 0, .ref q13, .int 0, .ref q14, .ref q15, .ref q16, .int 0, .ref q17, .int 2, .int 8]))] H := hP
  have hD : va_D A [(h0, .inr (14, [.ref q1, .int 0, .ref q9, .ref q18, .ref q27, .ref q42, .int 0, .int (-1), .ref q2, .ref q45, .ref q50, .ref q5])), (q9, .inr (10, [.ref q11, .int 0, .ref q12, .int 0, .ref q13, .int 0, .ref q14, .ref q15, .ref q16, .int 0, .ref q17, .int 2, .int 8]))] := hD
  refine W.widen (k := 0) (n := 0) (by omega) (by omega) ?_
  refine lv_istore (lv' := [(5, .int (-1)), (0, .ref h0), (1, .int pa), (2, .int pb), (3, .int pc), (4, .int pd)]) hx hb dX11_work_9 hl (by decide) rfl (fun ls hl => ?_)
  refine lv_iload hx hb dX11_work_11 (lv_at hl 0 rfl) ?_
  refine lv_iconst (v := -1) hx hb dX11_work_13 (by decide) ?_
  refine lv_icmp_ne (tgt := 27) hx hb dX11_work_14 (by decide) (fun k3 => absurd k3 (by decide)) (fun _ => ?_)
  refine vx_throwS (names := ["java/lang/RuntimeException", "java/lang/Exception"]) (A := A) hx hb hst hown (by decide +kernel) (by decide +kernel) (ht _ tw_277) (ht _ tw_278) (hKK.2.2.2.2.1 _ (List.mem_of_getElem? (i := 20) rfl)) (vx_hat (fun w h => ht w (xat_2 w h)) xat_2_n (vx_c (va_Nw.use rfl (hKK.2.2.2.2.2.1 _ (List.mem_of_getElem? (i := 2) rfl))) (vx_c (dcl_0 ht) (vx_c (dcl_1 ht) (vx_c (dcl_2 ht) vx_n))))) xat_2_o hFx.2.2.2.2.1 hFx.2.2.2.2.2.1 hS (by rw [hml]; exact hl.1) dX11_work_17 dX11_work_20 dX11_work_21 dX11_work_23 dX11_work_26 (fun x h9 => (hnt x h9).elim) (Nat.le_of_ble_eq_true rfl) (Nat.le_of_ble_eq_true rfl) (Nat.le_of_ble_eq_true rfl) (Nat.le_of_ble_eq_true rfl) hlocks (fun t9 hv9 hz9 hk9 => ⟨(), trivial, (rfl), ⟨Nat.le_trans hS.1 hz9, fun q h1 h2 => (hk9 q (Nat.lt_of_lt_of_le h1 hS.1)).trans (hS.2.1 q h1 h2)⟩⟩) hS.2.2 (Nat.le_of_ble_eq_true rfl) (Nat.le_of_ble_eq_true rfl)
set_option maxHeartbeats 4000000 in
set_option maxRecDepth 100000 in
/-- X11_worked on a new object: it returns or throws -/
theorem c_X11_worked (l : Launch) (dC : Nat → ClassId) (dI : Nat → Nat → Nat) (cI cB cZ cJ cR : ClassId) (tb : Nat → Nat) (hst : l.stackTraces = false) (sz : Nat) (h0 : Nat) (pa : Int32) (q1 : Nat) (q9 : Nat) (q18 : Nat) (q27 : Nat) (q42 : Nat) (q2 : Nat) (q45 : Nat) (q50 : Nat) (q5 : Nat) (N : Nat) (q52 : Nat) (q53 : Nat) (q54 : Nat) (hf_N_0 : 256 ≤ N) (hf_N_1 : N ≤ 4096) : vx_Met l yX11_worked (Cond.code yX11_worked cX11_worked 2 (some .int) :: tw_W) ({ frames := 6, cells := 1, slots := 6, locals := 82 }) (pc_ (dC, dI) (tyS cI cB cZ cJ cR) tb [(h0, .inr (14, [.ref q1, .int 0, .ref q9, .ref q18, .ref q27, .ref q42, .int 0, .int (-1), .ref q2, .ref q45, .ref q50, .ref q5])), (q50, .inr (13, [.ref q9, .ref q2, .int (4 * (nI N)), .ref q52, .ref q53, .ref q54, .int 0, .int 0, .int 0, .int 0, .int 0, .int 0, .int 0, .int 0, .int 0, .int 0, .int 0]))] sz [.ref h0, .int pa]) (qi_ (dC, dI) [(h0, .inr (14, [.ref q1, .int 0, .ref q9, .ref q18, .ref q27, .ref q42, .int 0, .int (-1), .ref q2, .ref q45, .ref q50, .ref q5])), (q50, .inr (13, [.ref q9, .ref q2, .int (4 * (nI N)), .ref q52, .ref q53, .ref q54, .int 0, .int 0, .int 0, .int 0, .int 0, .int 0, .int 0, .int 0, .int 0, .int 0, .int 0]))] sz (fun (r : Int32) (u : Unit) => False) (fun (u : Unit) => [])) (qx_ [(h0, .inr (14, [.ref q1, .int 0, .ref q9, .ref q18, .ref q27, .ref q42, .int 0, .int (-1), .ref q2, .ref q45, .ref q50, .ref q5])), (q50, .inr (13, [.ref q9, .ref q2, .int (4 * (nI N)), .ref q52, .ref q53, .ref q54, .int 0, .int 0, .int 0, .int 0, .int 0, .int 0, .int 0, .int 0, .int 0, .int 0, .int 0]))] sz (fun E => (E = "java/util/NoSuchElementException"))) 1 6 (va_A [(h0, .inr (14, [.ref q1, .int 0, .ref q9, .ref q18, .ref q27, .ref q42, .int 0, .int (-1), .ref q2, .ref q45, .ref q50, .ref q5])), (q50, .inr (13, [.ref q9, .ref q2, .int (4 * (nI N)), .ref q52, .ref q53, .ref q54, .int 0, .int 0, .int 0, .int 0, .int 0, .int 0, .int 0, .int 0, .int 0, .int 0, .int 0]))] sz) := by
  refine vx_ofW (cc := cX11_worked) (maxL := 2) (ret := (some .int)) (by decide) rfl ?_
  intro p e s m args below meth c s₁ B hml hnt hv
  obtain ⟨rfl, hsz, hP, hKK, hD0, hFx⟩ := hv
  have hK := hKK.1
  have hx := B.exec
  have hb := B.bytes
  have hr := B.returns
  have ht : ∀ w ∈ tw_W, w.before _ s = true := fun w h => atoms_spec (ws := Cond.code yX11_worked cX11_worked 2 (some .int) :: tw_W) B.pre w (List.mem_cons_of_mem _ h)
  have hown : s.vm.findClass RX11 = some m.cls := findClass_of_methodNamed B.named
  have hlocks := B.notSynchronized
  subst hsz
  unfold qi_ qx_
  have hD := hD0.self (sz := s.heap.size)
  generalize hAe : va_A [(h0, .inr (14, [.ref q1, .int 0, .ref q9, .ref q18, .ref q27, .ref q42, .int 0, .int (-1), .ref q2, .ref q45, .ref q50, .ref q5])), (q50, .inr (13, [.ref q9, .ref q2, .int (4 * (nI N)), .ref q52, .ref q53, .ref q54, .int 0, .int 0, .int 0, .int 0, .int 0, .int 0, .int 0, .int 0, .int 0, .int 0, .int 0]))] s.heap.size = A at hD hFx ⊢
  have hA : ∀ q : Nat, s.heap.size ≤ q → A q := fun q h => by rw [← hAe]; exact Or.inr h
  have hS : va_S A s.heap s.heap [] := va_S.rf
  have hP : va_P (dC, dI) vwCl [(h0, .inr (14, [.ref q1, .int 0, .ref q9, .ref q18, .ref q27, .ref q42, .int 0, .int (-1), .ref q2, .ref q45, .ref q50, .ref q5])), (q50, .inr (13, [.ref q9, .ref q2, .int (4 * (nI N)), .ref q52, .ref q53, .ref q54, .int 0, .int 0, .int 0, .int 0, .int 0, .int 0, .int 0, .int 0, .int 0, .int 0, .int 0]))] s.heap := hP
  have hl := lv_entry ([.ref h0, .int pa]) (n := 2) (Nat.le_of_ble_eq_true rfl)
  rw [lg_entry_eq]
  generalize (lg_sl ([.ref h0, .int pa]) ++ List.replicate (2 - (lg_sl ([.ref h0, .int pa])).length) Slot.unset).toArray = ls at hl ⊢
  have hl : lv_has ls 2 [(0, .ref h0), (1, .int pa)] := hl
  refine lv_aload_n hx hb dX11_worked_0 rfl (lv_at hl 0 rfl) ?_
  refine va_get (D := (dC, dI)) (ci := 14) (v := .ref q50) (C := RX11) (T := TX11) (N := 12) hx hb ht itX11 hown hK hP 0 rfl rfl 10 (by decide) (ht _ tw_148) (fun _ h9 => h9) rfl dX11_worked_1 ?_
  refine va_getN (D := (dC, dI)) (ci := 13) (v := .int 0) (C := RX10) (T := TX10) (N := 17) hx hb ht itX10 hown hK hP 1 rfl rfl 6 (by decide) (hKK.fld 15 rfl) (fun _ h9 => h9) rfl dX11_worked_4 ?_
  refine lv_if_eq (tgt := 32) hx hb dX11_worked_7 (by decide) (fun _ => ?_) (fun k1 => absurd k1 (by decide))
  refine vx_throwS (names := ["java/lang/RuntimeException", "java/lang/Exception"]) (A := A) hx hb hst hown (by decide +kernel) (by decide +kernel) (ht _ tw_277) (ht _ tw_278) (hKK.2.2.2.2.1 _ (List.mem_of_getElem? (i := 19) rfl)) (vx_hat (fun w h => ht w (xat_2 w h)) xat_2_n (vx_c (va_Nw.use rfl (hKK.2.2.2.2.2.1 _ (List.mem_of_getElem? (i := 2) rfl))) (vx_c (dcl_0 ht) (vx_c (dcl_1 ht) (vx_c (dcl_2 ht) vx_n))))) xat_2_o hFx.2.2.2.2.1 hFx.2.2.2.2.2.1 hS (by rw [hml]; exact hl.1) dX11_worked_32 dX11_worked_35 dX11_worked_36 dX11_worked_38 dX11_worked_41 (fun x h9 => (hnt x h9).elim) (Nat.le_of_ble_eq_true rfl) (Nat.le_of_ble_eq_true rfl) (Nat.le_of_ble_eq_true rfl) (Nat.le_of_ble_eq_true rfl) hlocks (fun t9 hv9 hz9 hk9 => ⟨(), trivial, (rfl), ⟨Nat.le_trans hS.1 hz9, fun q h1 h2 => (hk9 q (Nat.lt_of_lt_of_le h1 hS.1)).trans (hS.2.1 q h1 h2)⟩⟩) hS.2.2 (Nat.le_of_ble_eq_true rfl) (Nat.le_of_ble_eq_true rfl)
set_option maxHeartbeats 4000000 in
set_option maxRecDepth 100000 in
/-- X11_left on a new object: it returns or throws -/
theorem c_X11_left (l : Launch) (dC : Nat → ClassId) (dI : Nat → Nat → Nat) (cI cB cZ cJ cR : ClassId) (tb : Nat → Nat) (hst : l.stackTraces = false) (sz : Nat) (h0 : Nat) (pa : Int32) (pb : Int32) (q1 : Nat) (q9 : Nat) (q18 : Nat) (q27 : Nat) (q42 : Nat) (q2 : Nat) (q45 : Nat) (q50 : Nat) (q5 : Nat) (N : Nat) (q52 : Nat) (q53 : Nat) (q54 : Nat) (hf_N_0 : 256 ≤ N) (hf_N_1 : N ≤ 4096) : vx_Met l yX11_left (Cond.code yX11_left cX11_left 3 (some .int) :: tw_W) ({ frames := 6, cells := 1, slots := 6, locals := 82 }) (pc_ (dC, dI) (tyS cI cB cZ cJ cR) tb [(h0, .inr (14, [.ref q1, .int 0, .ref q9, .ref q18, .ref q27, .ref q42, .int 0, .int (-1), .ref q2, .ref q45, .ref q50, .ref q5])), (q50, .inr (13, [.ref q9, .ref q2, .int (4 * (nI N)), .ref q52, .ref q53, .ref q54, .int 0, .int 0, .int 0, .int 0, .int 0, .int 0, .int 0, .int 0, .int 0, .int 0, .int 0]))] sz [.ref h0, .int pa, .int pb]) (qi_ (dC, dI) [(h0, .inr (14, [.ref q1, .int 0, .ref q9, .ref q18, .ref q27, .ref q42, .int 0, .int (-1), .ref q2, .ref q45, .ref q50, .ref q5])), (q50, .inr (13, [.ref q9, .ref q2, .int (4 * (nI N)), .ref q52, .ref q53, .ref q54, .int 0, .int 0, .int 0, .int 0, .int 0, .int 0, .int 0, .int 0, .int 0, .int 0, .int 0]))] sz (fun (r : Int32) (u : Unit) => False) (fun (u : Unit) => [])) (qx_ [(h0, .inr (14, [.ref q1, .int 0, .ref q9, .ref q18, .ref q27, .ref q42, .int 0, .int (-1), .ref q2, .ref q45, .ref q50, .ref q5])), (q50, .inr (13, [.ref q9, .ref q2, .int (4 * (nI N)), .ref q52, .ref q53, .ref q54, .int 0, .int 0, .int 0, .int 0, .int 0, .int 0, .int 0, .int 0, .int 0, .int 0, .int 0]))] sz (fun E => (E = "java/util/NoSuchElementException"))) 1 6 (va_A [(h0, .inr (14, [.ref q1, .int 0, .ref q9, .ref q18, .ref q27, .ref q42, .int 0, .int (-1), .ref q2, .ref q45, .ref q50, .ref q5])), (q50, .inr (13, [.ref q9, .ref q2, .int (4 * (nI N)), .ref q52, .ref q53, .ref q54, .int 0, .int 0, .int 0, .int 0, .int 0, .int 0, .int 0, .int 0, .int 0, .int 0, .int 0]))] sz) := by
  refine vx_ofW (cc := cX11_left) (maxL := 3) (ret := (some .int)) (by decide) rfl ?_
  intro p e s m args below meth c s₁ B hml hnt hv
  obtain ⟨rfl, hsz, hP, hKK, hD0, hFx⟩ := hv
  have hK := hKK.1
  have hx := B.exec
  have hb := B.bytes
  have hr := B.returns
  have ht : ∀ w ∈ tw_W, w.before _ s = true := fun w h => atoms_spec (ws := Cond.code yX11_left cX11_left 3 (some .int) :: tw_W) B.pre w (List.mem_cons_of_mem _ h)
  have hown : s.vm.findClass RX11 = some m.cls := findClass_of_methodNamed B.named
  have hlocks := B.notSynchronized
  subst hsz
  unfold qi_ qx_
  have hD := hD0.self (sz := s.heap.size)
  generalize hAe : va_A [(h0, .inr (14, [.ref q1, .int 0, .ref q9, .ref q18, .ref q27, .ref q42, .int 0, .int (-1), .ref q2, .ref q45, .ref q50, .ref q5])), (q50, .inr (13, [.ref q9, .ref q2, .int (4 * (nI N)), .ref q52, .ref q53, .ref q54, .int 0, .int 0, .int 0, .int 0, .int 0, .int 0, .int 0, .int 0, .int 0, .int 0, .int 0]))] s.heap.size = A at hD hFx ⊢
  have hA : ∀ q : Nat, s.heap.size ≤ q → A q := fun q h => by rw [← hAe]; exact Or.inr h
  have hS : va_S A s.heap s.heap [] := va_S.rf
  have hP : va_P (dC, dI) vwCl [(h0, .inr (14, [.ref q1, .int 0, .ref q9, .ref q18, .ref q27, .ref q42, .int 0, .int (-1), .ref q2, .ref q45, .ref q50, .ref q5])), (q50, .inr (13, [.ref q9, .ref q2, .int (4 * (nI N)), .ref q52, .ref q53, .ref q54, .int 0, .int 0, .int 0, .int 0, .int 0, .int 0, .int 0, .int 0, .int 0, .int 0, .int 0]))] s.heap := hP
  have hl := lv_entry ([.ref h0, .int pa, .int pb]) (n := 3) (Nat.le_of_ble_eq_true rfl)
  rw [lg_entry_eq]
  generalize (lg_sl ([.ref h0, .int pa, .int pb]) ++ List.replicate (3 - (lg_sl ([.ref h0, .int pa, .int pb])).length) Slot.unset).toArray = ls at hl ⊢
  have hl : lv_has ls 3 [(0, .ref h0), (1, .int pa), (2, .int pb)] := hl
  refine lv_aload_n hx hb dX11_left_0 rfl (lv_at hl 0 rfl) ?_
  refine va_get (D := (dC, dI)) (ci := 14) (v := .ref q50) (C := RX11) (T := TX11) (N := 12) hx hb ht itX11 hown hK hP 0 rfl rfl 10 (by decide) (ht _ tw_148) (fun _ h9 => h9) rfl dX11_left_1 ?_
  refine va_getN (D := (dC, dI)) (ci := 13) (v := .int 0) (C := RX10) (T := TX10) (N := 17) hx hb ht itX10 hown hK hP 1 rfl rfl 6 (by decide) (hKK.fld 15 rfl) (fun _ h9 => h9) rfl dX11_left_4 ?_
  refine lv_if_eq (tgt := 27) hx hb dX11_left_7 (by decide) (fun _ => ?_) (fun k1 => absurd k1 (by decide))
  refine vx_throwS (names := ["java/lang/RuntimeException", "java/lang/Exception"]) (A := A) hx hb hst hown (by decide +kernel) (by decide +kernel) (ht _ tw_277) (ht _ tw_278) (hKK.2.2.2.2.1 _ (List.mem_of_getElem? (i := 22) rfl)) (vx_hat (fun w h => ht w (xat_2 w h)) xat_2_n (vx_c (va_Nw.use rfl (hKK.2.2.2.2.2.1 _ (List.mem_of_getElem? (i := 2) rfl))) (vx_c (dcl_0 ht) (vx_c (dcl_1 ht) (vx_c (dcl_2 ht) vx_n))))) xat_2_o hFx.2.2.2.2.1 hFx.2.2.2.2.2.1 hS (by rw [hml]; exact hl.1) dX11_left_27 dX11_left_30 dX11_left_31 dX11_left_33 dX11_left_36 (fun x h9 => (hnt x h9).elim) (Nat.le_of_ble_eq_true rfl) (Nat.le_of_ble_eq_true rfl) (Nat.le_of_ble_eq_true rfl) (Nat.le_of_ble_eq_true rfl) hlocks (fun t9 hv9 hz9 hk9 => ⟨(), trivial, (rfl), ⟨Nat.le_trans hS.1 hz9, fun q h1 h2 => (hk9 q (Nat.lt_of_lt_of_le h1 hS.1)).trans (hS.2.1 q h1 h2)⟩⟩) hS.2.2 (Nat.le_of_ble_eq_true rfl) (Nat.le_of_ble_eq_true rfl)
