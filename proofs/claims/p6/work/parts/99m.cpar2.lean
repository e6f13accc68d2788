theorem dX5_condition_0 : decode cX5_condition 0 = .ok (.aload_n 0, 1) := by decide +kernel
theorem dX5_condition_1 : decode cX5_condition 1 = .ok (.getfield 20, 3) := by decide +kernel
theorem dX5_condition_4 : decode cX5_condition 4 = .ok (.bipush 30, 2) := by decide +kernel
theorem dX5_condition_6 : decode cX5_condition 6 = .ok (.invokevirtual 90, 3) := by decide +kernel
theorem dX5_condition_9 : decode cX5_condition 9 = .ok (.aload_n 0, 1) := by decide +kernel
theorem dX5_condition_10 : decode cX5_condition 10 = .ok (.getfield 20, 3) := by decide +kernel
theorem dX5_condition_13 : decode cX5_condition 13 = .ok (.invokevirtual 123, 3) := by decide +kernel
theorem dX5_condition_16 : decode cX5_condition 16 = .ok (.aload_n 0, 1) := by decide +kernel
theorem dX5_condition_17 : decode cX5_condition 17 = .ok (.getfield 36, 3) := by decide +kernel
theorem tw_608 : (.fieldLink RX5 36 "PocketCompiler$Parser" "expressions" "LPocketCompiler$Expressions;" : Cond) ∈ tw_W := tw_in (t8_2 (List.mem_of_getElem? (i := 58) rfl)) rfl
theorem dX5_condition_20 : decode cX5_condition 20 = .ok (.iconst 1, 1) := by decide +kernel
theorem dX5_condition_21 : decode cX5_condition 21 = .ok (.invokevirtual 213, 3) := by decide +kernel
theorem tw_609 : ∀ w ∈ ([.methodLink RX5 213 yX2_expression, .instanceMethod yX2_expression, .selects RX2 yX2_expression yX2_expression, .initialized RX2] : List Cond), w ∈ tw_W := al_c (tw_in (t8_4 (List.mem_of_getElem? (i := 79) rfl)) rfl) (al_c (tw_in (t8_4 (List.mem_of_getElem? (i := 80) rfl)) rfl) (al_c (tw_in (t8_4 (List.mem_of_getElem? (i := 81) rfl)) rfl) (al_c (tw_in (t8_1 (List.mem_of_getElem? (i := 12) rfl)) rfl) al_n)))
theorem dX5_condition_24 : decode cX5_condition 24 = .ok (.aload_n 0, 1) := by decide +kernel
theorem dX5_condition_25 : decode cX5_condition 25 = .ok (.getfield 20, 3) := by decide +kernel
theorem dX5_condition_28 : decode cX5_condition 28 = .ok (.bipush 31, 2) := by decide +kernel
theorem dX5_condition_30 : decode cX5_condition 30 = .ok (.invokevirtual 87, 3) := by decide +kernel
theorem dX5_condition_33 : decode cX5_condition 33 = .ok (.aload_n 0, 1) := by decide +kernel
theorem dX5_condition_34 : decode cX5_condition 34 = .ok (.getfield 20, 3) := by decide +kernel
theorem dX5_condition_37 : decode cX5_condition 37 = .ok (.invokevirtual 126, 3) := by decide +kernel
theorem dX5_condition_40 : decode cX5_condition 40 = .ok (.return_, 1) := by decide +kernel
theorem dX5_returnStat_0 : decode cX5_returnStat 0 = .ok (.aload_n 0, 1) := by decide +kernel
theorem dX5_returnStat_1 : decode cX5_returnStat 1 = .ok (.getfield 20, 3) := by decide +kernel
theorem dX5_returnStat_4 : decode cX5_returnStat 4 = .ok (.invokevirtual 117, 3) := by decide +kernel
theorem dX5_returnStat_7 : decode cX5_returnStat 7 = .ok (.aload_n 0, 1) := by decide +kernel
theorem dX5_returnStat_8 : decode cX5_returnStat 8 = .ok (.getfield 20, 3) := by decide +kernel
theorem dX5_returnStat_11 : decode cX5_returnStat 11 = .ok (.invokevirtual 48, 3) := by decide +kernel
theorem dX5_returnStat_14 : decode cX5_returnStat 14 = .ok (.bipush 36, 2) := by decide +kernel
theorem dX5_returnStat_16 : decode cX5_returnStat 16 = .ok (.if_icmp .ne 16, 3) := by decide +kernel
theorem dX5_returnStat_32 : decode cX5_returnStat 32 = .ok (.aload_n 0, 1) := by decide +kernel
theorem dX5_returnStat_33 : decode cX5_returnStat 33 = .ok (.getfield 36, 3) := by decide +kernel
theorem dX5_returnStat_36 : decode cX5_returnStat 36 = .ok (.iconst 1, 1) := by decide +kernel
theorem dX5_returnStat_37 : decode cX5_returnStat 37 = .ok (.invokevirtual 213, 3) := by decide +kernel
theorem dX5_returnStat_40 : decode cX5_returnStat 40 = .ok (.aload_n 0, 1) := by decide +kernel
theorem dX5_returnStat_41 : decode cX5_returnStat 41 = .ok (.getfield 27, 3) := by decide +kernel
theorem dX5_returnStat_44 : decode cX5_returnStat 44 = .ok (.bipush 19, 2) := by decide +kernel
theorem dX5_returnStat_46 : decode cX5_returnStat 46 = .ok (.aload_n 0, 1) := by decide +kernel
theorem dX5_returnStat_47 : decode cX5_returnStat 47 = .ok (.getfield 159, 3) := by decide +kernel
theorem tw_610 : (.fieldLink RX5 159 "PocketCompiler$Parser" "returnTo" "I" : Cond) ∈ tw_W := tw_in (t8_2 (List.mem_of_getElem? (i := 61) rfl)) rfl
theorem dX5_returnStat_50 : decode cX5_returnStat 50 = .ok (.iconst 0, 1) := by decide +kernel
theorem dX5_returnStat_51 : decode cX5_returnStat 51 = .ok (.invokevirtual 147, 3) := by decide +kernel
theorem dX5_returnStat_54 : decode cX5_returnStat 54 = .ok (.aload_n 0, 1) := by decide +kernel
theorem dX5_returnStat_55 : decode cX5_returnStat 55 = .ok (.getfield 20, 3) := by decide +kernel
theorem dX5_returnStat_58 : decode cX5_returnStat 58 = .ok (.bipush 36, 2) := by decide +kernel
theorem dX5_returnStat_60 : decode cX5_returnStat 60 = .ok (.invokevirtual 87, 3) := by decide +kernel
theorem dX5_returnStat_63 : decode cX5_returnStat 63 = .ok (.return_, 1) := by decide +kernel
theorem dX5_returnStat_19 : decode cX5_returnStat 19 = .ok (.aload_n 0, 1) := by decide +kernel
theorem dX5_returnStat_20 : decode cX5_returnStat 20 = .ok (.getfield 27, 3) := by decide +kernel
theorem dX5_returnStat_23 : decode cX5_returnStat 23 = .ok (.iconst 2, 1) := by decide +kernel
theorem dX5_returnStat_24 : decode cX5_returnStat 24 = .ok (.iconst 0, 1) := by decide +kernel
theorem dX5_returnStat_25 : decode cX5_returnStat 25 = .ok (.iconst 0, 1) := by decide +kernel
theorem dX5_returnStat_26 : decode cX5_returnStat 26 = .ok (.invokevirtual 147, 3) := by decide +kernel
theorem dX5_returnStat_29 : decode cX5_returnStat 29 = .ok (.goto 11, 3) := by decide +kernel
theorem dX5_local_0 : decode cX5_local 0 = .ok (.aload_n 0, 1) := by decide +kernel
theorem dX5_local_1 : decode cX5_local 1 = .ok (.getfield 20, 3) := by decide +kernel
theorem dX5_local_4 : decode cX5_local 4 = .ok (.invokevirtual 117, 3) := by decide +kernel
theorem dX5_local_7 : decode cX5_local 7 = .ok (.aload_n 0, 1) := by decide +kernel
theorem dX5_local_8 : decode cX5_local 8 = .ok (.invokevirtual 174, 3) := by decide +kernel
theorem dX5_local_11 : decode cX5_local 11 = .ok (.istore_n 1, 1) := by decide +kernel
theorem dX5_local_12 : decode cX5_local 12 = .ok (.aload_n 0, 1) := by decide +kernel
theorem dX5_local_13 : decode cX5_local 13 = .ok (.invokevirtual 177, 3) := by decide +kernel
theorem dX5_local_16 : decode cX5_local 16 = .ok (.aload_n 0, 1) := by decide +kernel
theorem dX5_local_17 : decode cX5_local 17 = .ok (.getfield 27, 3) := by decide +kernel
theorem dX5_local_20 : decode cX5_local 20 = .ok (.invokevirtual 220, 3) := by decide +kernel
theorem tw_611 : ∀ w ∈ ([.methodLink RX5 220 yX1_nextSlot, .instanceMethod yX1_nextSlot, .selects RX1 yX1_nextSlot yX1_nextSlot, .initialized RX1] : List Cond), w ∈ tw_W := al_c (tw_in (t8_4 (List.mem_of_getElem? (i := 75) rfl)) rfl) (al_c (tw_in (t8_4 (List.mem_of_getElem? (i := 76) rfl)) rfl) (al_c (tw_in (t8_4 (List.mem_of_getElem? (i := 77) rfl)) rfl) (al_c (tw_in (t8_1 (List.mem_of_getElem? (i := 11) rfl)) rfl) al_n)))
theorem dX5_local_23 : decode cX5_local 23 = .ok (.istore_n 2, 1) := by decide +kernel
theorem dX5_local_24 : decode cX5_local 24 = .ok (.aload_n 0, 1) := by decide +kernel
theorem dX5_local_25 : decode cX5_local 25 = .ok (.getfield 20, 3) := by decide +kernel
theorem dX5_local_28 : decode cX5_local 28 = .ok (.invokevirtual 117, 3) := by decide +kernel
theorem dX5_local_31 : decode cX5_local 31 = .ok (.aload_n 0, 1) := by decide +kernel
theorem dX5_local_32 : decode cX5_local 32 = .ok (.getfield 20, 3) := by decide +kernel
theorem dX5_local_35 : decode cX5_local 35 = .ok (.invokevirtual 48, 3) := by decide +kernel
theorem dX5_local_38 : decode cX5_local 38 = .ok (.bipush 42, 2) := by decide +kernel
theorem dX5_local_40 : decode cX5_local 40 = .ok (.if_icmp .ne 21, 3) := by decide +kernel
theorem dX5_local_61 : decode cX5_local 61 = .ok (.aload_n 0, 1) := by decide +kernel
theorem dX5_local_62 : decode cX5_local 62 = .ok (.getfield 27, 3) := by decide +kernel
theorem dX5_local_65 : decode cX5_local 65 = .ok (.iconst 2, 1) := by decide +kernel
theorem dX5_local_66 : decode cX5_local 66 = .ok (.iconst 0, 1) := by decide +kernel
theorem dX5_local_67 : decode cX5_local 67 = .ok (.iconst 0, 1) := by decide +kernel
theorem dX5_local_68 : decode cX5_local 68 = .ok (.invokevirtual 147, 3) := by decide +kernel
theorem dX5_local_71 : decode cX5_local 71 = .ok (.aload_n 0, 1) := by decide +kernel
theorem dX5_local_72 : decode cX5_local 72 = .ok (.getfield 27, 3) := by decide +kernel
theorem dX5_local_75 : decode cX5_local 75 = .ok (.iconst 4, 1) := by decide +kernel
theorem dX5_local_76 : decode cX5_local 76 = .ok (.iload_n 2, 1) := by decide +kernel
theorem dX5_local_77 : decode cX5_local 77 = .ok (.iconst 0, 1) := by decide +kernel
theorem dX5_local_78 : decode cX5_local 78 = .ok (.invokevirtual 147, 3) := by decide +kernel
theorem dX5_local_81 : decode cX5_local 81 = .ok (.aload_n 0, 1) := by decide +kernel
theorem dX5_local_82 : decode cX5_local 82 = .ok (.getfield 20, 3) := by decide +kernel
theorem dX5_local_85 : decode cX5_local 85 = .ok (.bipush 36, 2) := by decide +kernel
theorem dX5_local_87 : decode cX5_local 87 = .ok (.invokevirtual 87, 3) := by decide +kernel
theorem dX5_local_90 : decode cX5_local 90 = .ok (.aload_n 0, 1) := by decide +kernel
theorem dX5_local_91 : decode cX5_local 91 = .ok (.getfield 27, 3) := by decide +kernel
theorem dX5_local_94 : decode cX5_local 94 = .ok (.iload_n 1, 1) := by decide +kernel
theorem dX5_local_95 : decode cX5_local 95 = .ok (.invokevirtual 180, 3) := by decide +kernel
theorem dX5_local_98 : decode cX5_local 98 = .ok (.return_, 1) := by decide +kernel
theorem dX5_local_43 : decode cX5_local 43 = .ok (.aload_n 0, 1) := by decide +kernel
theorem dX5_local_44 : decode cX5_local 44 = .ok (.getfield 20, 3) := by decide +kernel
theorem dX5_local_47 : decode cX5_local 47 = .ok (.invokevirtual 117, 3) := by decide +kernel
theorem dX5_local_50 : decode cX5_local 50 = .ok (.aload_n 0, 1) := by decide +kernel
theorem dX5_local_51 : decode cX5_local 51 = .ok (.getfield 36, 3) := by decide +kernel
theorem dX5_local_54 : decode cX5_local 54 = .ok (.iconst 1, 1) := by decide +kernel
theorem dX5_local_55 : decode cX5_local 55 = .ok (.invokevirtual 213, 3) := by decide +kernel
theorem dX5_local_58 : decode cX5_local 58 = .ok (.goto 13, 3) := by decide +kernel
theorem dX5_optional_0 : decode cX5_optional 0 = .ok (.aload_n 0, 1) := by decide +kernel
theorem dX5_optional_1 : decode cX5_optional 1 = .ok (.getfield 20, 3) := by decide +kernel
theorem dX5_optional_4 : decode cX5_optional 4 = .ok (.invokevirtual 48, 3) := by decide +kernel
theorem dX5_optional_7 : decode cX5_optional 7 = .ok (.iload_n 1, 1) := by decide +kernel
theorem dX5_optional_8 : decode cX5_optional 8 = .ok (.if_icmp .ne 5, 3) := by decide +kernel
theorem dX5_optional_13 : decode cX5_optional 13 = .ok (.aload_n 0, 1) := by decide +kernel
theorem dX5_optional_14 : decode cX5_optional 14 = .ok (.getfield 36, 3) := by decide +kernel
theorem dX5_optional_17 : decode cX5_optional 17 = .ok (.iconst 1, 1) := by decide +kernel
theorem dX5_optional_18 : decode cX5_optional 18 = .ok (.invokevirtual 213, 3) := by decide +kernel
theorem dX5_optional_21 : decode cX5_optional 21 = .ok (.iconst 1, 1) := by decide +kernel
theorem dX5_optional_22 : decode cX5_optional 22 = .ok (.ireturn, 1) := by decide +kernel
theorem dX5_optional_11 : decode cX5_optional 11 = .ok (.iconst 0, 1) := by decide +kernel
theorem dX5_optional_12 : decode cX5_optional 12 = .ok (.ireturn, 1) := by decide +kernel
theorem dX5_innerStat_0 : decode cX5_innerStat 0 = .ok (.aload_n 0, 1) := by decide +kernel
theorem dX5_innerStat_1 : decode cX5_innerStat 1 = .ok (.getfield 27, 3) := by decide +kernel
theorem dX5_innerStat_4 : decode cX5_innerStat 4 = .ok (.getfield 141, 3) := by decide +kernel
theorem dX5_innerStat_7 : decode cX5_innerStat 7 = .ok (.istore_n 1, 1) := by decide +kernel
theorem dX5_innerStat_8 : decode cX5_innerStat 8 = .ok (.aload_n 0, 1) := by decide +kernel
theorem dX5_innerStat_9 : decode cX5_innerStat 9 = .ok (.getfield 27, 3) := by decide +kernel
theorem dX5_innerStat_12 : decode cX5_innerStat 12 = .ok (.getfield 217, 3) := by decide +kernel
theorem dX5_innerStat_15 : decode cX5_innerStat 15 = .ok (.istore_n 2, 1) := by decide +kernel
theorem dX5_innerStat_16 : decode cX5_innerStat 16 = .ok (.aload_n 0, 1) := by decide +kernel
theorem dX5_innerStat_17 : decode cX5_innerStat 17 = .ok (.getfield 27, 3) := by decide +kernel
theorem dX5_innerStat_20 : decode cX5_innerStat 20 = .ok (.iload_n 1, 1) := by decide +kernel
theorem dX5_innerStat_21 : decode cX5_innerStat 21 = .ok (.putfield 217, 3) := by decide +kernel
theorem dX5_innerStat_24 : decode cX5_innerStat 24 = .ok (.aload_n 0, 1) := by decide +kernel
theorem dX5_innerStat_25 : decode cX5_innerStat 25 = .ok (.invokevirtual 189, 3) := by decide +kernel
theorem tw_612 : (.code yX5_stat cX5_stat 1 none : Cond) ∈ tw_W := tw_in (t8_4 (List.mem_of_getElem? (i := 66) rfl)) rfl
theorem tw_613 : ∀ w ∈ ([.methodLink RX5 189 yX5_stat, .instanceMethod yX5_stat, .selects RX5 yX5_stat yX5_stat, .initialized RX5] : List Cond), w ∈ tw_W := al_c (tw_in (t8_4 (List.mem_of_getElem? (i := 63) rfl)) rfl) (al_c (tw_in (t8_4 (List.mem_of_getElem? (i := 65) rfl)) rfl) (al_c (tw_in (t7_2 (q := (yX5_stat, 7)) (List.mem_of_getElem? (i := 3) rfl)) rfl) (al_c (tw_in (t8_1 (List.mem_of_getElem? (i := 9) rfl)) rfl) al_n)))
theorem dX5_innerStat_28 : decode cX5_innerStat 28 = .ok (.aload_n 0, 1) := by decide +kernel
theorem dX5_innerStat_29 : decode cX5_innerStat 29 = .ok (.getfield 27, 3) := by decide +kernel
theorem dX5_innerStat_32 : decode cX5_innerStat 32 = .ok (.iload_n 1, 1) := by decide +kernel
theorem dX5_innerStat_33 : decode cX5_innerStat 33 = .ok (.putfield 141, 3) := by decide +kernel
theorem dX5_innerStat_36 : decode cX5_innerStat 36 = .ok (.aload_n 0, 1) := by decide +kernel
theorem dX5_innerStat_37 : decode cX5_innerStat 37 = .ok (.getfield 27, 3) := by decide +kernel
theorem dX5_innerStat_40 : decode cX5_innerStat 40 = .ok (.iload_n 2, 1) := by decide +kernel
theorem dX5_innerStat_41 : decode cX5_innerStat 41 = .ok (.putfield 217, 3) := by decide +kernel
theorem dX5_innerStat_44 : decode cX5_innerStat 44 = .ok (.return_, 1) := by decide +kernel
theorem dX5_stats_0 : decode cX5_stats 0 = .ok (.iconst 0, 1) := by decide +kernel
theorem dX5_stats_1 : decode cX5_stats 1 = .ok (.istore_n 1, 1) := by decide +kernel
theorem dX5_stats_2 : decode cX5_stats 2 = .ok (.iload_n 1, 1) := by decide +kernel
theorem dX5_stats_3 : decode cX5_stats 3 = .ok (.sipush 1500, 3) := by decide +kernel
theorem dX5_stats_6 : decode cX5_stats 6 = .ok (.if_icmp .ge 25, 3) := by decide +kernel
theorem dX5_stats_31 : decode cX5_stats 31 = .ok (.return_, 1) := by decide +kernel
theorem dX5_stats_9 : decode cX5_stats 9 = .ok (.aload_n 0, 1) := by decide +kernel
theorem dX5_stats_10 : decode cX5_stats 10 = .ok (.getfield 20, 3) := by decide +kernel
theorem dX5_stats_13 : decode cX5_stats 13 = .ok (.invokevirtual 48, 3) := by decide +kernel
theorem dX5_stats_16 : decode cX5_stats 16 = .ok (.bipush 33, 2) := by decide +kernel
theorem dX5_stats_18 : decode cX5_stats 18 = .ok (.if_icmp .eq 13, 3) := by decide +kernel
theorem dX5_stats_21 : decode cX5_stats 21 = .ok (.aload_n 0, 1) := by decide +kernel
theorem dX5_stats_22 : decode cX5_stats 22 = .ok (.invokevirtual 189, 3) := by decide +kernel
theorem dX5_stats_25 : decode cX5_stats 25 = .ok (.iinc 1 1, 3) := by decide +kernel
theorem dX5_stats_28 : decode cX5_stats 28 = .ok (.goto (-26), 3) := by decide +kernel
theorem om_570b8a1841 {x0 x1 x2 x3 x4 : Int} (h0 : 0 ≤ x0 ∧ x0 ≤ 1500) (h1 : 0 ≤ x1 ∧ x1 ≤ 420) (h2 : 0 ≤ x2 ∧ x2 ≤ 3008) (h3 : x2 + x1 - 2 * x0 ≤ 2) (h4 : x3 = x2) (h5 : x4 = x3) : 0 ≤ x4 ∧ x4 ≤ 3008 := by omega
theorem om_85cb321583 {x0 x1 x2 x3 x4 x5 x6 x7 x8 : Int} (h0 : x0 + x1 - 2 * x2 ≤ 2) (h1 : x3 = x2) (h2 : x4 = x1) (h3 : x5 = x0) (h4 : x6 = x4) (h5 : x7 = x5) (h6 : x8 = x3 + 1) : x7 + x6 - 2 * x8 ≤ 0 := by omega
theorem om_829987e589 {x0 x1 x2 x3 x4 x5 x6 x7 x8 x9 x10 x11 x12 x13 x14 : Int} (h0 : x0 + x1 - 2 * x2 ≤ 2) (h1 : x3 = x2) (h2 : x4 = x1) (h3 : x5 = x0) (h4 : x6 = x4) (h5 : x7 = x5) (h6 : x8 = x3 + 1) (h7 : 0 ≤ x9 ∧ x9 ≤ 420) (h8 : 0 ≤ x10 ∧ x10 ≤ 3008) (h9 : x10 + x9 - 2 * x11 + (1) ≤ x7 + x6 - 2 * x8) (h10 : x12 = x10) (h11 : 0 ≤ x13 ∧ x13 ≤ 1500) (h12 : x13 = x11 + 1) (h13 : x14 = x12) : 0 ≤ x14 ∧ x14 ≤ 3008 := by omega
theorem om_9778e18065 {x0 x1 x2 x3 x4 x5 x6 x7 x8 x9 x10 x11 x12 x13 x14 x15 x16 x17 : Int} (h0 : x0 = x1) (h1 : x2 = x3) (h2 : x4 = x5) (h3 : x6 = x2) (h4 : x7 = x4) (h5 : x8 = x0 + 1) (h6 : x9 + x10 - 2 * x11 + (1) ≤ x7 + x6 - 2 * x8) (h7 : x12 = x10) (h8 : x13 = x9) (h9 : x14 = x11 + 1) (h10 : x15 = x14) (h11 : x16 = x12) (h12 : x17 = x13) : x17 + x16 - 2 * x15 + (5) ≤ x5 + x3 - 2 * x1 := by omega
theorem om_e6602660c1 {x0 x1 x2 x3 x4 x5 : Int} (h0 : x0 = x1) (h1 : x2 = x0 + 1) (h2 : x2 + 1 ≤ x3) (h3 : x4 = x3 + 1) (h4 : x5 = x4) : x1 + 3 ≤ x5 := by omega
theorem om_f34bd8c61c {x0 x1 x2 x3 x4 x5 x6 x7 x8 x9 x10 x11 : Int} (h0 : x0 = x1) (h1 : x2 = x3) (h2 : x4 = x2) (h3 : x5 = x0 + 1) (h4 : x4 ≤ x6 ∧ x6 - 4 * x7 ≤ x4 - 4 * x5 + 0) (h5 : x8 = x6) (h6 : x9 = x7 + 1) (h7 : x10 = x9) (h8 : x11 = x8) : x3 ≤ x11 ∧ x11 - 4 * x10 ≤ x3 - 4 * x1 + 0 := by omega
set_option maxHeartbeats 16000000 in
set_option maxRecDepth 100000 in
theorem c_x_X5_condition (l : Launch) (n : Nat) (dC : Nat → ClassId) (dI : Nat → Nat → Nat) (cI cB cZ cJ cR : ClassId) (tb : Nat → Nat) (sz : Nat) (ad : Nat → Nat) (pr : Int32 → Nat) (N : Nat) (L1 L2 : List Nat) (v : MS) (ps : Int32) (z304 : 0 ≤ (v.1 0 304).toInt ∧ (v.1 0 304).toInt ≤ 1503) (z305 : 0 ≤ (v.1 0 305).toInt ∧ (v.1 0 305).toInt ≤ 1500) (z306 : 0 ≤ (v.1 0 306).toInt ∧ (v.1 0 306).toInt ≤ 40) (z312 : 0 ≤ (v.1 0 312).toInt ∧ (v.1 0 312).toInt ≤ 500) (z321 : 0 ≤ (v.1 0 321).toInt ∧ (v.1 0 321).toInt ≤ 501) (z326 : 0 ≤ (v.1 0 326).toInt ∧ (v.1 0 326).toInt ≤ 420) (z373 : 0 ≤ (v.1 0 373).toInt ∧ (v.1 0 373).toInt ≤ 4000) (z381 : 0 ≤ (v.1 0 381).toInt ∧ (v.1 0 381).toInt ≤ 3008) (hL1 : L1.length = 40) (hL2 : L2.length = 60) (rp : RP v) (hps : pr ps = ad 908) (es300 : (v.1 0 300) = ps) (es310 : (v.1 0 310) = ps) (hst : l.stackTraces = false) (zd : (v.1 0 381).toInt + (v.1 0 326).toInt - 2 * (v.1 0 305).toInt ≤ 2) (zlb : 0 ≤ (v.1 0 317).toInt ∧ (v.1 0 317).toInt - 4 * (v.1 0 305).toInt ≤ 8) (zn : 40 ≤ (v.1 0 306).toInt + (n : Int)) : vx_Met l yX5_condition (Cond.code yX5_condition cX5_condition 1 none :: tw_W) ({ frames := 8 * n + 14, cells := 1, slots := 6, locals := 28 * (8 * n + 14) }) (pc_ (dC, dI) (tyS cI cB cZ cJ cR) tb (cW ad pr N cI cR L1 L2 v) sz [.ref (ad 903)]) (qvz_ (dC, dI) (cW ad pr N cI cR L1 L2 v) sz (fun (u : MS) => FC [305, 306, 307, 314, 315, 317, 321, 326, 381] [0, 316, 318, 319, 320, 324, 325, 378, 379, 380] v u ∧ (Q_x_X5_condition L1 L2 n v false u) ∧ (0 ≤ (u.1 0 305).toInt ∧ (u.1 0 305).toInt ≤ 1500) ∧ (0 ≤ (u.1 0 306).toInt ∧ (u.1 0 306).toInt ≤ 40) ∧ (0 ≤ (u.1 0 321).toInt ∧ (u.1 0 321).toInt ≤ 501) ∧ (0 ≤ (u.1 0 326).toInt ∧ (u.1 0 326).toInt ≤ 420) ∧ (0 ≤ (u.1 0 381).toInt ∧ (u.1 0 381).toInt ≤ 3008) ∧ ((u.1 0 381).toInt + (u.1 0 326).toInt - 2 * (u.1 0 305).toInt + (5) ≤ (v.1 0 381).toInt + (v.1 0 326).toInt - 2 * (v.1 0 305).toInt) ∧ ((v.1 0 305).toInt + 3 ≤ (u.1 0 305).toInt) ∧ ((v.1 0 317).toInt ≤ (u.1 0 317).toInt ∧ (u.1 0 317).toInt - 4 * (u.1 0 305).toInt ≤ (v.1 0 317).toInt - 4 * (v.1 0 305).toInt + 0) ∧ ((u.1 0 306).toInt = (v.1 0 306).toInt) ∧ (RS v u)) (fun (u : MS) => (cW ad pr N cI cR L1 L2 u))) (qxc (dC, dI) (cW ad pr N cI cR L1 L2 v) sz (fun (u : MS) => (cW ad pr N cI cR L1 L2 u)) (fun (u : MS) => FC xfl xal v u ∧ (u.1 0 308).toInt ≠ 0 ∧ (Q_x_X5_condition L1 L2 n v true u))) 1 6 (va_A (cW ad pr N cI cR L1 L2 v) sz) := by
  refine vx_ofW (cc := cX5_condition) (maxL := 1) (ret := none) (by decide) rfl ?_
  intro p e s m args below meth c s₁ B hml hnt hv
  obtain ⟨rfl, hsz, hP, hKK, hD0, hFx⟩ := hv
  have hK := hKK.1
  have hx := B.exec
  have hb := B.bytes
  have hr := B.returns
  have ht : ∀ w ∈ tw_W, w.before _ s = true := fun w h => atoms_spec (ws := Cond.code yX5_condition cX5_condition 1 none :: tw_W) B.pre w (List.mem_cons_of_mem _ h)
  have hown : s.vm.findClass RX5 = some m.cls := findClass_of_methodNamed B.named
  have hlocks := B.notSynchronized
  subst hsz
  unfold qvz_ qxc
  have hD := hD0.self (sz := s.heap.size)
  generalize hAe : va_A (cW ad pr N cI cR L1 L2 v) s.heap.size = A at hD hFx ⊢
  have hA : ∀ q : Nat, s.heap.size ≤ q → A q := fun q h => by rw [← hAe]; exact Or.inr h
  have hS : va_S A s.heap s.heap [] := va_S.rf
  have hl := lv_entry ([.ref (ad 903)]) (n := 1) (Nat.le_of_ble_eq_true rfl)
  rw [lg_entry_eq]
  generalize (lg_sl ([.ref (ad 903)]) ++ List.replicate (1 - (lg_sl ([.ref (ad 903)])).length) Slot.unset).toArray = ls at hl ⊢
  have hl : lv_has ls 1 [(0, .ref (ad 903))] := hl
  refine lv_aload_n hx hb dX5_condition_0 rfl (lv_at hl 0 rfl) ?_
  refine va_get (D := (dC, dI)) (ci := 8) (fs := oF_X5 ad pr v) (v := .ref (ad 900)) (C := RX5) (T := TX5) (N := 7) hx hb ht itX5 hown hK hP 3 rfl rfl 1 (by decide) (ht _ tw_571) (fun _ h9 => h9) rfl dX5_condition_1 ?_
  refine lv_bipush (v := 30) hx hb dX5_condition_4 (by decide) ?_
  refine W.sz (fun hz9 => ?_)
  refine czx_v (rx_Vk (n := 1) (As := [.int 30]) (rest := []) hx hb hml hown ht hKK hFx hP hD hS hA (c_x_X9_need l dC dI cI cB cZ cJ cR tb s.heap.size ad pr N L1 L2 v (30 : Int32) ps (show 0 ≤ (v.1 0 304).toInt ∧ (v.1 0 304).toInt ≤ 1503 from (om_c99648273b z304)) (show 0 ≤ (v.1 0 305).toInt ∧ (v.1 0 305).toInt ≤ 1500 from (om_7897b4ccef z305)) (show 0 ≤ (v.1 0 373).toInt ∧ (v.1 0 373).toInt ≤ 4000 from (om_c74a68af25 z373)) (show pr ps = ad 908 from hps) (show (v.1 0 300) = ps from es300) (show l.stackTraces = false from hst)) tw_559 tw_572 (by decide +kernel) rfl rfl ⟨show 7 + 1 ≤ 8 * n + 14 from om_46126d3ba0, show 8 + (2 + 11) + 104 ≤ 28 * (8 * n + 14) from om_2d7c913608⟩ (List.range (cW ad pr N cI cR L1 L2 v).length) (rg_map _) (nd_range _) 0 rfl rfl rfl rfl hl.1 rfl (Nat.le_of_ble_eq_true rfl) dX5_condition_6 ⟨Nat.le_of_ble_eq_true rfl, Nat.le_of_ble_eq_true rfl⟩) hP hD hS hA (fun u9 ce9 q9 H locs hx9 hP hD hS hc9 hv9 hf9 => ?_) (fun u2 H locs hw1 hP hD hS hz8 => ?_)
  · exact vx_out (fun x h9 => (hnt x h9).elim) hlocks hc9 hv9 hf9 (fun t9 ht9 hv8 => ⟨u9, ⟨FC.tr (FC.rf _) hx9.1, hx9.2.1, ⟨z304, z305, z306, z312, z321, z326, z373, z381, zd, zlb, (Or.inl ⟨u9, hx9.2.2, rfl, rfl⟩)⟩⟩, ⟨rfl, by rw [ht9]; exact hP, hD⟩, hS.F ht9⟩) hS.2.2 (Nat.le_refl _) (Nat.le_refl _)
  refine W.shrink (hz8.trans hz9) ?_
  obtain ⟨fr1, ex1, rs1⟩ := hw1
  refine lv_aload_n hx hb dX5_condition_9 rfl (lv_at hl 0 rfl) ?_
  refine va_get (D := (dC, dI)) (ci := 8) (fs := oF_X5 ad pr u2) (v := .ref (ad 900)) (C := RX5) (T := TX5) (N := 7) hx hb ht itX5 hown hK hP 3 rfl rfl 1 (by decide) (ht _ tw_571) (fun _ h9 => h9) rfl dX5_condition_10 ?_
  have q4 : (u2.1 0 304).toInt = (v.1 0 304).toInt := congrArg Int32.toInt ((fr1.2.1 304 (by decide)).trans (show v.1 0 304 = (v.1 0 304) by rfl))
  have q5 : (u2.1 0 305).toInt = (v.1 0 305).toInt := congrArg Int32.toInt ((fr1.2.1 305 (by decide)).trans (show v.1 0 305 = (v.1 0 305) by rfl))
  have q6 : (u2.1 0 306).toInt = (v.1 0 306).toInt := congrArg Int32.toInt ((fr1.2.1 306 (by decide)).trans (show v.1 0 306 = (v.1 0 306) by rfl))
  have q7 : (u2.1 0 373).toInt = (v.1 0 373).toInt := congrArg Int32.toInt ((fr1.2.1 373 (by decide)).trans (show v.1 0 373 = (v.1 0 373) by rfl))
  refine W.sz (fun hz9 => ?_)
  refine czx_v (rx_Vk (n := 0) (As := []) (rest := []) hx hb hml hown ht hKK hFx hP hD hS hA (c_x_X9_open l dC dI cI cB cZ cJ cR tb H.size ad pr N L1 L2 u2 ps (show 0 ≤ (u2.1 0 304).toInt ∧ (u2.1 0 304).toInt ≤ 1503 from (om_73002589c1 z304 q4)) (show 0 ≤ (u2.1 0 305).toInt ∧ (u2.1 0 305).toInt ≤ 1500 from (om_c93ca3468d z305 q5)) (show 0 ≤ (u2.1 0 306).toInt ∧ (u2.1 0 306).toInt ≤ 40 from (om_99e115f631 z306 q6)) (show 0 ≤ (u2.1 0 373).toInt ∧ (u2.1 0 373).toInt ≤ 4000 from (om_9084c127ed z373 q7)) (show pr ps = ad 908 from hps) (show (u2.1 0 300) = ps from (Eq.trans (fr1.2.1 300 (by decide)) es300)) (show l.stackTraces = false from hst)) tw_524 tw_593 (by decide +kernel) rfl rfl ⟨show 7 + 1 ≤ 8 * n + 14 from om_46126d3ba0, show 8 + (1 + 11) + 104 ≤ 28 * (8 * n + 14) from om_6017b980b8⟩ (List.range (cW ad pr N cI cR L1 L2 u2).length) (rg_map _) (nd_range _) 0 rfl rfl rfl rfl hl.1 rfl (Nat.le_of_ble_eq_true rfl) dX5_condition_13 ⟨Nat.le_of_ble_eq_true rfl, Nat.le_of_ble_eq_true rfl⟩) hP hD hS hA (fun u9 ce9 q9 H locs hx9 hP hD hS hc9 hv9 hf9 => ?_) (fun u10 H locs hw8 hP hD hS hz8 => ?_)
  · exact vx_out (fun x h9 => (hnt x h9).elim) hlocks hc9 hv9 hf9 (fun t9 ht9 hv8 => ⟨u9, ⟨FC.tr (FC.tr (FC.rf _) (FC.up fr1 (by decide) (by decide))) hx9.1, hx9.2.1, ⟨z304, z305, z306, z312, z321, z326, z373, z381, zd, zlb, (Or.inr (⟨u2, ex1, ⟨fr1, rs1⟩, (Or.inl ⟨u9, hx9.2.2, rfl, rfl⟩)⟩))⟩⟩, ⟨rfl, by rw [ht9]; exact hP, hD⟩, hS.F ht9⟩) hS.2.2 (Nat.le_refl _) (Nat.le_refl _)
  refine W.shrink (hz8.trans hz9) ?_
  obtain ⟨fr8, ex8, i3058, i3068, pj8, pt8, rs8⟩ := hw8
  have i3058 : 0 ≤ (u10.1 0 305).toInt ∧ (u10.1 0 305).toInt ≤ 1500 := i3058
  have i3068 : 0 ≤ (u10.1 0 306).toInt ∧ (u10.1 0 306).toInt ≤ 40 := i3068
  have pj8 : (u10.1 0 306).toInt = (u2.1 0 306).toInt + 1 := pj8
  have pt8 : (u10.1 0 305).toInt = (u2.1 0 305).toInt + 1 := pt8
  have rs8 : RS u2 u10 := rs8
  refine lv_aload_n hx hb dX5_condition_16 rfl (lv_at hl 0 rfl) ?_
  refine va_get (D := (dC, dI)) (ci := 8) (fs := oF_X5 ad pr u10) (v := .ref (ad 902)) (C := RX5) (T := TX5) (N := 7) hx hb ht itX5 hown hK hP 3 rfl rfl 3 (by decide) (ht _ tw_608) (fun _ h9 => h9) rfl dX5_condition_17 ?_
  refine lv_iconst (v := 1) hx hb dX5_condition_20 (by decide) ?_
  obtain ⟨n12, hn13⟩ : ∃ m, n = m + 1 := ex_z (om_5ac3184894 zn q6 i3068 pj8)
  have q14 : (u10.1 0 304).toInt = (u2.1 0 304).toInt := congrArg Int32.toInt ((fr8.2.1 304 (by decide)).trans (show u2.1 0 304 = (u2.1 0 304) by rfl))
  have q15 : (u2.1 0 312).toInt = (v.1 0 312).toInt := congrArg Int32.toInt ((fr1.2.1 312 (by decide)).trans (show v.1 0 312 = (v.1 0 312) by rfl))
  have q16 : (u10.1 0 312).toInt = (u2.1 0 312).toInt := congrArg Int32.toInt ((fr8.2.1 312 (by decide)).trans (show u2.1 0 312 = (u2.1 0 312) by rfl))
  have q17 : (u2.1 0 321).toInt = (v.1 0 321).toInt := congrArg Int32.toInt ((fr1.2.1 321 (by decide)).trans (show v.1 0 321 = (v.1 0 321) by rfl))
  have q18 : (u10.1 0 321).toInt = (u2.1 0 321).toInt := congrArg Int32.toInt ((fr8.2.1 321 (by decide)).trans (show u2.1 0 321 = (u2.1 0 321) by rfl))
  have q19 : (u2.1 0 326).toInt = (v.1 0 326).toInt := congrArg Int32.toInt ((fr1.2.1 326 (by decide)).trans (show v.1 0 326 = (v.1 0 326) by rfl))
  have q20 : (u10.1 0 326).toInt = (u2.1 0 326).toInt := congrArg Int32.toInt ((fr8.2.1 326 (by decide)).trans (show u2.1 0 326 = (u2.1 0 326) by rfl))
  have q21 : (u10.1 0 373).toInt = (u2.1 0 373).toInt := congrArg Int32.toInt ((fr8.2.1 373 (by decide)).trans (show u2.1 0 373 = (u2.1 0 373) by rfl))
  have q22 : (u2.1 0 381).toInt = (v.1 0 381).toInt := congrArg Int32.toInt ((fr1.2.1 381 (by decide)).trans (show v.1 0 381 = (v.1 0 381) by rfl))
  have q23 : (u10.1 0 381).toInt = (u2.1 0 381).toInt := congrArg Int32.toInt ((fr8.2.1 381 (by decide)).trans (show u2.1 0 381 = (u2.1 0 381) by rfl))
  have q24 : (u2.1 0 317).toInt = (v.1 0 317).toInt := congrArg Int32.toInt ((fr1.2.1 317 (by decide)).trans (show v.1 0 317 = (v.1 0 317) by rfl))
  have q25 : (u10.1 0 317).toInt = (u2.1 0 317).toInt := congrArg Int32.toInt ((fr8.2.1 317 (by decide)).trans (show u2.1 0 317 = (u2.1 0 317) by rfl))
  refine W.sz (fun hz9 => ?_)
  refine czx_v (rx_Vk (n := 1) (As := [.int 1]) (rest := []) hx hb hml hown ht hKK hFx hP hD hS hA ((cq_all l n12).1 dC dI cI cB cZ cJ cR tb H.size ad pr N L1 L2 u10 (1 : Int32) ps (show 0 ≤ (u10.1 0 304).toInt ∧ (u10.1 0 304).toInt ≤ 1503 from (om_dd87ee851a z304 q4 q14)) (show 0 ≤ (u10.1 0 305).toInt ∧ (u10.1 0 305).toInt ≤ 1500 from (om_7897b4ccef i3058)) (show 0 ≤ (u10.1 0 306).toInt ∧ (u10.1 0 306).toInt ≤ 40 from (om_7eaf33e007 i3068)) (show 0 ≤ (u10.1 0 312).toInt ∧ (u10.1 0 312).toInt ≤ 500 from (om_8a5975ec21 z312 q15 q16)) (show 0 ≤ (u10.1 0 321).toInt ∧ (u10.1 0 321).toInt ≤ 501 from (om_4dfa815534 z321 q17 q18)) (show 0 ≤ (u10.1 0 326).toInt ∧ (u10.1 0 326).toInt ≤ 420 from (om_9591dea625 z326 q19 q20)) (show 0 ≤ (u10.1 0 373).toInt ∧ (u10.1 0 373).toInt ≤ 4000 from (om_03cd8767ac z373 q7 q21)) (show 0 ≤ (u10.1 0 381).toInt ∧ (u10.1 0 381).toInt ≤ 3008 from (om_570b8a1841 z305 z326 z381 zd q22 q23)) (show L1.length = 40 from hL1) (show L2.length = 60 from hL2) (show RP u10 from ((show FC [305, 306, 307, 314, 315, 317, 321, 326, 381] [0, 316, 318, 319, 320, 324, 325, 378, 379, 380] v u10 from (FC.tr (FC.tr (FC.rf _) (FC.up fr1 (by decide) (by decide))) (FC.up fr8 (by decide) (by decide)))).1 rp)) (show pr ps = ad 908 from hps) (show (u10.1 0 300) = ps from (Eq.trans (fr8.2.1 300 (by decide)) (Eq.trans (fr1.2.1 300 (by decide)) es300))) (show (u10.1 0 310) = ps from (Eq.trans (fr8.2.1 310 (by decide)) (Eq.trans (fr1.2.1 310 (by decide)) es310))) (show l.stackTraces = false from hst) (show (u10.1 0 381).toInt + (u10.1 0 326).toInt - 2 * (u10.1 0 305).toInt ≤ 0 from (om_85cb321583 zd q5 q19 q22 q20 q23 pt8)) (show 0 ≤ (u10.1 0 317).toInt ∧ (u10.1 0 317).toInt - 4 * (u10.1 0 305).toInt ≤ 8 from (om_f6532a91b1 zlb q5 q24 q25 pt8)) (show 40 ≤ (u10.1 0 306).toInt + (n12 : Int) from (om_d3bd070dcf zn q6 pj8 hn13))) tw_520 tw_609 (by decide +kernel) rfl rfl ⟨show (8 * n12 + 20) + 1 ≤ 8 * n + 14 from (om_74f46d92b7 hn13), show 8 + (5 + 11) + 28 * (8 * n12 + 20) ≤ 28 * (8 * n + 14) from (om_a843c7c5cc hn13)⟩ (List.range (cW ad pr N cI cR L1 L2 u10).length) (rg_map _) (nd_range _) 2 rfl rfl rfl rfl hl.1 rfl (Nat.le_of_ble_eq_true rfl) dX5_condition_21 ⟨Nat.le_of_ble_eq_true rfl, Nat.le_of_ble_eq_true rfl⟩) hP hD hS hA (fun u9 ce9 q9 H locs hx9 hP hD hS hc9 hv9 hf9 => ?_) (fun u27 H locs hw26 hP hD hS hz8 => ?_)
  · exact vx_out (fun x h9 => (hnt x h9).elim) hlocks hc9 hv9 hf9 (fun t9 ht9 hv8 => ⟨u9, ⟨FC.tr (FC.tr (FC.tr (FC.rf _) (FC.up fr1 (by decide) (by decide))) (FC.up fr8 (by decide) (by decide))) hx9.1, hx9.2.1, ⟨z304, z305, z306, z312, z321, z326, z373, z381, zd, zlb, (Or.inr (⟨u2, ex1, ⟨fr1, rs1⟩, (Or.inr (⟨u10, ex8, ⟨fr8, i3058, i3068, pj8, pt8, rs8⟩, (Or.inl ⟨u9, (by rw [hn13]; exact hx9.2.2), rfl, rfl⟩)⟩))⟩))⟩⟩, ⟨rfl, by rw [ht9]; exact hP, hD⟩, hS.F ht9⟩) hS.2.2 (Nat.le_refl _) (Nat.le_refl _)
  refine W.shrink (hz8.trans hz9) ?_
  obtain ⟨fr26, ex26, i30526, i30626, i32126, i32626, i38126, pd26, pt26, plb26, po26, rs26⟩ := hw26
  have i30526 : 0 ≤ (u27.1 0 305).toInt ∧ (u27.1 0 305).toInt ≤ 1500 := i30526
  have i30626 : 0 ≤ (u27.1 0 306).toInt ∧ (u27.1 0 306).toInt ≤ 40 := i30626
  have i32126 : 0 ≤ (u27.1 0 321).toInt ∧ (u27.1 0 321).toInt ≤ 501 := i32126
  have i32626 : 0 ≤ (u27.1 0 326).toInt ∧ (u27.1 0 326).toInt ≤ 420 := i32626
  have i38126 : 0 ≤ (u27.1 0 381).toInt ∧ (u27.1 0 381).toInt ≤ 3008 := i38126
  have pd26 : (u27.1 0 381).toInt + (u27.1 0 326).toInt - 2 * (u27.1 0 305).toInt + (1) ≤ (u10.1 0 381).toInt + (u10.1 0 326).toInt - 2 * (u10.1 0 305).toInt := pd26
  have pt26 : (u10.1 0 305).toInt + 1 ≤ (u27.1 0 305).toInt := pt26
  have plb26 : (u10.1 0 317).toInt ≤ (u27.1 0 317).toInt ∧ (u27.1 0 317).toInt - 4 * (u27.1 0 305).toInt ≤ (u10.1 0 317).toInt - 4 * (u10.1 0 305).toInt + 0 := plb26
  have po26 : (u27.1 0 306).toInt = (u10.1 0 306).toInt := po26
  have rs26 : RS u10 u27 := rs26
  refine lv_aload_n hx hb dX5_condition_24 rfl (lv_at hl 0 rfl) ?_
  refine va_get (D := (dC, dI)) (ci := 8) (fs := oF_X5 ad pr u27) (v := .ref (ad 900)) (C := RX5) (T := TX5) (N := 7) hx hb ht itX5 hown hK hP 3 rfl rfl 1 (by decide) (ht _ tw_571) (fun _ h9 => h9) rfl dX5_condition_25 ?_
  refine lv_bipush (v := 31) hx hb dX5_condition_28 (by decide) ?_
  have q29 : (u27.1 0 304).toInt = (u10.1 0 304).toInt := congrArg Int32.toInt ((fr26.2.1 304 (by decide)).trans (show u10.1 0 304 = (u10.1 0 304) by rfl))
  have q30 : (u27.1 0 373).toInt = (u10.1 0 373).toInt := congrArg Int32.toInt ((fr26.2.1 373 (by decide)).trans (show u10.1 0 373 = (u10.1 0 373) by rfl))
  refine W.sz (fun hz9 => ?_)
  refine czx_v (rx_Vk (n := 1) (As := [.int 31]) (rest := []) hx hb hml hown ht hKK hFx hP hD hS hA (c_x_X9_expect l dC dI cI cB cZ cJ cR tb H.size ad pr N L1 L2 u27 (31 : Int32) ps (show 0 ≤ (u27.1 0 304).toInt ∧ (u27.1 0 304).toInt ≤ 1503 from (om_57e3d9ffbd z304 q4 q14 q29)) (show 0 ≤ (u27.1 0 305).toInt ∧ (u27.1 0 305).toInt ≤ 1500 from (om_c55c38ddc1 i3058 i30526 pt26)) (show 0 ≤ (u27.1 0 373).toInt ∧ (u27.1 0 373).toInt ≤ 4000 from (om_282c7f458f z373 q7 q21 q30)) (show pr ps = ad 908 from hps) (show (u27.1 0 300) = ps from (Eq.trans (fr26.2.1 300 (by decide)) (Eq.trans (fr8.2.1 300 (by decide)) (Eq.trans (fr1.2.1 300 (by decide)) es300)))) (show l.stackTraces = false from hst)) tw_526 tw_580 (by decide +kernel) rfl rfl ⟨show 7 + 1 ≤ 8 * n + 14 from om_46126d3ba0, show 8 + (2 + 11) + 104 ≤ 28 * (8 * n + 14) from om_2d7c913608⟩ (List.range (cW ad pr N cI cR L1 L2 u27).length) (rg_map _) (nd_range _) 0 rfl rfl rfl rfl hl.1 rfl (Nat.le_of_ble_eq_true rfl) dX5_condition_30 ⟨Nat.le_of_ble_eq_true rfl, Nat.le_of_ble_eq_true rfl⟩) hP hD hS hA (fun u9 ce9 q9 H locs hx9 hP hD hS hc9 hv9 hf9 => ?_) (fun u32 H locs hw31 hP hD hS hz8 => ?_)
  · exact vx_out (fun x h9 => (hnt x h9).elim) hlocks hc9 hv9 hf9 (fun t9 ht9 hv8 => ⟨u9, ⟨FC.tr (FC.tr (FC.tr (FC.tr (FC.rf _) (FC.up fr1 (by decide) (by decide))) (FC.up fr8 (by decide) (by decide))) (FC.up fr26 (by decide) (by decide))) hx9.1, hx9.2.1, ⟨z304, z305, z306, z312, z321, z326, z373, z381, zd, zlb, (Or.inr (⟨u2, ex1, ⟨fr1, rs1⟩, (Or.inr (⟨u10, ex8, ⟨fr8, i3058, i3068, pj8, pt8, rs8⟩, (Or.inr (⟨u27, (by rw [hn13]; exact ex26), ⟨fr26, i30526, i30626, i32126, i32626, i38126, pd26, pt26, plb26, po26, rs26⟩, (Or.inl ⟨u9, hx9.2.2, rfl, rfl⟩)⟩))⟩))⟩))⟩⟩, ⟨rfl, by rw [ht9]; exact hP, hD⟩, hS.F ht9⟩) hS.2.2 (Nat.le_refl _) (Nat.le_refl _)
  refine W.shrink (hz8.trans hz9) ?_
  obtain ⟨fr31, ex31, i30531, pt31, rs31⟩ := hw31
  have i30531 : 0 ≤ (u32.1 0 305).toInt ∧ (u32.1 0 305).toInt ≤ 1500 := i30531
  have pt31 : (u32.1 0 305).toInt = (u27.1 0 305).toInt + 1 := pt31
  have rs31 : RS u27 u32 := rs31
  refine lv_aload_n hx hb dX5_condition_33 rfl (lv_at hl 0 rfl) ?_
  refine va_get (D := (dC, dI)) (ci := 8) (fs := oF_X5 ad pr u32) (v := .ref (ad 900)) (C := RX5) (T := TX5) (N := 7) hx hb ht itX5 hown hK hP 3 rfl rfl 1 (by decide) (ht _ tw_571) (fun _ h9 => h9) rfl dX5_condition_34 ?_
  have q34 : (u32.1 0 306).toInt = (u27.1 0 306).toInt := congrArg Int32.toInt ((fr31.2.1 306 (by decide)).trans (show u27.1 0 306 = (u27.1 0 306) by rfl))
  refine cu_v (rn_Vk (n := 0) (As := []) (rest := []) hx hb hml hown ht hKK hFx hP hD hS hA (c_x_X9_close l dC dI cI cB cZ cJ cR tb H.size ad pr N L1 L2 u32  (show 0 ≤ (u32.1 0 306).toInt ∧ (u32.1 0 306).toInt ≤ 40 from (om_99e115f631 i30626 q34)) (show 1 ≤ (u32.1 0 306).toInt from (om_99c73a5d23 z306 q6 pj8 po26 q34))) tw_528 tw_595 (by decide +kernel) rfl rfl ⟨show 0 + 1 ≤ 8 * n + 14 from om_2d92e09058, show 8 + (1 + 11) + 0 ≤ 28 * (8 * n + 14) from om_289622e6d2⟩ (List.range (cW ad pr N cI cR L1 L2 u32).length) (rg_map _) (nd_range _) 0 rfl rfl rfl rfl hl.1 rfl (Nat.le_of_ble_eq_true rfl) dX5_condition_37 ⟨Nat.le_of_ble_eq_true rfl, Nat.le_of_ble_eq_true rfl⟩) hP hD hS hA (fun u36 H locs hw35 hP hD hS => ?_)
  obtain ⟨fr35, ex35, i30635, pj35, rs35⟩ := hw35
  have i30635 : 0 ≤ (u36.1 0 306).toInt ∧ (u36.1 0 306).toInt ≤ 40 := i30635
  have pj35 : (u36.1 0 306).toInt = (u32.1 0 306).toInt - 1 := pj35
  have rs35 : RS u32 u36 := rs35
  refine W.widen (k := 0) (n := 0) (Nat.le_refl _) (Nat.le_refl _) ?_
  have q38 : (u36.1 0 305).toInt = (u32.1 0 305).toInt := congrArg Int32.toInt ((fr35.2.1 305 (by decide)).trans (show u32.1 0 305 = (u32.1 0 305) by rfl))
  have q39 : (u32.1 0 321).toInt = (u27.1 0 321).toInt := congrArg Int32.toInt ((fr31.2.1 321 (by decide)).trans (show u27.1 0 321 = (u27.1 0 321) by rfl))
  have q40 : (u36.1 0 321).toInt = (u32.1 0 321).toInt := congrArg Int32.toInt ((fr35.2.1 321 (by decide)).trans (show u32.1 0 321 = (u32.1 0 321) by rfl))
  have q41 : (u32.1 0 326).toInt = (u27.1 0 326).toInt := congrArg Int32.toInt ((fr31.2.1 326 (by decide)).trans (show u27.1 0 326 = (u27.1 0 326) by rfl))
  have q42 : (u36.1 0 326).toInt = (u32.1 0 326).toInt := congrArg Int32.toInt ((fr35.2.1 326 (by decide)).trans (show u32.1 0 326 = (u32.1 0 326) by rfl))
  have q43 : (u32.1 0 381).toInt = (u27.1 0 381).toInt := congrArg Int32.toInt ((fr31.2.1 381 (by decide)).trans (show u27.1 0 381 = (u27.1 0 381) by rfl))
  have q44 : (u36.1 0 381).toInt = (u32.1 0 381).toInt := congrArg Int32.toInt ((fr35.2.1 381 (by decide)).trans (show u32.1 0 381 = (u32.1 0 381) by rfl))
  have q45 : (u32.1 0 317).toInt = (u27.1 0 317).toInt := congrArg Int32.toInt ((fr31.2.1 317 (by decide)).trans (show u27.1 0 317 = (u27.1 0 317) by rfl))
  have q46 : (u36.1 0 317).toInt = (u32.1 0 317).toInt := congrArg Int32.toInt ((fr35.2.1 317 (by decide)).trans (show u32.1 0 317 = (u32.1 0 317) by rfl))
  refine W.sz (fun hz => ?_)
  refine vx_ret ?_
  refine W.widen (k := 1) (n := 6) (Nat.le_of_ble_eq_true rfl) (Nat.le_of_ble_eq_true rfl) ?_
  exact W.vret hx hb hr (fun t ht9 hW => ⟨⟨u36, rfl, ⟨(FC.tr (FC.tr (FC.tr (FC.tr (FC.tr (FC.rf _) (FC.up fr1 (by decide) (by decide))) (FC.up fr8 (by decide) (by decide))) (FC.up fr26 (by decide) (by decide))) (FC.up fr31 (by decide) (by decide))) (FC.up fr35 (by decide) (by decide))), ⟨z304, z305, z306, z312, z321, z326, z373, z381, zd, zlb, (Or.inr (⟨u2, ex1, ⟨fr1, rs1⟩, (Or.inr (⟨u10, ex8, ⟨fr8, i3058, i3068, pj8, pt8, rs8⟩, (Or.inr (⟨u27, (by rw [hn13]; exact ex26), ⟨fr26, i30526, i30626, i32126, i32626, i38126, pd26, pt26, plb26, po26, rs26⟩, (Or.inr (⟨u32, ex31, ⟨fr31, i30531, pt31, rs31⟩, u36, ex35, ⟨fr35, i30635, pj35, rs35⟩, rfl, rfl⟩))⟩))⟩))⟩))⟩, (show 0 ≤ (u36.1 0 305).toInt ∧ (u36.1 0 305).toInt ≤ 1500 from (om_e1fba6fb3a i3058 pt26 i30531 pt31 q38)), (show 0 ≤ (u36.1 0 306).toInt ∧ (u36.1 0 306).toInt ≤ 40 from (om_7eaf33e007 i30635)), (show 0 ≤ (u36.1 0 321).toInt ∧ (u36.1 0 321).toInt ≤ 501 from (om_4dfa815534 i32126 q39 q40)), (show 0 ≤ (u36.1 0 326).toInt ∧ (u36.1 0 326).toInt ≤ 420 from (om_9591dea625 i32626 q41 q42)), (show 0 ≤ (u36.1 0 381).toInt ∧ (u36.1 0 381).toInt ≤ 3008 from (om_829987e589 zd q5 q19 q22 q20 q23 pt8 i32626 i38126 pd26 q43 i30531 pt31 q44)), (show (u36.1 0 381).toInt + (u36.1 0 326).toInt - 2 * (u36.1 0 305).toInt + (5) ≤ (v.1 0 381).toInt + (v.1 0 326).toInt - 2 * (v.1 0 305).toInt from (om_9778e18065 q5 q19 q22 q20 q23 pt8 pd26 q41 q43 pt31 q38 q42 q44)), (show (v.1 0 305).toInt + 3 ≤ (u36.1 0 305).toInt from (om_e6602660c1 q5 pt8 pt26 pt31 q38)), (show (v.1 0 317).toInt ≤ (u36.1 0 317).toInt ∧ (u36.1 0 317).toInt - 4 * (u36.1 0 305).toInt ≤ (v.1 0 317).toInt - 4 * (v.1 0 305).toInt + 0 from (om_f34bd8c61c q5 q24 q25 pt8 plb26 q45 pt31 q38 q46)), (show (u36.1 0 306).toInt = (v.1 0 306).toInt from (om_4c2747e16f q6 pj8 po26 q34 pj35)), (RS.tr (RS.tr (RS.tr (RS.tr (RS.tr RS.rf rs1) rs8) rs26) rs31) rs35)⟩, ⟨by rw [ht9]; exact hP, hD⟩, by rw [ht9]; exact hz⟩, hS.F ht9⟩) hS.2.2 dX5_condition_40
theorem om_e98b1a8fe4 {n0 : Nat} : 7 + 1 ≤ 8 * n0 + 21 := by omega
theorem om_84edb096fe {n0 : Nat} : 8 + (1 + 11) + 104 ≤ 28 * (8 * n0 + 21) := by omega
theorem om_3f468672ac {x0 x1 x2 x3 x4 x5 x6 x7 x8 : Int} (h0 : x0 + x1 - 2 * x2 ≤ 0) (h1 : x3 = x1) (h2 : x4 = x0) (h3 : x5 = x2 + 1) (h4 : 0 ≤ x6 ∧ x6 ≤ 1500) (h5 : 0 ≤ x7 ∧ x7 ≤ 420) (h6 : 0 ≤ x8 ∧ x8 ≤ 3008) (h7 : x8 + x7 - 2 * x6 + (1) ≤ x4 + x3 - 2 * x5) : 0 ≤ x8 ∧ x8 ≤ 3008 := by omega
theorem om_1c00de33ae {x0 x1 x2 x3 x4 x5 x6 x7 x8 : Int} (h0 : x0 + x1 - 2 * x2 ≤ 0) (h1 : x3 = x1) (h2 : x4 = x0) (h3 : x5 = x2 + 1) (h4 : 0 ≤ x6 ∧ x6 ≤ 1500) (h5 : 0 ≤ x7 ∧ x7 ≤ 420) (h6 : x8 + x7 - 2 * x6 + (1) ≤ x4 + x3 - 2 * x5) : x8 < 3008 := by omega
theorem om_b4016bf927 {x0 x1 x2 x3 : Int} (h0 : 0 ≤ x0 ∧ x0 ≤ 1500) (h1 : x1 = x0 + 1) (h2 : 0 ≤ x2 ∧ x2 ≤ 1500) (h3 : x1 + 1 ≤ x2) (h4 : x3 = x2) : 0 ≤ x3 ∧ x3 ≤ 1500 := by omega
theorem om_70d74f4c8d {n0 : Nat} : 8 + (2 + 11) + 104 ≤ 28 * (8 * n0 + 21) := by omega
theorem om_0d55175280 {x0 x1 x2 x3 x4 x5 x6 x7 x8 x9 x10 : Int} (h0 : x0 + x1 - 2 * x2 ≤ 0) (h1 : x3 = x1) (h2 : x4 = x0) (h3 : x5 = x2 + 1) (h4 : 0 ≤ x6 ∧ x6 ≤ 1500) (h5 : 0 ≤ x7 ∧ x7 ≤ 420) (h6 : 0 ≤ x8 ∧ x8 ≤ 3008) (h7 : x8 + x7 - 2 * x6 + (1) ≤ x4 + x3 - 2 * x5) (h8 : x9 = x8 + 1) (h9 : x10 = x9) : 0 ≤ x10 ∧ x10 ≤ 3008 := by omega
theorem om_07d2be37d0 {x0 x1 x2 x3 x4 x5 x6 x7 x8 x9 x10 x11 x12 x13 x14 : Int} (h0 : x0 = x1) (h1 : x2 = x3) (h2 : x4 = x5 + 1) (h3 : x6 + x7 - 2 * x8 + (1) ≤ x2 + x0 - 2 * x4) (h4 : x9 = x8) (h5 : x10 = x7) (h6 : x11 = x6 + 1) (h7 : x12 = x10) (h8 : x13 = x11) (h9 : x14 = x9 + 1) : x13 + x12 - 2 * x14 + (2) ≤ x3 + x1 - 2 * x5 := by omega
theorem om_c6649faf68 {x0 x1 x2 x3 x4 : Int} (h0 : x0 = x1 + 1) (h1 : x0 + 1 ≤ x2) (h2 : x3 = x2) (h3 : x4 = x3 + 1) : x1 + 2 ≤ x4 := by omega
theorem om_08b7e08c09 {x0 x1 x2 x3 x4 x5 x6 x7 x8 x9 : Int} (h0 : x0 = x1) (h1 : x2 = x3 + 1) (h2 : x0 ≤ x4 ∧ x4 - 4 * x5 ≤ x0 - 4 * x2 + 0) (h3 : x6 = x5) (h4 : x7 = x4) (h5 : x8 = x7) (h6 : x9 = x6 + 1) : x1 ≤ x8 ∧ x8 - 4 * x9 ≤ x1 - 4 * x3 + 0 := by omega
theorem om_e6d0746439 {x0 x1 x2 x3 x4 : Int} (h0 : 0 ≤ x0 ∧ x0 ≤ 1500) (h1 : 0 ≤ x1 ∧ x1 ≤ 420) (h2 : x2 + x1 - 2 * x0 ≤ 0) (h3 : x3 = x2) (h4 : 0 ≤ x4 ∧ x4 ≤ 3008) (h5 : x4 = x3 + 1) : 0 ≤ x4 ∧ x4 ≤ 3008 := by omega
theorem om_48df14aaef {x0 x1 x2 x3 x4 : Int} (h0 : 0 ≤ x0 ∧ x0 ≤ 1500) (h1 : 0 ≤ x1 ∧ x1 ≤ 420) (h2 : x2 + x1 - 2 * x0 ≤ 0) (h3 : x3 = x2) (h4 : x4 = x3 + 1) : x4 < 3008 := by omega
theorem om_2c7c1a0fac {x0 x1 x2 x3 x4 x5 x6 x7 : Int} (h0 : 0 ≤ x0 ∧ x0 ≤ 420) (h1 : x1 + x0 - 2 * x2 ≤ 0) (h2 : x3 = x1) (h3 : 0 ≤ x4 ∧ x4 ≤ 1500) (h4 : x4 = x2 + 1) (h5 : 0 ≤ x5 ∧ x5 ≤ 3008) (h6 : x5 = x3 + 1) (h7 : x6 = x5 + 1) (h8 : x7 = x6) : 0 ≤ x7 ∧ x7 ≤ 3008 := by omega
theorem om_ea636a3445 {x0 x1 x2 x3 x4 x5 x6 x7 x8 x9 x10 x11 x12 x13 x14 : Int} (h0 : x0 = x1) (h1 : x2 = x3) (h2 : x4 = x5 + 1) (h3 : x6 = x4) (h4 : x7 = x0) (h5 : x8 = x2 + 1) (h6 : x9 = x6) (h7 : x10 = x7) (h8 : x11 = x8 + 1) (h9 : x12 = x10) (h10 : x13 = x11) (h11 : x14 = x9 + 1) : x13 + x12 - 2 * x14 + (2) ≤ x3 + x1 - 2 * x5 := by omega
theorem om_248d5872cb {x0 x1 x2 x3 x4 : Int} (h0 : x0 = x1 + 1) (h1 : x2 = x0) (h2 : x3 = x2) (h3 : x4 = x3 + 1) : x1 + 2 ≤ x4 := by omega
theorem om_649fe65453 {x0 x1 x2 x3 x4 x5 x6 x7 x8 x9 : Int} (h0 : x0 = x1) (h1 : x2 = x3 + 1) (h2 : x4 = x2) (h3 : x5 = x0) (h4 : x6 = x4) (h5 : x7 = x5) (h6 : x8 = x7) (h7 : x9 = x6 + 1) : x1 ≤ x8 ∧ x8 - 4 * x9 ≤ x1 - 4 * x3 + 0 := by omega
set_option maxHeartbeats 16000000 in
set_option maxRecDepth 100000 in
theorem c_x_X5_returnStat (l : Launch) (n : Nat) (dC : Nat → ClassId) (dI : Nat → Nat → Nat) (cI cB cZ cJ cR : ClassId) (tb : Nat → Nat) (sz : Nat) (ad : Nat → Nat) (pr : Int32 → Nat) (N : Nat) (L1 L2 : List Nat) (v : MS) (ps : Int32) (z304 : 0 ≤ (v.1 0 304).toInt ∧ (v.1 0 304).toInt ≤ 1503) (z305 : 0 ≤ (v.1 0 305).toInt ∧ (v.1 0 305).toInt ≤ 1500) (z306 : 0 ≤ (v.1 0 306).toInt ∧ (v.1 0 306).toInt ≤ 40) (z312 : 0 ≤ (v.1 0 312).toInt ∧ (v.1 0 312).toInt ≤ 500) (z321 : 0 ≤ (v.1 0 321).toInt ∧ (v.1 0 321).toInt ≤ 501) (z326 : 0 ≤ (v.1 0 326).toInt ∧ (v.1 0 326).toInt ≤ 420) (z373 : 0 ≤ (v.1 0 373).toInt ∧ (v.1 0 373).toInt ≤ 4000) (z381 : 0 ≤ (v.1 0 381).toInt ∧ (v.1 0 381).toInt ≤ 3008) (hL1 : L1.length = 40) (hL2 : L2.length = 60) (rp : RP v) (hps : pr ps = ad 908) (es300 : (v.1 0 300) = ps) (es310 : (v.1 0 310) = ps) (hst : l.stackTraces = false) (zd : (v.1 0 381).toInt + (v.1 0 326).toInt - 2 * (v.1 0 305).toInt ≤ 0) (zlb : 0 ≤ (v.1 0 317).toInt ∧ (v.1 0 317).toInt - 4 * (v.1 0 305).toInt ≤ 8) (zn : 40 ≤ (v.1 0 306).toInt + (n : Int)) : vx_Met l yX5_returnStat (Cond.code yX5_returnStat cX5_returnStat 1 none :: tw_W) ({ frames := 8 * n + 21, cells := 1, slots := 6, locals := 28 * (8 * n + 21) }) (pc_ (dC, dI) (tyS cI cB cZ cJ cR) tb (cW ad pr N cI cR L1 L2 v) sz [.ref (ad 903)]) (qvz_ (dC, dI) (cW ad pr N cI cR L1 L2 v) sz (fun (u : MS) => FC [305, 306, 307, 314, 315, 317, 321, 326, 381] [0, 316, 318, 319, 320, 324, 325, 378, 379, 380] v u ∧ (Q_x_X5_returnStat L1 L2 n v false u) ∧ (0 ≤ (u.1 0 305).toInt ∧ (u.1 0 305).toInt ≤ 1500) ∧ (0 ≤ (u.1 0 306).toInt ∧ (u.1 0 306).toInt ≤ 40) ∧ (0 ≤ (u.1 0 321).toInt ∧ (u.1 0 321).toInt ≤ 501) ∧ (0 ≤ (u.1 0 326).toInt ∧ (u.1 0 326).toInt ≤ 420) ∧ (0 ≤ (u.1 0 381).toInt ∧ (u.1 0 381).toInt ≤ 3008) ∧ ((u.1 0 381).toInt + (u.1 0 326).toInt - 2 * (u.1 0 305).toInt + (2) ≤ (v.1 0 381).toInt + (v.1 0 326).toInt - 2 * (v.1 0 305).toInt) ∧ ((v.1 0 305).toInt + 2 ≤ (u.1 0 305).toInt) ∧ ((v.1 0 317).toInt ≤ (u.1 0 317).toInt ∧ (u.1 0 317).toInt - 4 * (u.1 0 305).toInt ≤ (v.1 0 317).toInt - 4 * (v.1 0 305).toInt + 0) ∧ ((u.1 0 306).toInt = (v.1 0 306).toInt) ∧ (RS v u)) (fun (u : MS) => (cW ad pr N cI cR L1 L2 u))) (qxc (dC, dI) (cW ad pr N cI cR L1 L2 v) sz (fun (u : MS) => (cW ad pr N cI cR L1 L2 u)) (fun (u : MS) => FC xfl xal v u ∧ (u.1 0 308).toInt ≠ 0 ∧ (Q_x_X5_returnStat L1 L2 n v true u))) 1 6 (va_A (cW ad pr N cI cR L1 L2 v) sz) := by
  refine vx_ofW (cc := cX5_returnStat) (maxL := 1) (ret := none) (by decide) rfl ?_
  intro p e s m args below meth c s₁ B hml hnt hv
  obtain ⟨rfl, hsz, hP, hKK, hD0, hFx⟩ := hv
  have hK := hKK.1
  have hx := B.exec
  have hb := B.bytes
  have hr := B.returns
  have ht : ∀ w ∈ tw_W, w.before _ s = true := fun w h => atoms_spec (ws := Cond.code yX5_returnStat cX5_returnStat 1 none :: tw_W) B.pre w (List.mem_cons_of_mem _ h)
  have hown : s.vm.findClass RX5 = some m.cls := findClass_of_methodNamed B.named
  have hlocks := B.notSynchronized
  subst hsz
  unfold qvz_ qxc
  have hD := hD0.self (sz := s.heap.size)
  generalize hAe : va_A (cW ad pr N cI cR L1 L2 v) s.heap.size = A at hD hFx ⊢
  have hA : ∀ q : Nat, s.heap.size ≤ q → A q := fun q h => by rw [← hAe]; exact Or.inr h
  have hS : va_S A s.heap s.heap [] := va_S.rf
  have hl := lv_entry ([.ref (ad 903)]) (n := 1) (Nat.le_of_ble_eq_true rfl)
  rw [lg_entry_eq]
  generalize (lg_sl ([.ref (ad 903)]) ++ List.replicate (1 - (lg_sl ([.ref (ad 903)])).length) Slot.unset).toArray = ls at hl ⊢
  have hl : lv_has ls 1 [(0, .ref (ad 903))] := hl
  refine lv_aload_n hx hb dX5_returnStat_0 rfl (lv_at hl 0 rfl) ?_
  refine va_get (D := (dC, dI)) (ci := 8) (fs := oF_X5 ad pr v) (v := .ref (ad 900)) (C := RX5) (T := TX5) (N := 7) hx hb ht itX5 hown hK hP 3 rfl rfl 1 (by decide) (ht _ tw_571) (fun _ h9 => h9) rfl dX5_returnStat_1 ?_
  refine W.sz (fun hz9 => ?_)
  refine czx_v (rx_Vk (n := 0) (As := []) (rest := []) hx hb hml hown ht hKK hFx hP hD hS hA (c_x_X9_take l dC dI cI cB cZ cJ cR tb s.heap.size ad pr N L1 L2 v ps (show 0 ≤ (v.1 0 304).toInt ∧ (v.1 0 304).toInt ≤ 1503 from (om_c99648273b z304)) (show 0 ≤ (v.1 0 305).toInt ∧ (v.1 0 305).toInt ≤ 1500 from (om_7897b4ccef z305)) (show 0 ≤ (v.1 0 373).toInt ∧ (v.1 0 373).toInt ≤ 4000 from (om_c74a68af25 z373)) (show pr ps = ad 908 from hps) (show (v.1 0 300) = ps from es300) (show l.stackTraces = false from hst)) tw_539 tw_585 (by decide +kernel) rfl rfl ⟨show 7 + 1 ≤ 8 * n + 21 from om_e98b1a8fe4, show 8 + (1 + 11) + 104 ≤ 28 * (8 * n + 21) from om_84edb096fe⟩ (List.range (cW ad pr N cI cR L1 L2 v).length) (rg_map _) (nd_range _) 0 rfl rfl rfl rfl hl.1 rfl (Nat.le_of_ble_eq_true rfl) dX5_returnStat_4 ⟨Nat.le_of_ble_eq_true rfl, Nat.le_of_ble_eq_true rfl⟩) hP hD hS hA (fun u9 ce9 q9 H locs hx9 hP hD hS hc9 hv9 hf9 => ?_) (fun u2 H locs hw1 hP hD hS hz8 => ?_)
  · exact vx_out (fun x h9 => (hnt x h9).elim) hlocks hc9 hv9 hf9 (fun t9 ht9 hv8 => ⟨u9, ⟨FC.tr (FC.rf _) hx9.1, hx9.2.1, ⟨z304, z305, z306, z312, z321, z326, z373, z381, zd, zlb, (Or.inl ⟨u9, hx9.2.2, rfl, rfl⟩)⟩⟩, ⟨rfl, by rw [ht9]; exact hP, hD⟩, hS.F ht9⟩) hS.2.2 (Nat.le_refl _) (Nat.le_refl _)
  refine W.shrink (hz8.trans hz9) ?_
  obtain ⟨fr1, ex1, i3051, pt1, rs1⟩ := hw1
  refine lv_aload_n hx hb dX5_returnStat_7 rfl (lv_at hl 0 rfl) ?_
  refine va_get (D := (dC, dI)) (ci := 8) (fs := oF_X5 ad pr u2) (v := .ref (ad 900)) (C := RX5) (T := TX5) (N := 7) hx hb ht itX5 hown hK hP 3 rfl rfl 1 (by decide) (ht _ tw_571) (fun _ h9 => h9) rfl dX5_returnStat_8 ?_
  have q4 : (u2.1 0 304).toInt = (v.1 0 304).toInt := congrArg Int32.toInt ((fr1.2.1 304 (by decide)).trans (show v.1 0 304 = (v.1 0 304) by rfl))
  refine cu_i (rn_Vk (n := 0) (As := []) (rest := []) hx hb hml hown ht hKK hFx hP hD hS hA (c_x_X9_kind l dC dI cI cB cZ cJ cR tb H.size ad pr N L1 L2 u2  (show 0 ≤ (u2.1 0 304).toInt ∧ (u2.1 0 304).toInt ≤ 1503 from (om_73002589c1 z304 q4)) (show 0 ≤ (u2.1 0 305).toInt ∧ (u2.1 0 305).toInt ≤ 1500 from (om_89213937cb z305 i3051 pt1))) tw_455 tw_594 (by decide +kernel) rfl rfl ⟨show 0 + 1 ≤ 8 * n + 21 from om_a43f662a07, show 8 + (1 + 11) + 0 ≤ 28 * (8 * n + 21) from om_9f2e4fbaf3⟩ (List.range (cW ad pr N cI cR L1 L2 u2).length) (rg_map _) (nd_range _) 0 rfl rfl rfl rfl hl.1 rfl (Nat.le_of_ble_eq_true rfl) dX5_returnStat_11 ⟨Nat.le_of_ble_eq_true rfl, Nat.le_of_ble_eq_true rfl⟩) hP hD hS hA (fun r7 u6 H locs hw5 hP hD hS => ?_)
  obtain ⟨rfl, ex5⟩ := hw5
  refine W.widen (k := 0) (n := 0) (Nat.le_refl _) (Nat.le_refl _) ?_
  refine lv_bipush (v := 36) hx hb dX5_returnStat_14 (by decide) ?_
  refine lv_icmp_ne (tgt := 32) hx hb dX5_returnStat_16 (by decide) (fun h8 => ?_) (fun h8 => ?_)
  · have z9 : r7.toInt ≠ (36 : Int) := ne_z rfl (show (36 : Int32).toInt = (36 : Int) by decide) h8
    refine lv_aload_n hx hb dX5_returnStat_32 rfl (lv_at hl 0 rfl) ?_
    refine va_get (D := (dC, dI)) (ci := 8) (fs := oF_X5 ad pr u2) (v := .ref (ad 902)) (C := RX5) (T := TX5) (N := 7) hx hb ht itX5 hown hK hP 3 rfl rfl 3 (by decide) (ht _ tw_608) (fun _ h9 => h9) rfl dX5_returnStat_33 ?_
    refine lv_iconst (v := 1) hx hb dX5_returnStat_36 (by decide) ?_
    have q10 : (u2.1 0 306).toInt = (v.1 0 306).toInt := congrArg Int32.toInt ((fr1.2.1 306 (by decide)).trans (show v.1 0 306 = (v.1 0 306) by rfl))
    have q11 : (u2.1 0 312).toInt = (v.1 0 312).toInt := congrArg Int32.toInt ((fr1.2.1 312 (by decide)).trans (show v.1 0 312 = (v.1 0 312) by rfl))
    have q12 : (u2.1 0 321).toInt = (v.1 0 321).toInt := congrArg Int32.toInt ((fr1.2.1 321 (by decide)).trans (show v.1 0 321 = (v.1 0 321) by rfl))
    have q13 : (u2.1 0 326).toInt = (v.1 0 326).toInt := congrArg Int32.toInt ((fr1.2.1 326 (by decide)).trans (show v.1 0 326 = (v.1 0 326) by rfl))
    have q14 : (u2.1 0 373).toInt = (v.1 0 373).toInt := congrArg Int32.toInt ((fr1.2.1 373 (by decide)).trans (show v.1 0 373 = (v.1 0 373) by rfl))
    have q15 : (u2.1 0 381).toInt = (v.1 0 381).toInt := congrArg Int32.toInt ((fr1.2.1 381 (by decide)).trans (show v.1 0 381 = (v.1 0 381) by rfl))
    have q16 : (u2.1 0 317).toInt = (v.1 0 317).toInt := congrArg Int32.toInt ((fr1.2.1 317 (by decide)).trans (show v.1 0 317 = (v.1 0 317) by rfl))
    refine W.sz (fun hz9 => ?_)
    refine czx_v (rx_Vk (n := 1) (As := [.int 1]) (rest := []) hx hb hml hown ht hKK hFx hP hD hS hA ((cq_all l n).1 dC dI cI cB cZ cJ cR tb H.size ad pr N L1 L2 u2 (1 : Int32) ps (show 0 ≤ (u2.1 0 304).toInt ∧ (u2.1 0 304).toInt ≤ 1503 from (om_73002589c1 z304 q4)) (show 0 ≤ (u2.1 0 305).toInt ∧ (u2.1 0 305).toInt ≤ 1500 from (om_89213937cb z305 i3051 pt1)) (show 0 ≤ (u2.1 0 306).toInt ∧ (u2.1 0 306).toInt ≤ 40 from (om_99e115f631 z306 q10)) (show 0 ≤ (u2.1 0 312).toInt ∧ (u2.1 0 312).toInt ≤ 500 from (om_f8376ff89c z312 q11)) (show 0 ≤ (u2.1 0 321).toInt ∧ (u2.1 0 321).toInt ≤ 501 from (om_ff27494c0e z321 q12)) (show 0 ≤ (u2.1 0 326).toInt ∧ (u2.1 0 326).toInt ≤ 420 from (om_8ed0dedb19 z326 q13)) (show 0 ≤ (u2.1 0 373).toInt ∧ (u2.1 0 373).toInt ≤ 4000 from (om_9084c127ed z373 q14)) (show 0 ≤ (u2.1 0 381).toInt ∧ (u2.1 0 381).toInt ≤ 3008 from (om_3d2979e731 z305 z326 z381 zd q15)) (show L1.length = 40 from hL1) (show L2.length = 60 from hL2) (show RP u2 from ((show FC [305, 306, 307, 314, 315, 317, 321, 326, 381] [0, 316, 318, 319, 320, 324, 325, 378, 379, 380] v u2 from (FC.tr (FC.rf _) (FC.up fr1 (by decide) (by decide)))).1 rp)) (show pr ps = ad 908 from hps) (show (u2.1 0 300) = ps from (Eq.trans (fr1.2.1 300 (by decide)) es300)) (show (u2.1 0 310) = ps from (Eq.trans (fr1.2.1 310 (by decide)) es310)) (show l.stackTraces = false from hst) (show (u2.1 0 381).toInt + (u2.1 0 326).toInt - 2 * (u2.1 0 305).toInt ≤ 0 from (om_27b720c3fb zd q13 q15 pt1)) (show 0 ≤ (u2.1 0 317).toInt ∧ (u2.1 0 317).toInt - 4 * (u2.1 0 305).toInt ≤ 8 from (om_acd7fdc17b zlb q16 pt1)) (show 40 ≤ (u2.1 0 306).toInt + (n : Int) from (om_2d3a9cf1da zn q10))) tw_520 tw_609 (by decide +kernel) rfl rfl ⟨show (8 * n + 20) + 1 ≤ 8 * n + 21 from om_12a3a4432e, show 8 + (5 + 11) + 28 * (8 * n + 20) ≤ 28 * (8 * n + 21) from om_daa41a5b32⟩ (List.range (cW ad pr N cI cR L1 L2 u2).length) (rg_map _) (nd_range _) 2 rfl rfl rfl rfl hl.1 rfl (Nat.le_of_ble_eq_true rfl) dX5_returnStat_37 ⟨Nat.le_of_ble_eq_true rfl, Nat.le_of_ble_eq_true rfl⟩) hP hD hS hA (fun u9 ce9 q9 H locs hx9 hP hD hS hc9 hv9 hf9 => ?_) (fun u18 H locs hw17 hP hD hS hz8 => ?_)
    · exact vx_out (fun x h9 => (hnt x h9).elim) hlocks hc9 hv9 hf9 (fun t9 ht9 hv8 => ⟨u9, ⟨FC.tr (FC.tr (FC.rf _) (FC.up fr1 (by decide) (by decide))) hx9.1, hx9.2.1, ⟨z304, z305, z306, z312, z321, z326, z373, z381, zd, zlb, (Or.inr (⟨u2, ex1, ⟨fr1, i3051, pt1, rs1⟩, r7, ex5, (Or.inl ⟨z9, (Or.inl ⟨u9, hx9.2.2, rfl, rfl⟩)⟩)⟩))⟩⟩, ⟨rfl, by rw [ht9]; exact hP, hD⟩, hS.F ht9⟩) hS.2.2 (Nat.le_refl _) (Nat.le_refl _)
    refine W.shrink (hz8.trans hz9) ?_
    obtain ⟨fr17, ex17, i30517, i30617, i32117, i32617, i38117, pd17, pt17, plb17, po17, rs17⟩ := hw17
    have i30517 : 0 ≤ (u18.1 0 305).toInt ∧ (u18.1 0 305).toInt ≤ 1500 := i30517
    have i30617 : 0 ≤ (u18.1 0 306).toInt ∧ (u18.1 0 306).toInt ≤ 40 := i30617
    have i32117 : 0 ≤ (u18.1 0 321).toInt ∧ (u18.1 0 321).toInt ≤ 501 := i32117
    have i32617 : 0 ≤ (u18.1 0 326).toInt ∧ (u18.1 0 326).toInt ≤ 420 := i32617
    have i38117 : 0 ≤ (u18.1 0 381).toInt ∧ (u18.1 0 381).toInt ≤ 3008 := i38117
    have pd17 : (u18.1 0 381).toInt + (u18.1 0 326).toInt - 2 * (u18.1 0 305).toInt + (1) ≤ (u2.1 0 381).toInt + (u2.1 0 326).toInt - 2 * (u2.1 0 305).toInt := pd17
    have pt17 : (u2.1 0 305).toInt + 1 ≤ (u18.1 0 305).toInt := pt17
    have plb17 : (u2.1 0 317).toInt ≤ (u18.1 0 317).toInt ∧ (u18.1 0 317).toInt - 4 * (u18.1 0 305).toInt ≤ (u2.1 0 317).toInt - 4 * (u2.1 0 305).toInt + 0 := plb17
    have po17 : (u18.1 0 306).toInt = (u2.1 0 306).toInt := po17
    have rs17 : RS u2 u18 := rs17
    refine lv_aload_n hx hb dX5_returnStat_40 rfl (lv_at hl 0 rfl) ?_
    refine va_get (D := (dC, dI)) (ci := 8) (fs := oF_X5 ad pr u18) (v := .ref (ad 901)) (C := RX5) (T := TX5) (N := 7) hx hb ht itX5 hown hK hP 3 rfl rfl 2 (by decide) (ht _ tw_573) (fun _ h9 => h9) rfl dX5_returnStat_41 ?_
    refine lv_bipush (v := 19) hx hb dX5_returnStat_44 (by decide) ?_
    refine lv_aload_n hx hb dX5_returnStat_46 rfl (lv_at hl 0 rfl) ?_
    refine va_get (D := (dC, dI)) (ci := 8) (fs := oF_X5 ad pr u18) (v := .int (u18.1 0 333)) (C := RX5) (T := TX5) (N := 7) hx hb ht itX5 hown hK hP 3 rfl rfl 6 (by decide) (ht _ tw_610) (fun _ h9 => h9) rfl dX5_returnStat_47 ?_
    refine lv_iconst (v := 0) hx hb dX5_returnStat_50 (by decide) ?_
    refine cu_v (rn_Vk (n := 3) (As := [.int 19, .int (u18.1 0 333), .int 0]) (rest := []) hx hb hml hown ht hKK hFx hP hD hS hA (c_x_X1_add l dC dI cI cB cZ cJ cR tb H.size ad pr N L1 L2 u18 (19 : Int32) (u18.1 0 333) (0 : Int32) ps (show 0 ≤ (u18.1 0 381).toInt ∧ (u18.1 0 381).toInt ≤ 3008 from (om_3f468672ac zd q13 q15 pt1 i30517 i32617 i38117 pd17)) (show pr ps = ad 908 from hps) (show (u18.1 0 310) = ps from (Eq.trans (fr17.2.1 310 (by decide)) (Eq.trans (fr1.2.1 310 (by decide)) es310))) (show (u18.1 0 381).toInt < 3008 from (om_1c00de33ae zd q13 q15 pt1 i30517 i32617 pd17))) tw_499 tw_592 (by decide +kernel) rfl rfl ⟨show 0 + 1 ≤ 8 * n + 21 from om_a43f662a07, show 8 + (5 + 11) + 0 ≤ 28 * (8 * n + 21) from om_78af4e5b79⟩ (List.range (cW ad pr N cI cR L1 L2 u18).length) (rg_map _) (nd_range _) 1 rfl rfl rfl rfl hl.1 rfl (Nat.le_of_ble_eq_true rfl) dX5_returnStat_51 ⟨Nat.le_of_ble_eq_true rfl, Nat.le_of_ble_eq_true rfl⟩) hP hD hS hA (fun u21 H locs hw20 hP hD hS => ?_)
    obtain ⟨fr20, ex20, i38120, pd20, rs20⟩ := hw20
    have i38120 : 0 ≤ (u21.1 0 381).toInt ∧ (u21.1 0 381).toInt ≤ 3008 := i38120
    have pd20 : (u21.1 0 381).toInt = (u18.1 0 381).toInt + 1 := pd20
    have rs20 : RS u18 u21 := rs20
    refine W.widen (k := 0) (n := 0) (Nat.le_refl _) (Nat.le_refl _) ?_
    refine lv_aload_n hx hb dX5_returnStat_54 rfl (lv_at hl 0 rfl) ?_
    refine va_get (D := (dC, dI)) (ci := 8) (fs := oF_X5 ad pr u21) (v := .ref (ad 900)) (C := RX5) (T := TX5) (N := 7) hx hb ht itX5 hown hK hP 3 rfl rfl 1 (by decide) (ht _ tw_571) (fun _ h9 => h9) rfl dX5_returnStat_55 ?_
    refine lv_bipush (v := 36) hx hb dX5_returnStat_58 (by decide) ?_
    have q23 : (u18.1 0 304).toInt = (u2.1 0 304).toInt := congrArg Int32.toInt ((fr17.2.1 304 (by decide)).trans (show u2.1 0 304 = (u2.1 0 304) by rfl))
    have q24 : (u21.1 0 304).toInt = (u18.1 0 304).toInt := congrArg Int32.toInt ((fr20.2.1 304 (by decide)).trans (show u18.1 0 304 = (u18.1 0 304) by rfl))
    have q25 : (u21.1 0 305).toInt = (u18.1 0 305).toInt := congrArg Int32.toInt ((fr20.2.1 305 (by decide)).trans (show u18.1 0 305 = (u18.1 0 305) by rfl))
    have q26 : (u18.1 0 373).toInt = (u2.1 0 373).toInt := congrArg Int32.toInt ((fr17.2.1 373 (by decide)).trans (show u2.1 0 373 = (u2.1 0 373) by rfl))
    have q27 : (u21.1 0 373).toInt = (u18.1 0 373).toInt := congrArg Int32.toInt ((fr20.2.1 373 (by decide)).trans (show u18.1 0 373 = (u18.1 0 373) by rfl))
    refine W.sz (fun hz9 => ?_)
    refine czx_v (rx_Vk (n := 1) (As := [.int 36]) (rest := []) hx hb hml hown ht hKK hFx hP hD hS hA (c_x_X9_expect l dC dI cI cB cZ cJ cR tb H.size ad pr N L1 L2 u21 (36 : Int32) ps (show 0 ≤ (u21.1 0 304).toInt ∧ (u21.1 0 304).toInt ≤ 1503 from (om_57e3d9ffbd z304 q4 q23 q24)) (show 0 ≤ (u21.1 0 305).toInt ∧ (u21.1 0 305).toInt ≤ 1500 from (om_b4016bf927 z305 pt1 i30517 pt17 q25)) (show 0 ≤ (u21.1 0 373).toInt ∧ (u21.1 0 373).toInt ≤ 4000 from (om_282c7f458f z373 q14 q26 q27)) (show pr ps = ad 908 from hps) (show (u21.1 0 300) = ps from (Eq.trans (fr20.2.1 300 (by decide)) (Eq.trans (fr17.2.1 300 (by decide)) (Eq.trans (fr1.2.1 300 (by decide)) es300)))) (show l.stackTraces = false from hst)) tw_526 tw_580 (by decide +kernel) rfl rfl ⟨show 7 + 1 ≤ 8 * n + 21 from om_e98b1a8fe4, show 8 + (2 + 11) + 104 ≤ 28 * (8 * n + 21) from om_70d74f4c8d⟩ (List.range (cW ad pr N cI cR L1 L2 u21).length) (rg_map _) (nd_range _) 0 rfl rfl rfl rfl hl.1 rfl (Nat.le_of_ble_eq_true rfl) dX5_returnStat_60 ⟨Nat.le_of_ble_eq_true rfl, Nat.le_of_ble_eq_true rfl⟩) hP hD hS hA (fun u9 ce9 q9 H locs hx9 hP hD hS hc9 hv9 hf9 => ?_) (fun u29 H locs hw28 hP hD hS hz8 => ?_)
    · exact vx_out (fun x h9 => (hnt x h9).elim) hlocks hc9 hv9 hf9 (fun t9 ht9 hv8 => ⟨u9, ⟨FC.tr (FC.tr (FC.tr (FC.tr (FC.rf _) (FC.up fr1 (by decide) (by decide))) (FC.up fr17 (by decide) (by decide))) (FC.up fr20 (by decide) (by decide))) hx9.1, hx9.2.1, ⟨z304, z305, z306, z312, z321, z326, z373, z381, zd, zlb, (Or.inr (⟨u2, ex1, ⟨fr1, i3051, pt1, rs1⟩, r7, ex5, (Or.inl ⟨z9, (Or.inr (⟨u18, ex17, ⟨fr17, i30517, i30617, i32117, i32617, i38117, pd17, pt17, plb17, po17, rs17⟩, u21, ex20, ⟨fr20, i38120, pd20, rs20⟩, (Or.inl ⟨u9, hx9.2.2, rfl, rfl⟩)⟩))⟩)⟩))⟩⟩, ⟨rfl, by rw [ht9]; exact hP, hD⟩, hS.F ht9⟩) hS.2.2 (Nat.le_refl _) (Nat.le_refl _)
    refine W.shrink (hz8.trans hz9) ?_
    obtain ⟨fr28, ex28, i30528, pt28, rs28⟩ := hw28
    have i30528 : 0 ≤ (u29.1 0 305).toInt ∧ (u29.1 0 305).toInt ≤ 1500 := i30528
    have pt28 : (u29.1 0 305).toInt = (u21.1 0 305).toInt + 1 := pt28
    have rs28 : RS u21 u29 := rs28
    have q31 : (u21.1 0 306).toInt = (u18.1 0 306).toInt := congrArg Int32.toInt ((fr20.2.1 306 (by decide)).trans (show u18.1 0 306 = (u18.1 0 306) by rfl))
    have q32 : (u29.1 0 306).toInt = (u21.1 0 306).toInt := congrArg Int32.toInt ((fr28.2.1 306 (by decide)).trans (show u21.1 0 306 = (u21.1 0 306) by rfl))
    have q33 : (u21.1 0 321).toInt = (u18.1 0 321).toInt := congrArg Int32.toInt ((fr20.2.1 321 (by decide)).trans (show u18.1 0 321 = (u18.1 0 321) by rfl))
    have q34 : (u29.1 0 321).toInt = (u21.1 0 321).toInt := congrArg Int32.toInt ((fr28.2.1 321 (by decide)).trans (show u21.1 0 321 = (u21.1 0 321) by rfl))
    have q35 : (u21.1 0 326).toInt = (u18.1 0 326).toInt := congrArg Int32.toInt ((fr20.2.1 326 (by decide)).trans (show u18.1 0 326 = (u18.1 0 326) by rfl))
    have q36 : (u29.1 0 326).toInt = (u21.1 0 326).toInt := congrArg Int32.toInt ((fr28.2.1 326 (by decide)).trans (show u21.1 0 326 = (u21.1 0 326) by rfl))
    have q37 : (u29.1 0 381).toInt = (u21.1 0 381).toInt := congrArg Int32.toInt ((fr28.2.1 381 (by decide)).trans (show u21.1 0 381 = (u21.1 0 381) by rfl))
    have q38 : (u21.1 0 317).toInt = (u18.1 0 317).toInt := congrArg Int32.toInt ((fr20.2.1 317 (by decide)).trans (show u18.1 0 317 = (u18.1 0 317) by rfl))
    have q39 : (u29.1 0 317).toInt = (u21.1 0 317).toInt := congrArg Int32.toInt ((fr28.2.1 317 (by decide)).trans (show u21.1 0 317 = (u21.1 0 317) by rfl))
    refine W.sz (fun hz => ?_)
    refine vx_ret ?_
    refine W.widen (k := 1) (n := 6) (Nat.le_of_ble_eq_true rfl) (Nat.le_of_ble_eq_true rfl) ?_
    exact W.vret hx hb hr (fun t ht9 hW => ⟨⟨u29, rfl, ⟨(FC.tr (FC.tr (FC.tr (FC.tr (FC.rf _) (FC.up fr1 (by decide) (by decide))) (FC.up fr17 (by decide) (by decide))) (FC.up fr20 (by decide) (by decide))) (FC.up fr28 (by decide) (by decide))), ⟨z304, z305, z306, z312, z321, z326, z373, z381, zd, zlb, (Or.inr (⟨u2, ex1, ⟨fr1, i3051, pt1, rs1⟩, r7, ex5, (Or.inl ⟨z9, (Or.inr (⟨u18, ex17, ⟨fr17, i30517, i30617, i32117, i32617, i38117, pd17, pt17, plb17, po17, rs17⟩, u21, ex20, ⟨fr20, i38120, pd20, rs20⟩, (Or.inr (⟨u29, ex28, ⟨fr28, i30528, pt28, rs28⟩, rfl, rfl⟩))⟩))⟩)⟩))⟩, (show 0 ≤ (u29.1 0 305).toInt ∧ (u29.1 0 305).toInt ≤ 1500 from (om_7897b4ccef i30528)), (show 0 ≤ (u29.1 0 306).toInt ∧ (u29.1 0 306).toInt ≤ 40 from (om_68f540929a i30617 q31 q32)), (show 0 ≤ (u29.1 0 321).toInt ∧ (u29.1 0 321).toInt ≤ 501 from (om_4dfa815534 i32117 q33 q34)), (show 0 ≤ (u29.1 0 326).toInt ∧ (u29.1 0 326).toInt ≤ 420 from (om_9591dea625 i32617 q35 q36)), (show 0 ≤ (u29.1 0 381).toInt ∧ (u29.1 0 381).toInt ≤ 3008 from (om_0d55175280 zd q13 q15 pt1 i30517 i32617 i38117 pd17 pd20 q37)), (show (u29.1 0 381).toInt + (u29.1 0 326).toInt - 2 * (u29.1 0 305).toInt + (2) ≤ (v.1 0 381).toInt + (v.1 0 326).toInt - 2 * (v.1 0 305).toInt from (om_07d2be37d0 q13 q15 pt1 pd17 q25 q35 pd20 q36 q37 pt28)), (show (v.1 0 305).toInt + 2 ≤ (u29.1 0 305).toInt from (om_c6649faf68 pt1 pt17 q25 pt28)), (show (v.1 0 317).toInt ≤ (u29.1 0 317).toInt ∧ (u29.1 0 317).toInt - 4 * (u29.1 0 305).toInt ≤ (v.1 0 317).toInt - 4 * (v.1 0 305).toInt + 0 from (om_08b7e08c09 q16 pt1 plb17 q25 q38 q39 pt28)), (show (u29.1 0 306).toInt = (v.1 0 306).toInt from (om_42b828193d q10 po17 q31 q32)), (RS.tr (RS.tr (RS.tr (RS.tr RS.rf rs1) rs17) rs20) rs28)⟩, ⟨by rw [ht9]; exact hP, hD⟩, by rw [ht9]; exact hz⟩, hS.F ht9⟩) hS.2.2 dX5_returnStat_63
  · have z40 : r7.toInt = (36 : Int) := eq_z rfl (show (36 : Int32).toInt = (36 : Int) by decide) h8
    refine lv_aload_n hx hb dX5_returnStat_19 rfl (lv_at hl 0 rfl) ?_
    refine va_get (D := (dC, dI)) (ci := 8) (fs := oF_X5 ad pr u2) (v := .ref (ad 901)) (C := RX5) (T := TX5) (N := 7) hx hb ht itX5 hown hK hP 3 rfl rfl 2 (by decide) (ht _ tw_573) (fun _ h9 => h9) rfl dX5_returnStat_20 ?_
    refine lv_iconst (v := 2) hx hb dX5_returnStat_23 (by decide) ?_
    refine lv_iconst (v := 0) hx hb dX5_returnStat_24 (by decide) ?_
    refine lv_iconst (v := 0) hx hb dX5_returnStat_25 (by decide) ?_
    have q41 : (u2.1 0 381).toInt = (v.1 0 381).toInt := congrArg Int32.toInt ((fr1.2.1 381 (by decide)).trans (show v.1 0 381 = (v.1 0 381) by rfl))
    refine cu_v (rn_Vk (n := 3) (As := [.int 2, .int 0, .int 0]) (rest := []) hx hb hml hown ht hKK hFx hP hD hS hA (c_x_X1_add l dC dI cI cB cZ cJ cR tb H.size ad pr N L1 L2 u2 (2 : Int32) (0 : Int32) (0 : Int32) ps (show 0 ≤ (u2.1 0 381).toInt ∧ (u2.1 0 381).toInt ≤ 3008 from (om_3d2979e731 z305 z326 z381 zd q41)) (show pr ps = ad 908 from hps) (show (u2.1 0 310) = ps from (Eq.trans (fr1.2.1 310 (by decide)) es310)) (show (u2.1 0 381).toInt < 3008 from (om_a7ab80defd z305 z326 zd q41))) tw_499 tw_592 (by decide +kernel) rfl rfl ⟨show 0 + 1 ≤ 8 * n + 21 from om_a43f662a07, show 8 + (5 + 11) + 0 ≤ 28 * (8 * n + 21) from om_78af4e5b79⟩ (List.range (cW ad pr N cI cR L1 L2 u2).length) (rg_map _) (nd_range _) 1 rfl rfl rfl rfl hl.1 rfl (Nat.le_of_ble_eq_true rfl) dX5_returnStat_26 ⟨Nat.le_of_ble_eq_true rfl, Nat.le_of_ble_eq_true rfl⟩) hP hD hS hA (fun u43 H locs hw42 hP hD hS => ?_)
    obtain ⟨fr42, ex42, i38142, pd42, rs42⟩ := hw42
    have i38142 : 0 ≤ (u43.1 0 381).toInt ∧ (u43.1 0 381).toInt ≤ 3008 := i38142
    have pd42 : (u43.1 0 381).toInt = (u2.1 0 381).toInt + 1 := pd42
    have rs42 : RS u2 u43 := rs42
    refine W.widen (k := 0) (n := 0) (Nat.le_refl _) (Nat.le_refl _) ?_
    refine lv_goto (tgt := 40) hx hb dX5_returnStat_29 (by decide) ?_
    refine lv_aload_n hx hb dX5_returnStat_40 rfl (lv_at hl 0 rfl) ?_
    refine va_get (D := (dC, dI)) (ci := 8) (fs := oF_X5 ad pr u43) (v := .ref (ad 901)) (C := RX5) (T := TX5) (N := 7) hx hb ht itX5 hown hK hP 3 rfl rfl 2 (by decide) (ht _ tw_573) (fun _ h9 => h9) rfl dX5_returnStat_41 ?_
    refine lv_bipush (v := 19) hx hb dX5_returnStat_44 (by decide) ?_
    refine lv_aload_n hx hb dX5_returnStat_46 rfl (lv_at hl 0 rfl) ?_
    refine va_get (D := (dC, dI)) (ci := 8) (fs := oF_X5 ad pr u43) (v := .int (u43.1 0 333)) (C := RX5) (T := TX5) (N := 7) hx hb ht itX5 hown hK hP 3 rfl rfl 6 (by decide) (ht _ tw_610) (fun _ h9 => h9) rfl dX5_returnStat_47 ?_
    refine lv_iconst (v := 0) hx hb dX5_returnStat_50 (by decide) ?_
    refine cu_v (rn_Vk (n := 3) (As := [.int 19, .int (u43.1 0 333), .int 0]) (rest := []) hx hb hml hown ht hKK hFx hP hD hS hA (c_x_X1_add l dC dI cI cB cZ cJ cR tb H.size ad pr N L1 L2 u43 (19 : Int32) (u43.1 0 333) (0 : Int32) ps (show 0 ≤ (u43.1 0 381).toInt ∧ (u43.1 0 381).toInt ≤ 3008 from (om_e6d0746439 z305 z326 zd q41 i38142 pd42)) (show pr ps = ad 908 from hps) (show (u43.1 0 310) = ps from (Eq.trans (fr42.2.1 310 (by decide)) (Eq.trans (fr1.2.1 310 (by decide)) es310))) (show (u43.1 0 381).toInt < 3008 from (om_48df14aaef z305 z326 zd q41 pd42))) tw_499 tw_592 (by decide +kernel) rfl rfl ⟨show 0 + 1 ≤ 8 * n + 21 from om_a43f662a07, show 8 + (5 + 11) + 0 ≤ 28 * (8 * n + 21) from om_78af4e5b79⟩ (List.range (cW ad pr N cI cR L1 L2 u43).length) (rg_map _) (nd_range _) 1 rfl rfl rfl rfl hl.1 rfl (Nat.le_of_ble_eq_true rfl) dX5_returnStat_51 ⟨Nat.le_of_ble_eq_true rfl, Nat.le_of_ble_eq_true rfl⟩) hP hD hS hA (fun u46 H locs hw45 hP hD hS => ?_)
    obtain ⟨fr45, ex45, i38145, pd45, rs45⟩ := hw45
    have i38145 : 0 ≤ (u46.1 0 381).toInt ∧ (u46.1 0 381).toInt ≤ 3008 := i38145
    have pd45 : (u46.1 0 381).toInt = (u43.1 0 381).toInt + 1 := pd45
    have rs45 : RS u43 u46 := rs45
    refine W.widen (k := 0) (n := 0) (Nat.le_refl _) (Nat.le_refl _) ?_
    refine lv_aload_n hx hb dX5_returnStat_54 rfl (lv_at hl 0 rfl) ?_
    refine va_get (D := (dC, dI)) (ci := 8) (fs := oF_X5 ad pr u46) (v := .ref (ad 900)) (C := RX5) (T := TX5) (N := 7) hx hb ht itX5 hown hK hP 3 rfl rfl 1 (by decide) (ht _ tw_571) (fun _ h9 => h9) rfl dX5_returnStat_55 ?_
    refine lv_bipush (v := 36) hx hb dX5_returnStat_58 (by decide) ?_
    have q48 : (u43.1 0 304).toInt = (u2.1 0 304).toInt := congrArg Int32.toInt ((fr42.2.1 304 (by decide)).trans (show u2.1 0 304 = (u2.1 0 304) by rfl))
    have q49 : (u46.1 0 304).toInt = (u43.1 0 304).toInt := congrArg Int32.toInt ((fr45.2.1 304 (by decide)).trans (show u43.1 0 304 = (u43.1 0 304) by rfl))
    have q50 : (u43.1 0 305).toInt = (u2.1 0 305).toInt := congrArg Int32.toInt ((fr42.2.1 305 (by decide)).trans (show u2.1 0 305 = (u2.1 0 305) by rfl))
    have q51 : (u46.1 0 305).toInt = (u43.1 0 305).toInt := congrArg Int32.toInt ((fr45.2.1 305 (by decide)).trans (show u43.1 0 305 = (u43.1 0 305) by rfl))
    have q52 : (u2.1 0 373).toInt = (v.1 0 373).toInt := congrArg Int32.toInt ((fr1.2.1 373 (by decide)).trans (show v.1 0 373 = (v.1 0 373) by rfl))
    have q53 : (u43.1 0 373).toInt = (u2.1 0 373).toInt := congrArg Int32.toInt ((fr42.2.1 373 (by decide)).trans (show u2.1 0 373 = (u2.1 0 373) by rfl))
    have q54 : (u46.1 0 373).toInt = (u43.1 0 373).toInt := congrArg Int32.toInt ((fr45.2.1 373 (by decide)).trans (show u43.1 0 373 = (u43.1 0 373) by rfl))
    refine W.sz (fun hz9 => ?_)
    refine czx_v (rx_Vk (n := 1) (As := [.int 36]) (rest := []) hx hb hml hown ht hKK hFx hP hD hS hA (c_x_X9_expect l dC dI cI cB cZ cJ cR tb H.size ad pr N L1 L2 u46 (36 : Int32) ps (show 0 ≤ (u46.1 0 304).toInt ∧ (u46.1 0 304).toInt ≤ 1503 from (om_57e3d9ffbd z304 q4 q48 q49)) (show 0 ≤ (u46.1 0 305).toInt ∧ (u46.1 0 305).toInt ≤ 1500 from (om_3828509495 z305 i3051 pt1 q50 q51)) (show 0 ≤ (u46.1 0 373).toInt ∧ (u46.1 0 373).toInt ≤ 4000 from (om_282c7f458f z373 q52 q53 q54)) (show pr ps = ad 908 from hps) (show (u46.1 0 300) = ps from (Eq.trans (fr45.2.1 300 (by decide)) (Eq.trans (fr42.2.1 300 (by decide)) (Eq.trans (fr1.2.1 300 (by decide)) es300)))) (show l.stackTraces = false from hst)) tw_526 tw_580 (by decide +kernel) rfl rfl ⟨show 7 + 1 ≤ 8 * n + 21 from om_e98b1a8fe4, show 8 + (2 + 11) + 104 ≤ 28 * (8 * n + 21) from om_70d74f4c8d⟩ (List.range (cW ad pr N cI cR L1 L2 u46).length) (rg_map _) (nd_range _) 0 rfl rfl rfl rfl hl.1 rfl (Nat.le_of_ble_eq_true rfl) dX5_returnStat_60 ⟨Nat.le_of_ble_eq_true rfl, Nat.le_of_ble_eq_true rfl⟩) hP hD hS hA (fun u9 ce9 q9 H locs hx9 hP hD hS hc9 hv9 hf9 => ?_) (fun u56 H locs hw55 hP hD hS hz8 => ?_)
    · exact vx_out (fun x h9 => (hnt x h9).elim) hlocks hc9 hv9 hf9 (fun t9 ht9 hv8 => ⟨u9, ⟨FC.tr (FC.tr (FC.tr (FC.tr (FC.rf _) (FC.up fr1 (by decide) (by decide))) (FC.up fr42 (by decide) (by decide))) (FC.up fr45 (by decide) (by decide))) hx9.1, hx9.2.1, ⟨z304, z305, z306, z312, z321, z326, z373, z381, zd, zlb, (Or.inr (⟨u2, ex1, ⟨fr1, i3051, pt1, rs1⟩, r7, ex5, (Or.inr (⟨z40, u43, ex42, ⟨fr42, i38142, pd42, rs42⟩, u46, ex45, ⟨fr45, i38145, pd45, rs45⟩, (Or.inl ⟨u9, hx9.2.2, rfl, rfl⟩)⟩))⟩))⟩⟩, ⟨rfl, by rw [ht9]; exact hP, hD⟩, hS.F ht9⟩) hS.2.2 (Nat.le_refl _) (Nat.le_refl _)
    refine W.shrink (hz8.trans hz9) ?_
    obtain ⟨fr55, ex55, i30555, pt55, rs55⟩ := hw55
    have i30555 : 0 ≤ (u56.1 0 305).toInt ∧ (u56.1 0 305).toInt ≤ 1500 := i30555
    have pt55 : (u56.1 0 305).toInt = (u46.1 0 305).toInt + 1 := pt55
    have rs55 : RS u46 u56 := rs55
    have q58 : (u2.1 0 306).toInt = (v.1 0 306).toInt := congrArg Int32.toInt ((fr1.2.1 306 (by decide)).trans (show v.1 0 306 = (v.1 0 306) by rfl))
    have q59 : (u43.1 0 306).toInt = (u2.1 0 306).toInt := congrArg Int32.toInt ((fr42.2.1 306 (by decide)).trans (show u2.1 0 306 = (u2.1 0 306) by rfl))
    have q60 : (u46.1 0 306).toInt = (u43.1 0 306).toInt := congrArg Int32.toInt ((fr45.2.1 306 (by decide)).trans (show u43.1 0 306 = (u43.1 0 306) by rfl))
    have q61 : (u56.1 0 306).toInt = (u46.1 0 306).toInt := congrArg Int32.toInt ((fr55.2.1 306 (by decide)).trans (show u46.1 0 306 = (u46.1 0 306) by rfl))
    have q62 : (u2.1 0 321).toInt = (v.1 0 321).toInt := congrArg Int32.toInt ((fr1.2.1 321 (by decide)).trans (show v.1 0 321 = (v.1 0 321) by rfl))
    have q63 : (u43.1 0 321).toInt = (u2.1 0 321).toInt := congrArg Int32.toInt ((fr42.2.1 321 (by decide)).trans (show u2.1 0 321 = (u2.1 0 321) by rfl))
    have q64 : (u46.1 0 321).toInt = (u43.1 0 321).toInt := congrArg Int32.toInt ((fr45.2.1 321 (by decide)).trans (show u43.1 0 321 = (u43.1 0 321) by rfl))
    have q65 : (u56.1 0 321).toInt = (u46.1 0 321).toInt := congrArg Int32.toInt ((fr55.2.1 321 (by decide)).trans (show u46.1 0 321 = (u46.1 0 321) by rfl))
    have q66 : (u2.1 0 326).toInt = (v.1 0 326).toInt := congrArg Int32.toInt ((fr1.2.1 326 (by decide)).trans (show v.1 0 326 = (v.1 0 326) by rfl))
    have q67 : (u43.1 0 326).toInt = (u2.1 0 326).toInt := congrArg Int32.toInt ((fr42.2.1 326 (by decide)).trans (show u2.1 0 326 = (u2.1 0 326) by rfl))
    have q68 : (u46.1 0 326).toInt = (u43.1 0 326).toInt := congrArg Int32.toInt ((fr45.2.1 326 (by decide)).trans (show u43.1 0 326 = (u43.1 0 326) by rfl))
    have q69 : (u56.1 0 326).toInt = (u46.1 0 326).toInt := congrArg Int32.toInt ((fr55.2.1 326 (by decide)).trans (show u46.1 0 326 = (u46.1 0 326) by rfl))
    have q70 : (u56.1 0 381).toInt = (u46.1 0 381).toInt := congrArg Int32.toInt ((fr55.2.1 381 (by decide)).trans (show u46.1 0 381 = (u46.1 0 381) by rfl))
    have q71 : (u2.1 0 317).toInt = (v.1 0 317).toInt := congrArg Int32.toInt ((fr1.2.1 317 (by decide)).trans (show v.1 0 317 = (v.1 0 317) by rfl))
    have q72 : (u43.1 0 317).toInt = (u2.1 0 317).toInt := congrArg Int32.toInt ((fr42.2.1 317 (by decide)).trans (show u2.1 0 317 = (u2.1 0 317) by rfl))
    have q73 : (u46.1 0 317).toInt = (u43.1 0 317).toInt := congrArg Int32.toInt ((fr45.2.1 317 (by decide)).trans (show u43.1 0 317 = (u43.1 0 317) by rfl))
    have q74 : (u56.1 0 317).toInt = (u46.1 0 317).toInt := congrArg Int32.toInt ((fr55.2.1 317 (by decide)).trans (show u46.1 0 317 = (u46.1 0 317) by rfl))
    refine W.sz (fun hz => ?_)
    refine vx_ret ?_
    refine W.widen (k := 1) (n := 6) (Nat.le_of_ble_eq_true rfl) (Nat.le_of_ble_eq_true rfl) ?_
    exact W.vret hx hb hr (fun t ht9 hW => ⟨⟨u56, rfl, ⟨(FC.tr (FC.tr (FC.tr (FC.tr (FC.rf _) (FC.up fr1 (by decide) (by decide))) (FC.up fr42 (by decide) (by decide))) (FC.up fr45 (by decide) (by decide))) (FC.up fr55 (by decide) (by decide))), ⟨z304, z305, z306, z312, z321, z326, z373, z381, zd, zlb, (Or.inr (⟨u2, ex1, ⟨fr1, i3051, pt1, rs1⟩, r7, ex5, (Or.inr (⟨z40, u43, ex42, ⟨fr42, i38142, pd42, rs42⟩, u46, ex45, ⟨fr45, i38145, pd45, rs45⟩, (Or.inr (⟨u56, ex55, ⟨fr55, i30555, pt55, rs55⟩, rfl, rfl⟩))⟩))⟩))⟩, (show 0 ≤ (u56.1 0 305).toInt ∧ (u56.1 0 305).toInt ≤ 1500 from (om_7897b4ccef i30555)), (show 0 ≤ (u56.1 0 306).toInt ∧ (u56.1 0 306).toInt ≤ 40 from (om_ca678151ea z306 q58 q59 q60 q61)), (show 0 ≤ (u56.1 0 321).toInt ∧ (u56.1 0 321).toInt ≤ 501 from (om_404ac90bf6 z321 q62 q63 q64 q65)), (show 0 ≤ (u56.1 0 326).toInt ∧ (u56.1 0 326).toInt ≤ 420 from (om_73f5be2f84 z326 q66 q67 q68 q69)), (show 0 ≤ (u56.1 0 381).toInt ∧ (u56.1 0 381).toInt ≤ 3008 from (om_2c7c1a0fac z326 zd q41 i3051 pt1 i38142 pd42 pd45 q70)), (show (u56.1 0 381).toInt + (u56.1 0 326).toInt - 2 * (u56.1 0 305).toInt + (2) ≤ (v.1 0 381).toInt + (v.1 0 326).toInt - 2 * (v.1 0 305).toInt from (om_ea636a3445 q66 q41 pt1 q50 q67 pd42 q51 q68 pd45 q69 q70 pt55)), (show (v.1 0 305).toInt + 2 ≤ (u56.1 0 305).toInt from (om_248d5872cb pt1 q50 q51 pt55)), (show (v.1 0 317).toInt ≤ (u56.1 0 317).toInt ∧ (u56.1 0 317).toInt - 4 * (u56.1 0 305).toInt ≤ (v.1 0 317).toInt - 4 * (v.1 0 305).toInt + 0 from (om_649fe65453 q71 pt1 q50 q72 q51 q73 q74 pt55)), (show (u56.1 0 306).toInt = (v.1 0 306).toInt from (om_42b828193d q58 q59 q60 q61)), (RS.tr (RS.tr (RS.tr (RS.tr RS.rf rs1) rs42) rs45) rs55)⟩, ⟨by rw [ht9]; exact hP, hD⟩, by rw [ht9]; exact hz⟩, hS.F ht9⟩) hS.2.2 dX5_returnStat_63
theorem om_52b4b3a962 {n0 : Nat} : 8 + 1 ≤ 8 * n0 + 21 := by omega
theorem om_7b2ca057bd {n0 : Nat} : 8 + (1 + 11) + 125 ≤ 28 * (8 * n0 + 21) := by omega
theorem om_7c3cb2d775 {x0 x1 x2 x3 x4 x5 x6 x7 : Int} (h0 : 0 ≤ x0 ∧ x0 ≤ 420) (h1 : x1 + x0 - 2 * x2 ≤ 0) (h2 : x3 = x1) (h3 : 0 ≤ x4 ∧ x4 ≤ 1500) (h4 : x4 = x2 + 1) (h5 : x5 = x3) (h6 : x6 = x5) (h7 : x7 = x6) : x7 < 3008 := by omega
theorem om_e09d6562f2 {x0 x1 x2 x3 x4 x5 x6 x7 x8 : Int} (h0 : 0 ≤ x0 ∧ x0 ≤ 420) (h1 : x1 + x0 - 2 * x2 ≤ 0) (h2 : x3 = x1) (h3 : 0 ≤ x4 ∧ x4 ≤ 1500) (h4 : x4 = x2 + 1) (h5 : x5 = x3) (h6 : x6 = x5) (h7 : x7 = x6) (h8 : x8 = x7 + 1) : x8 < 3008 := by omega
theorem om_18b17fd671 {x0 x1 x2 x3 x4 x5 x6 : Int} (h0 : 0 ≤ x0 ∧ x0 ≤ 1500) (h1 : x1 = x0 + 1) (h2 : x2 = x1) (h3 : x3 = x2) (h4 : 0 ≤ x4 ∧ x4 ≤ 1500) (h5 : x4 = x3 + 1) (h6 : x5 = x4) (h7 : x6 = x5) : 0 ≤ x6 ∧ x6 ≤ 1500 := by omega
theorem om_4d1a2a7aa0 {x0 x1 x2 x3 x4 x5 x6 x7 : Int} (h0 : 0 ≤ x0 ∧ x0 ≤ 500) (h1 : x1 = x0) (h2 : x2 = x1) (h3 : x3 = x2) (h4 : x4 = x3) (h5 : x5 = x4) (h6 : x6 = x5) (h7 : x7 = x6) : 0 ≤ x7 ∧ x7 ≤ 500 := by omega
theorem om_232385d87f {x0 x1 x2 x3 x4 x5 x6 x7 x8 : Int} (h0 : 0 ≤ x0 ∧ x0 ≤ 40) (h1 : x1 = x0) (h2 : x2 = x1) (h3 : x3 = x2) (h4 : x4 = x3) (h5 : x5 = x4) (h6 : x6 = x5) (h7 : x7 = x6) (h8 : x8 = x7) : 0 ≤ x8 ∧ x8 ≤ 40 := by omega
theorem om_0247461c80 {x0 x1 x2 x3 x4 x5 x6 x7 x8 : Int} (h0 : 0 ≤ x0 ∧ x0 ≤ 501) (h1 : x1 = x0) (h2 : x2 = x1) (h3 : x3 = x2) (h4 : x4 = x3) (h5 : x5 = x4) (h6 : x6 = x5) (h7 : x7 = x6) (h8 : x8 = x7) : 0 ≤ x8 ∧ x8 ≤ 501 := by omega
theorem om_2c0998f108 {x0 x1 x2 x3 x4 x5 x6 x7 x8 : Int} (h0 : 0 ≤ x0 ∧ x0 ≤ 420) (h1 : x1 = x0) (h2 : x2 = x1) (h3 : x3 = x2) (h4 : x4 = x3) (h5 : x5 = x4) (h6 : x6 = x5) (h7 : x7 = x6) (h8 : x8 = x7) : 0 ≤ x8 ∧ x8 ≤ 420 := by omega
theorem om_96e96a353a {x0 x1 x2 x3 x4 x5 x6 x7 x8 x9 x10 x11 : Int} (h0 : 0 ≤ x0 ∧ x0 ≤ 420) (h1 : x1 + x0 - 2 * x2 ≤ 0) (h2 : x3 = x1) (h3 : 0 ≤ x4 ∧ x4 ≤ 1500) (h4 : x4 = x2 + 1) (h5 : x5 = x3) (h6 : x6 = x5) (h7 : x7 = x6) (h8 : 0 ≤ x8 ∧ x8 ≤ 3008) (h9 : x8 = x7 + 1) (h10 : x9 = x8 + 1) (h11 : x10 = x9) (h12 : x11 = x10) : 0 ≤ x11 ∧ x11 ≤ 3008 := by omega
theorem om_d7dde0cf06 {x0 x1 x2 x3 x4 x5 x6 x7 x8 x9 x10 x11 x12 x13 x14 x15 x16 x17 x18 x19 x20 x21 x22 x23 x24 x25 x26 : Int} (h0 : x0 = x1) (h1 : x2 = x3) (h2 : x4 = x5 + 1) (h3 : x6 + x7 - 2 * x8 + (0) ≤ x2 + x0 - 2 * x4) (h4 : x9 + x10 - 2 * x11 + (0) ≤ x6 + x7 - 2 * x8) (h5 : x12 = x10) (h6 : x13 = x9) (h7 : x14 = x11 + 1) (h8 : x15 = x14) (h9 : x16 = x12) (h10 : x17 = x13 + 1) (h11 : x18 = x15) (h12 : x19 = x16) (h13 : x20 = x17 + 1) (h14 : x21 = x19) (h15 : x22 = x20) (h16 : x23 = x18 + 1) (h17 : x24 = x23) (h18 : x25 = x21) (h19 : x26 = x22) : x26 + x25 - 2 * x24 + (4) ≤ x3 + x1 - 2 * x5 := by omega
theorem om_3008b4c433 {x0 x1 x2 x3 x4 x5 x6 x7 x8 : Int} (h0 : x0 = x1 + 1) (h1 : x2 = x0) (h2 : x3 = x2) (h3 : x4 = x3 + 1) (h4 : x5 = x4) (h5 : x6 = x5) (h6 : x7 = x6 + 1) (h7 : x8 = x7) : x1 + 3 ≤ x8 := by omega
theorem om_515ec52d7c {x0 x1 x2 x3 x4 x5 x6 x7 x8 x9 x10 x11 x12 x13 x14 x15 x16 x17 : Int} (h0 : x0 = x1) (h1 : x2 = x3 + 1) (h2 : x4 = x2) (h3 : x5 = x0) (h4 : x6 = x4) (h5 : x7 = x5) (h6 : x8 = x7) (h7 : x9 = x6 + 1) (h8 : x10 = x9) (h9 : x11 = x8) (h10 : x12 = x10) (h11 : x13 = x11) (h12 : x14 = x13) (h13 : x15 = x12 + 1) (h14 : x16 = x15) (h15 : x17 = x14) : x1 ≤ x17 ∧ x17 - 4 * x16 ≤ x1 - 4 * x3 + 0 := by omega
theorem om_3adb33c98b {x0 x1 x2 x3 x4 x5 x6 x7 x8 : Int} (h0 : x0 = x1) (h1 : x2 = x0) (h2 : x3 = x2) (h3 : x4 = x3) (h4 : x5 = x4) (h5 : x6 = x5) (h6 : x7 = x6) (h7 : x8 = x7) : x8 = x1 := by omega
theorem om_b98087ba73 {x0 x1 x2 x3 x4 x5 : Int} (h0 : 0 ≤ x0 ∧ x0 ≤ 40) (h1 : x1 = x0) (h2 : x2 = x1) (h3 : x3 = x2) (h4 : x4 = x3) (h5 : x5 = x4) : 0 ≤ x5 ∧ x5 ≤ 40 := by omega
theorem om_7cf4561601 {x0 x1 x2 x3 x4 x5 : Int} (h0 : 0 ≤ x0 ∧ x0 ≤ 500) (h1 : x1 = x0) (h2 : x2 = x1) (h3 : x3 = x2) (h4 : x4 = x3) (h5 : x5 = x4) : 0 ≤ x5 ∧ x5 ≤ 500 := by omega
theorem om_d453215c2d {x0 x1 x2 x3 x4 x5 : Int} (h0 : 0 ≤ x0 ∧ x0 ≤ 420) (h1 : x1 = x0) (h2 : x2 = x1) (h3 : x3 = x2) (h4 : x4 = x3) (h5 : x5 = x4) : 0 ≤ x5 ∧ x5 ≤ 420 := by omega
theorem om_d8f6388102 {x0 x1 x2 x3 x4 x5 x6 x7 x8 x9 x10 x11 x12 x13 x14 x15 x16 x17 : Int} (h0 : x0 + x1 - 2 * x2 ≤ 0) (h1 : x3 = x1) (h2 : x4 = x0) (h3 : x5 = x2 + 1) (h4 : x6 + x7 - 2 * x8 + (0) ≤ x4 + x3 - 2 * x5) (h5 : x9 + x10 - 2 * x11 + (0) ≤ x6 + x7 - 2 * x8) (h6 : x12 = x10) (h7 : x13 = x9) (h8 : x14 = x11 + 1) (h9 : x15 = x12) (h10 : x16 = x13) (h11 : x17 = x14 + 1) : x16 + x15 - 2 * x17 ≤ 0 := by omega
theorem om_c4d169d803 {x0 x1 x2 x3 x4 x5 x6 x7 x8 x9 x10 x11 : Int} (h0 : 0 ≤ x0 ∧ x0 - 4 * x1 ≤ 8) (h1 : x2 = x0) (h2 : x3 = x1 + 1) (h3 : x4 = x3) (h4 : x5 = x2) (h5 : x6 = x4) (h6 : x7 = x5) (h7 : x8 = x7) (h8 : x9 = x6 + 1) (h9 : x10 = x8) (h10 : x11 = x9 + 1) : 0 ≤ x10 ∧ x10 - 4 * x11 ≤ 8 := by omega
theorem om_3d712bc99e {x0 x2 x3 x4 x5 x6 : Int} {n1 : Nat} (h0 : 40 ≤ x0 + (n1 : Int)) (h1 : x2 = x0) (h2 : x3 = x2) (h3 : x4 = x3) (h4 : x5 = x4) (h5 : x6 = x5) : 40 ≤ x6 + (n1 : Int) := by omega
theorem om_a1e6461280 {x0 x1 x2 x3 x4 x5 x6 x7 x8 x9 x10 x11 x12 x13 x14 x15 x16 x17 x18 x19 x20 : Int} (h0 : x0 + x1 - 2 * x2 ≤ 0) (h1 : x3 = x1) (h2 : x4 = x0) (h3 : x5 = x2 + 1) (h4 : x6 + x7 - 2 * x8 + (0) ≤ x4 + x3 - 2 * x5) (h5 : x9 + x10 - 2 * x11 + (0) ≤ x6 + x7 - 2 * x8) (h6 : x12 = x10) (h7 : x13 = x9) (h8 : x14 = x11 + 1) (h9 : x15 = x12) (h10 : x16 = x13) (h11 : x17 = x14 + 1) (h12 : 0 ≤ x18 ∧ x18 ≤ 1500) (h13 : 0 ≤ x19 ∧ x19 ≤ 420) (h14 : x20 + x19 - 2 * x18 + (1) ≤ x16 + x15 - 2 * x17) : x20 < 3008 := by omega
theorem om_317e2e954a {x0 x1 x2 x3 x4 x5 x6 x7 : Int} (h0 : 0 ≤ x0 ∧ x0 ≤ 1503) (h1 : x1 = x0) (h2 : x2 = x1) (h3 : x3 = x2) (h4 : x4 = x3) (h5 : x5 = x4) (h6 : x6 = x5) (h7 : x7 = x6) : 0 ≤ x7 ∧ x7 ≤ 1503 := by omega
theorem om_749f4b17c8 {x0 x1 x2 x3 x4 x5 x6 x7 : Int} (h0 : 0 ≤ x0 ∧ x0 ≤ 4000) (h1 : x1 = x0) (h2 : x2 = x1) (h3 : x3 = x2) (h4 : x4 = x3) (h5 : x5 = x4) (h6 : x6 = x5) (h7 : x7 = x6) : 0 ≤ x7 ∧ x7 ≤ 4000 := by omega
theorem om_bce9b4a777 {x0 x1 x2 x3 x4 x5 : Int} (h0 : 0 ≤ x0 ∧ x0 ≤ 1500) (h1 : x1 = x0 + 1) (h2 : x1 + 1 ≤ x2) (h3 : x3 = x2) (h4 : 0 ≤ x4 ∧ x4 ≤ 1500) (h5 : x4 = x3 + 1) (h6 : x5 = x4) : 0 ≤ x5 ∧ x5 ≤ 1500 := by omega
theorem om_a1347ca652 {x0 x1 x2 x3 x4 x5 x6 x7 x8 x9 x10 x11 x12 x13 x14 x15 x16 x17 x18 x19 x20 x21 x22 x23 : Int} (h0 : x0 + x1 - 2 * x2 ≤ 0) (h1 : x3 = x1) (h2 : x4 = x0) (h3 : x5 = x2 + 1) (h4 : x6 + x7 - 2 * x8 + (0) ≤ x4 + x3 - 2 * x5) (h5 : x9 + x10 - 2 * x11 + (0) ≤ x6 + x7 - 2 * x8) (h6 : x12 = x10) (h7 : x13 = x9) (h8 : x14 = x11 + 1) (h9 : x15 = x12) (h10 : x16 = x13) (h11 : x17 = x14 + 1) (h12 : 0 ≤ x18 ∧ x18 ≤ 1500) (h13 : 0 ≤ x19 ∧ x19 ≤ 420) (h14 : 0 ≤ x20 ∧ x20 ≤ 3008) (h15 : x20 + x19 - 2 * x18 + (1) ≤ x16 + x15 - 2 * x17) (h16 : x21 = x20 + 1) (h17 : x22 = x21) (h18 : x23 = x22) : 0 ≤ x23 ∧ x23 ≤ 3008 := by omega
theorem om_d2e595eec9 {x0 x1 x2 x3 x4 x5 x6 x7 x8 x9 x10 x11 x12 x13 x14 x15 x16 x17 x18 x19 x20 x21 x22 x23 x24 x25 x26 x27 x28 x29 : Int} (h0 : x0 = x1) (h1 : x2 = x3) (h2 : x4 = x5 + 1) (h3 : x6 + x7 - 2 * x8 + (0) ≤ x2 + x0 - 2 * x4) (h4 : x9 + x10 - 2 * x11 + (0) ≤ x6 + x7 - 2 * x8) (h5 : x12 = x10) (h6 : x13 = x9) (h7 : x14 = x11 + 1) (h8 : x15 = x12) (h9 : x16 = x13) (h10 : x17 = x14 + 1) (h11 : x18 + x19 - 2 * x20 + (1) ≤ x16 + x15 - 2 * x17) (h12 : x21 = x20) (h13 : x22 = x19) (h14 : x23 = x18 + 1) (h15 : x24 = x22) (h16 : x25 = x23) (h17 : x26 = x21 + 1) (h18 : x27 = x26) (h19 : x28 = x24) (h20 : x29 = x25) : x29 + x28 - 2 * x27 + (4) ≤ x3 + x1 - 2 * x5 := by omega
theorem om_2b3810b07c {x0 x1 x2 x3 x4 x5 x6 x7 x8 x9 : Int} (h0 : x0 = x1 + 1) (h1 : x2 = x0) (h2 : x3 = x2) (h3 : x4 = x3 + 1) (h4 : x5 = x4 + 1) (h5 : x5 + 1 ≤ x6) (h6 : x7 = x6) (h7 : x8 = x7 + 1) (h8 : x9 = x8) : x1 + 3 ≤ x9 := by omega
theorem om_1a38ed0495 {x0 x1 x2 x3 x4 x5 x6 x7 x8 x9 x10 x11 x12 x13 x14 x15 x16 x17 x18 x19 : Int} (h0 : x0 = x1) (h1 : x2 = x3 + 1) (h2 : x4 = x2) (h3 : x5 = x0) (h4 : x6 = x4) (h5 : x7 = x5) (h6 : x8 = x7) (h7 : x9 = x6 + 1) (h8 : x10 = x8) (h9 : x11 = x9 + 1) (h10 : x10 ≤ x12 ∧ x12 - 4 * x13 ≤ x10 - 4 * x11 + 0) (h11 : x14 = x13) (h12 : x15 = x12) (h13 : x16 = x15) (h14 : x17 = x14 + 1) (h15 : x18 = x17) (h16 : x19 = x16) : x1 ≤ x19 ∧ x19 - 4 * x18 ≤ x1 - 4 * x3 + 0 := by omega
theorem om_0c8fea9952 {x0 x1 x2 x3 x4 x5 x6 x7 x8 x9 : Int} (h0 : x0 = x1) (h1 : x2 = x0) (h2 : x3 = x2) (h3 : x4 = x3) (h4 : x5 = x4) (h5 : x6 = x5) (h6 : x7 = x6) (h7 : x8 = x7) (h8 : x9 = x8) : x9 = x1 := by omega
set_option maxHeartbeats 16000000 in
set_option maxRecDepth 100000 in
theorem c_x_X5_local (l : Launch) (n : Nat) (dC : Nat → ClassId) (dI : Nat → Nat → Nat) (cI cB cZ cJ cR : ClassId) (tb : Nat → Nat) (sz : Nat) (ad : Nat → Nat) (pr : Int32 → Nat) (N : Nat) (L1 L2 : List Nat) (v : MS) (ps : Int32) (z304 : 0 ≤ (v.1 0 304).toInt ∧ (v.1 0 304).toInt ≤ 1503) (z305 : 0 ≤ (v.1 0 305).toInt ∧ (v.1 0 305).toInt ≤ 1500) (z306 : 0 ≤ (v.1 0 306).toInt ∧ (v.1 0 306).toInt ≤ 40) (z312 : 0 ≤ (v.1 0 312).toInt ∧ (v.1 0 312).toInt ≤ 500) (z321 : 0 ≤ (v.1 0 321).toInt ∧ (v.1 0 321).toInt ≤ 501) (z326 : 0 ≤ (v.1 0 326).toInt ∧ (v.1 0 326).toInt ≤ 420) (z373 : 0 ≤ (v.1 0 373).toInt ∧ (v.1 0 373).toInt ≤ 4000) (z381 : 0 ≤ (v.1 0 381).toInt ∧ (v.1 0 381).toInt ≤ 3008) (hL1 : L1.length = 40) (hL2 : L2.length = 60) (rp : RP v) (hps : pr ps = ad 908) (es300 : (v.1 0 300) = ps) (es310 : (v.1 0 310) = ps) (hst : l.stackTraces = false) (zd : (v.1 0 381).toInt + (v.1 0 326).toInt - 2 * (v.1 0 305).toInt ≤ 0) (zlb : 0 ≤ (v.1 0 317).toInt ∧ (v.1 0 317).toInt - 4 * (v.1 0 305).toInt ≤ 8) (zn : 40 ≤ (v.1 0 306).toInt + (n : Int)) : vx_Met l yX5_local (Cond.code yX5_local cX5_local 3 none :: tw_W) ({ frames := 8 * n + 21, cells := 1, slots := 6, locals := 28 * (8 * n + 21) }) (pc_ (dC, dI) (tyS cI cB cZ cJ cR) tb (cW ad pr N cI cR L1 L2 v) sz [.ref (ad 903)]) (qvz_ (dC, dI) (cW ad pr N cI cR L1 L2 v) sz (fun (u : MS) => FC [305, 306, 307, 312, 314, 315, 317, 321, 326, 381] [0, 311, 316, 318, 319, 320, 324, 325, 378, 379, 380] v u ∧ (Q_x_X5_local L1 L2 n v false u) ∧ (0 ≤ (u.1 0 305).toInt ∧ (u.1 0 305).toInt ≤ 1500) ∧ (0 ≤ (u.1 0 306).toInt ∧ (u.1 0 306).toInt ≤ 40) ∧ (0 ≤ (u.1 0 312).toInt ∧ (u.1 0 312).toInt ≤ 500) ∧ (0 ≤ (u.1 0 321).toInt ∧ (u.1 0 321).toInt ≤ 501) ∧ (0 ≤ (u.1 0 326).toInt ∧ (u.1 0 326).toInt ≤ 420) ∧ (0 ≤ (u.1 0 381).toInt ∧ (u.1 0 381).toInt ≤ 3008) ∧ ((u.1 0 381).toInt + (u.1 0 326).toInt - 2 * (u.1 0 305).toInt + (4) ≤ (v.1 0 381).toInt + (v.1 0 326).toInt - 2 * (v.1 0 305).toInt) ∧ ((v.1 0 305).toInt + 3 ≤ (u.1 0 305).toInt) ∧ ((v.1 0 317).toInt ≤ (u.1 0 317).toInt ∧ (u.1 0 317).toInt - 4 * (u.1 0 305).toInt ≤ (v.1 0 317).toInt - 4 * (v.1 0 305).toInt + 0) ∧ ((u.1 0 306).toInt = (v.1 0 306).toInt) ∧ (RS v u)) (fun (u : MS) => (cW ad pr N cI cR L1 L2 u))) (qxc (dC, dI) (cW ad pr N cI cR L1 L2 v) sz (fun (u : MS) => (cW ad pr N cI cR L1 L2 u)) (fun (u : MS) => FC xfl xal v u ∧ (u.1 0 308).toInt ≠ 0 ∧ (Q_x_X5_local L1 L2 n v true u))) 1 6 (va_A (cW ad pr N cI cR L1 L2 v) sz) := by
  refine vx_ofW (cc := cX5_local) (maxL := 3) (ret := none) (by decide) rfl ?_
  intro p e s m args below meth c s₁ B hml hnt hv
  obtain ⟨rfl, hsz, hP, hKK, hD0, hFx⟩ := hv
  have hK := hKK.1
  have hx := B.exec
  have hb := B.bytes
  have hr := B.returns
  have ht : ∀ w ∈ tw_W, w.before _ s = true := fun w h => atoms_spec (ws := Cond.code yX5_local cX5_local 3 none :: tw_W) B.pre w (List.mem_cons_of_mem _ h)
  have hown : s.vm.findClass RX5 = some m.cls := findClass_of_methodNamed B.named
  have hlocks := B.notSynchronized
  subst hsz
  unfold qvz_ qxc
  have hD := hD0.self (sz := s.heap.size)
  generalize hAe : va_A (cW ad pr N cI cR L1 L2 v) s.heap.size = A at hD hFx ⊢
  have hA : ∀ q : Nat, s.heap.size ≤ q → A q := fun q h => by rw [← hAe]; exact Or.inr h
  have hS : va_S A s.heap s.heap [] := va_S.rf
  have hl := lv_entry ([.ref (ad 903)]) (n := 3) (Nat.le_of_ble_eq_true rfl)
  rw [lg_entry_eq]
  generalize (lg_sl ([.ref (ad 903)]) ++ List.replicate (3 - (lg_sl ([.ref (ad 903)])).length) Slot.unset).toArray = ls at hl ⊢
  have hl : lv_has ls 3 [(0, .ref (ad 903))] := hl
  refine lv_aload_n hx hb dX5_local_0 rfl (lv_at hl 0 rfl) ?_
  refine va_get (D := (dC, dI)) (ci := 8) (fs := oF_X5 ad pr v) (v := .ref (ad 900)) (C := RX5) (T := TX5) (N := 7) hx hb ht itX5 hown hK hP 3 rfl rfl 1 (by decide) (ht _ tw_571) (fun _ h9 => h9) rfl dX5_local_1 ?_
  refine W.sz (fun hz9 => ?_)
  refine czx_v (rx_Vk (n := 0) (As := []) (rest := []) hx hb hml hown ht hKK hFx hP hD hS hA (c_x_X9_take l dC dI cI cB cZ cJ cR tb s.heap.size ad pr N L1 L2 v ps (show 0 ≤ (v.1 0 304).toInt ∧ (v.1 0 304).toInt ≤ 1503 from (om_c99648273b z304)) (show 0 ≤ (v.1 0 305).toInt ∧ (v.1 0 305).toInt ≤ 1500 from (om_7897b4ccef z305)) (show 0 ≤ (v.1 0 373).toInt ∧ (v.1 0 373).toInt ≤ 4000 from (om_c74a68af25 z373)) (show pr ps = ad 908 from hps) (show (v.1 0 300) = ps from es300) (show l.stackTraces = false from hst)) tw_539 tw_585 (by decide +kernel) rfl rfl ⟨show 7 + 1 ≤ 8 * n + 21 from om_e98b1a8fe4, show 8 + (1 + 11) + 104 ≤ 28 * (8 * n + 21) from om_84edb096fe⟩ (List.range (cW ad pr N cI cR L1 L2 v).length) (rg_map _) (nd_range _) 0 rfl rfl rfl rfl hl.1 rfl (Nat.le_of_ble_eq_true rfl) dX5_local_4 ⟨Nat.le_of_ble_eq_true rfl, Nat.le_of_ble_eq_true rfl⟩) hP hD hS hA (fun u9 ce9 q9 H locs hx9 hP hD hS hc9 hv9 hf9 => ?_) (fun u2 H locs hw1 hP hD hS hz8 => ?_)
  · exact vx_out (fun x h9 => (hnt x h9).elim) hlocks hc9 hv9 hf9 (fun t9 ht9 hv8 => ⟨u9, ⟨FC.tr (FC.rf _) hx9.1, hx9.2.1, ⟨z304, z305, z306, z312, z321, z326, z373, z381, zd, zlb, (Or.inl ⟨u9, hx9.2.2, rfl, rfl⟩)⟩⟩, ⟨rfl, by rw [ht9]; exact hP, hD⟩, hS.F ht9⟩) hS.2.2 (Nat.le_refl _) (Nat.le_refl _)
  refine W.shrink (hz8.trans hz9) ?_
  obtain ⟨fr1, ex1, i3051, pt1, rs1⟩ := hw1
  refine lv_aload_n hx hb dX5_local_7 rfl (lv_at hl 0 rfl) ?_
  have q4 : (u2.1 0 304).toInt = (v.1 0 304).toInt := congrArg Int32.toInt ((fr1.2.1 304 (by decide)).trans (show v.1 0 304 = (v.1 0 304) by rfl))
  have q5 : (u2.1 0 312).toInt = (v.1 0 312).toInt := congrArg Int32.toInt ((fr1.2.1 312 (by decide)).trans (show v.1 0 312 = (v.1 0 312) by rfl))
  have q6 : (u2.1 0 326).toInt = (v.1 0 326).toInt := congrArg Int32.toInt ((fr1.2.1 326 (by decide)).trans (show v.1 0 326 = (v.1 0 326) by rfl))
  have q7 : (u2.1 0 373).toInt = (v.1 0 373).toInt := congrArg Int32.toInt ((fr1.2.1 373 (by decide)).trans (show v.1 0 373 = (v.1 0 373) by rfl))
  have q8 : (u2.1 0 381).toInt = (v.1 0 381).toInt := congrArg Int32.toInt ((fr1.2.1 381 (by decide)).trans (show v.1 0 381 = (v.1 0 381) by rfl))
  refine W.sz (fun hz9 => ?_)
  refine czx_i (rx_Vk (n := 0) (As := []) (rest := []) hx hb hml hown ht hKK hFx hP hD hS hA (c_x_X5_newName l dC dI cI cB cZ cJ cR tb H.size ad pr N L1 L2 u2 ps (show 0 ≤ (u2.1 0 304).toInt ∧ (u2.1 0 304).toInt ≤ 1503 from (om_73002589c1 z304 q4)) (show 0 ≤ (u2.1 0 305).toInt ∧ (u2.1 0 305).toInt ≤ 1500 from (om_89213937cb z305 i3051 pt1)) (show 0 ≤ (u2.1 0 312).toInt ∧ (u2.1 0 312).toInt ≤ 500 from (om_f8376ff89c z312 q5)) (show 0 ≤ (u2.1 0 326).toInt ∧ (u2.1 0 326).toInt ≤ 420 from (om_8ed0dedb19 z326 q6)) (show 0 ≤ (u2.1 0 373).toInt ∧ (u2.1 0 373).toInt ≤ 4000 from (om_9084c127ed z373 q7)) (show 0 ≤ (u2.1 0 381).toInt ∧ (u2.1 0 381).toInt ≤ 3008 from (om_3d2979e731 z305 z326 z381 zd q8)) (show pr ps = ad 908 from hps) (show (u2.1 0 300) = ps from (Eq.trans (fr1.2.1 300 (by decide)) es300)) (show l.stackTraces = false from hst) (show (u2.1 0 381).toInt + (u2.1 0 326).toInt - 2 * (u2.1 0 305).toInt ≤ 0 from (om_27b720c3fb zd q6 q8 pt1))) tw_581 tw_582 (by decide +kernel) rfl rfl ⟨show 8 + 1 ≤ 8 * n + 21 from om_52b4b3a962, show 8 + (1 + 11) + 125 ≤ 28 * (8 * n + 21) from om_7b2ca057bd⟩ (List.range (cW ad pr N cI cR L1 L2 u2).length) (rg_map _) (nd_range _) 3 rfl rfl rfl rfl hl.1 rfl (Nat.le_of_ble_eq_true rfl) dX5_local_8 ⟨Nat.le_of_ble_eq_true rfl, Nat.le_of_ble_eq_true rfl⟩) hP hD hS hA (fun u9 ce9 q9 H locs hx9 hP hD hS hc9 hv9 hf9 => ?_) (fun r11 u10 H locs hw9 hP hD hS hz8 => ?_)
  · exact vx_out (fun x h9 => (hnt x h9).elim) hlocks hc9 hv9 hf9 (fun t9 ht9 hv8 => ⟨u9, ⟨FC.tr (FC.tr (FC.rf _) (FC.up fr1 (by decide) (by decide))) hx9.1, hx9.2.1, ⟨z304, z305, z306, z312, z321, z326, z373, z381, zd, zlb, (Or.inr (⟨u2, ex1, ⟨fr1, i3051, pt1, rs1⟩, (Or.inl ⟨u9, hx9.2.2, rfl, rfl⟩)⟩))⟩⟩, ⟨rfl, by rw [ht9]; exact hP, hD⟩, hS.F ht9⟩) hS.2.2 (Nat.le_refl _) (Nat.le_refl _)
  refine W.shrink (hz8.trans hz9) ?_
  obtain ⟨fr9, ex9, pd9, rs9⟩ := hw9
  have pd9 : (u10.1 0 381).toInt + (u10.1 0 326).toInt - 2 * (u10.1 0 305).toInt + (0) ≤ (u2.1 0 381).toInt + (u2.1 0 326).toInt - 2 * (u2.1 0 305).toInt := pd9
  have rs9 : RS u2 u10 := rs9
  refine lv_istore_n (lv' := [(1, .int r11), (0, .ref (ad 903))]) hx hb dX5_local_11 rfl hl (by decide) rfl (fun ls hl => ?_)
  refine lv_aload_n hx hb dX5_local_12 rfl (lv_at hl 1 rfl) ?_
  have q12 : (u10.1 0 304).toInt = (u2.1 0 304).toInt := congrArg Int32.toInt ((fr9.2.1 304 (by decide)).trans (show u2.1 0 304 = (u2.1 0 304) by rfl))
  have q13 : (u10.1 0 305).toInt = (u2.1 0 305).toInt := congrArg Int32.toInt ((fr9.2.1 305 (by decide)).trans (show u2.1 0 305 = (u2.1 0 305) by rfl))
  have q14 : (u10.1 0 312).toInt = (u2.1 0 312).toInt := congrArg Int32.toInt ((fr9.2.1 312 (by decide)).trans (show u2.1 0 312 = (u2.1 0 312) by rfl))
  have q15 : (u10.1 0 326).toInt = (u2.1 0 326).toInt := congrArg Int32.toInt ((fr9.2.1 326 (by decide)).trans (show u2.1 0 326 = (u2.1 0 326) by rfl))
  have q16 : (u10.1 0 373).toInt = (u2.1 0 373).toInt := congrArg Int32.toInt ((fr9.2.1 373 (by decide)).trans (show u2.1 0 373 = (u2.1 0 373) by rfl))
  have q17 : (u10.1 0 381).toInt = (u2.1 0 381).toInt := congrArg Int32.toInt ((fr9.2.1 381 (by decide)).trans (show u2.1 0 381 = (u2.1 0 381) by rfl))
  refine W.sz (fun hz9 => ?_)
  refine czx_v (rx_Vk (n := 0) (As := []) (rest := []) hx hb hml hown ht hKK hFx hP hD hS hA (c_x_X5_wantSlot l dC dI cI cB cZ cJ cR tb H.size ad pr N L1 L2 u10 ps (show 0 ≤ (u10.1 0 304).toInt ∧ (u10.1 0 304).toInt ≤ 1503 from (om_dd87ee851a z304 q4 q12)) (show 0 ≤ (u10.1 0 305).toInt ∧ (u10.1 0 305).toInt ≤ 1500 from (om_570f2378f1 z305 i3051 pt1 q13)) (show 0 ≤ (u10.1 0 312).toInt ∧ (u10.1 0 312).toInt ≤ 500 from (om_8a5975ec21 z312 q5 q14)) (show 0 ≤ (u10.1 0 326).toInt ∧ (u10.1 0 326).toInt ≤ 420 from (om_9591dea625 z326 q6 q15)) (show 0 ≤ (u10.1 0 373).toInt ∧ (u10.1 0 373).toInt ≤ 4000 from (om_03cd8767ac z373 q7 q16)) (show 0 ≤ (u10.1 0 381).toInt ∧ (u10.1 0 381).toInt ≤ 3008 from (om_38c323128c z305 z326 z381 zd q8 q17)) (show pr ps = ad 908 from hps) (show (u10.1 0 300) = ps from (Eq.trans (fr9.2.1 300 (by decide)) (Eq.trans (fr1.2.1 300 (by decide)) es300))) (show l.stackTraces = false from hst) (show (u10.1 0 381).toInt + (u10.1 0 326).toInt - 2 * (u10.1 0 305).toInt ≤ 0 from (om_48f837955d zd q6 q8 pt1 pd9))) tw_583 tw_584 (by decide +kernel) rfl rfl ⟨show 7 + 1 ≤ 8 * n + 21 from om_e98b1a8fe4, show 8 + (1 + 11) + 104 ≤ 28 * (8 * n + 21) from om_84edb096fe⟩ (List.range (cW ad pr N cI cR L1 L2 u10).length) (rg_map _) (nd_range _) 3 rfl rfl rfl rfl hl.1 rfl (Nat.le_of_ble_eq_true rfl) dX5_local_13 ⟨Nat.le_of_ble_eq_true rfl, Nat.le_of_ble_eq_true rfl⟩) hP hD hS hA (fun u9 ce9 q9 H locs hx9 hP hD hS hc9 hv9 hf9 => ?_) (fun u19 H locs hw18 hP hD hS hz8 => ?_)
  · exact vx_out (fun x h9 => (hnt x h9).elim) hlocks hc9 hv9 hf9 (fun t9 ht9 hv8 => ⟨u9, ⟨FC.tr (FC.tr (FC.tr (FC.rf _) (FC.up fr1 (by decide) (by decide))) (FC.up fr9 (by decide) (by decide))) hx9.1, hx9.2.1, ⟨z304, z305, z306, z312, z321, z326, z373, z381, zd, zlb, (Or.inr (⟨u2, ex1, ⟨fr1, i3051, pt1, rs1⟩, (Or.inr (⟨r11, u10, ex9, ⟨fr9, pd9, rs9⟩, (Or.inl ⟨u9, hx9.2.2, rfl, rfl⟩)⟩))⟩))⟩⟩, ⟨rfl, by rw [ht9]; exact hP, hD⟩, hS.F ht9⟩) hS.2.2 (Nat.le_refl _) (Nat.le_refl _)
  refine W.shrink (hz8.trans hz9) ?_
  obtain ⟨fr18, ex18, pd18, rs18⟩ := hw18
  have pd18 : (u19.1 0 381).toInt + (u19.1 0 326).toInt - 2 * (u19.1 0 305).toInt + (0) ≤ (u10.1 0 381).toInt + (u10.1 0 326).toInt - 2 * (u10.1 0 305).toInt := pd18
  have rs18 : RS u10 u19 := rs18
  refine lv_aload_n hx hb dX5_local_16 rfl (lv_at hl 1 rfl) ?_
  refine va_get (D := (dC, dI)) (ci := 8) (fs := oF_X5 ad pr u19) (v := .ref (ad 901)) (C := RX5) (T := TX5) (N := 7) hx hb ht itX5 hown hK hP 3 rfl rfl 2 (by decide) (ht _ tw_573) (fun _ h9 => h9) rfl dX5_local_17 ?_
  have q21 : (u19.1 0 312).toInt = (u10.1 0 312).toInt := congrArg Int32.toInt ((fr18.2.1 312 (by decide)).trans (show u10.1 0 312 = (u10.1 0 312) by rfl))
  refine cu_i (rn_Vk (n := 0) (As := []) (rest := []) hx hb hml hown ht hKK hFx hP hD hS hA (c_x_X1_nextSlot l dC dI cI cB cZ cJ cR tb H.size ad pr N L1 L2 u19  (show 0 ≤ (u19.1 0 312).toInt ∧ (u19.1 0 312).toInt ≤ 500 from (om_a369f3fea6 z312 q5 q14 q21))) tw_505 tw_611 (by decide +kernel) rfl rfl ⟨show 0 + 1 ≤ 8 * n + 21 from om_a43f662a07, show 8 + (1 + 11) + 0 ≤ 28 * (8 * n + 21) from om_9f2e4fbaf3⟩ (List.range (cW ad pr N cI cR L1 L2 u19).length) (rg_map _) (nd_range _) 1 rfl rfl rfl rfl hl.1 rfl (Nat.le_of_ble_eq_true rfl) dX5_local_20 ⟨Nat.le_of_ble_eq_true rfl, Nat.le_of_ble_eq_true rfl⟩) hP hD hS hA (fun r24 u23 H locs hw22 hP hD hS => ?_)
  obtain ⟨rfl, ex22⟩ := hw22
  refine W.widen (k := 0) (n := 0) (Nat.le_refl _) (Nat.le_refl _) ?_
  refine lv_istore_n (lv' := [(2, .int r24), (1, .int r11), (0, .ref (ad 903))]) hx hb dX5_local_23 rfl hl (by decide) rfl (fun ls hl => ?_)
  refine lv_aload_n hx hb dX5_local_24 rfl (lv_at hl 2 rfl) ?_
  refine va_get (D := (dC, dI)) (ci := 8) (fs := oF_X5 ad pr u19) (v := .ref (ad 900)) (C := RX5) (T := TX5) (N := 7) hx hb ht itX5 hown hK hP 3 rfl rfl 1 (by decide) (ht _ tw_571) (fun _ h9 => h9) rfl dX5_local_25 ?_
  have q25 : (u19.1 0 304).toInt = (u10.1 0 304).toInt := congrArg Int32.toInt ((fr18.2.1 304 (by decide)).trans (show u10.1 0 304 = (u10.1 0 304) by rfl))
  have q26 : (u19.1 0 305).toInt = (u10.1 0 305).toInt := congrArg Int32.toInt ((fr18.2.1 305 (by decide)).trans (show u10.1 0 305 = (u10.1 0 305) by rfl))
  have q27 : (u19.1 0 373).toInt = (u10.1 0 373).toInt := congrArg Int32.toInt ((fr18.2.1 373 (by decide)).trans (show u10.1 0 373 = (u10.1 0 373) by rfl))
  refine W.sz (fun hz9 => ?_)
  refine czx_v (rx_Vk (n := 0) (As := []) (rest := []) hx hb hml hown ht hKK hFx hP hD hS hA (c_x_X9_take l dC dI cI cB cZ cJ cR tb H.size ad pr N L1 L2 u19 ps (show 0 ≤ (u19.1 0 304).toInt ∧ (u19.1 0 304).toInt ≤ 1503 from (om_57e3d9ffbd z304 q4 q12 q25)) (show 0 ≤ (u19.1 0 305).toInt ∧ (u19.1 0 305).toInt ≤ 1500 from (om_3828509495 z305 i3051 pt1 q13 q26)) (show 0 ≤ (u19.1 0 373).toInt ∧ (u19.1 0 373).toInt ≤ 4000 from (om_282c7f458f z373 q7 q16 q27)) (show pr ps = ad 908 from hps) (show (u19.1 0 300) = ps from (Eq.trans (fr18.2.1 300 (by decide)) (Eq.trans (fr9.2.1 300 (by decide)) (Eq.trans (fr1.2.1 300 (by decide)) es300)))) (show l.stackTraces = false from hst)) tw_539 tw_585 (by decide +kernel) rfl rfl ⟨show 7 + 1 ≤ 8 * n + 21 from om_e98b1a8fe4, show 8 + (1 + 11) + 104 ≤ 28 * (8 * n + 21) from om_84edb096fe⟩ (List.range (cW ad pr N cI cR L1 L2 u19).length) (rg_map _) (nd_range _) 0 rfl rfl rfl rfl hl.1 rfl (Nat.le_of_ble_eq_true rfl) dX5_local_28 ⟨Nat.le_of_ble_eq_true rfl, Nat.le_of_ble_eq_true rfl⟩) hP hD hS hA (fun u9 ce9 q9 H locs hx9 hP hD hS hc9 hv9 hf9 => ?_) (fun u29 H locs hw28 hP hD hS hz8 => ?_)
  · exact vx_out (fun x h9 => (hnt x h9).elim) hlocks hc9 hv9 hf9 (fun t9 ht9 hv8 => ⟨u9, ⟨FC.tr (FC.tr (FC.tr (FC.tr (FC.rf _) (FC.up fr1 (by decide) (by decide))) (FC.up fr9 (by decide) (by decide))) (FC.up fr18 (by decide) (by decide))) hx9.1, hx9.2.1, ⟨z304, z305, z306, z312, z321, z326, z373, z381, zd, zlb, (Or.inr (⟨u2, ex1, ⟨fr1, i3051, pt1, rs1⟩, (Or.inr (⟨r11, u10, ex9, ⟨fr9, pd9, rs9⟩, (Or.inr (⟨u19, ex18, ⟨fr18, pd18, rs18⟩, r24, ex22, (Or.inl ⟨u9, hx9.2.2, rfl, rfl⟩)⟩))⟩))⟩))⟩⟩, ⟨rfl, by rw [ht9]; exact hP, hD⟩, hS.F ht9⟩) hS.2.2 (Nat.le_refl _) (Nat.le_refl _)
  refine W.shrink (hz8.trans hz9) ?_
  obtain ⟨fr28, ex28, i30528, pt28, rs28⟩ := hw28
  have i30528 : 0 ≤ (u29.1 0 305).toInt ∧ (u29.1 0 305).toInt ≤ 1500 := i30528
  have pt28 : (u29.1 0 305).toInt = (u19.1 0 305).toInt + 1 := pt28
  have rs28 : RS u19 u29 := rs28
  refine lv_aload_n hx hb dX5_local_31 rfl (lv_at hl 2 rfl) ?_
  refine va_get (D := (dC, dI)) (ci := 8) (fs := oF_X5 ad pr u29) (v := .ref (ad 900)) (C := RX5) (T := TX5) (N := 7) hx hb ht itX5 hown hK hP 3 rfl rfl 1 (by decide) (ht _ tw_571) (fun _ h9 => h9) rfl dX5_local_32 ?_
  have q31 : (u29.1 0 304).toInt = (u19.1 0 304).toInt := congrArg Int32.toInt ((fr28.2.1 304 (by decide)).trans (show u19.1 0 304 = (u19.1 0 304) by rfl))
  refine cu_i (rn_Vk (n := 0) (As := []) (rest := []) hx hb hml hown ht hKK hFx hP hD hS hA (c_x_X9_kind l dC dI cI cB cZ cJ cR tb H.size ad pr N L1 L2 u29  (show 0 ≤ (u29.1 0 304).toInt ∧ (u29.1 0 304).toInt ≤ 1503 from (om_8044691ca6 z304 q4 q12 q25 q31)) (show 0 ≤ (u29.1 0 305).toInt ∧ (u29.1 0 305).toInt ≤ 1500 from (om_7897b4ccef i30528))) tw_455 tw_594 (by decide +kernel) rfl rfl ⟨show 0 + 1 ≤ 8 * n + 21 from om_a43f662a07, show 8 + (1 + 11) + 0 ≤ 28 * (8 * n + 21) from om_9f2e4fbaf3⟩ (List.range (cW ad pr N cI cR L1 L2 u29).length) (rg_map _) (nd_range _) 0 rfl rfl rfl rfl hl.1 rfl (Nat.le_of_ble_eq_true rfl) dX5_local_35 ⟨Nat.le_of_ble_eq_true rfl, Nat.le_of_ble_eq_true rfl⟩) hP hD hS hA (fun r34 u33 H locs hw32 hP hD hS => ?_)
  obtain ⟨rfl, ex32⟩ := hw32
  refine W.widen (k := 0) (n := 0) (Nat.le_refl _) (Nat.le_refl _) ?_
  refine lv_bipush (v := 42) hx hb dX5_local_38 (by decide) ?_
  refine lv_icmp_ne (tgt := 61) hx hb dX5_local_40 (by decide) (fun h35 => ?_) (fun h35 => ?_)
  · have z36 : r34.toInt ≠ (42 : Int) := ne_z rfl (show (42 : Int32).toInt = (42 : Int) by decide) h35
    refine lv_aload_n hx hb dX5_local_61 rfl (lv_at hl 2 rfl) ?_
    refine va_get (D := (dC, dI)) (ci := 8) (fs := oF_X5 ad pr u29) (v := .ref (ad 901)) (C := RX5) (T := TX5) (N := 7) hx hb ht itX5 hown hK hP 3 rfl rfl 2 (by decide) (ht _ tw_573) (fun _ h9 => h9) rfl dX5_local_62 ?_
    refine lv_iconst (v := 2) hx hb dX5_local_65 (by decide) ?_
    refine lv_iconst (v := 0) hx hb dX5_local_66 (by decide) ?_
    refine lv_iconst (v := 0) hx hb dX5_local_67 (by decide) ?_
    have q37 : (u19.1 0 381).toInt = (u10.1 0 381).toInt := congrArg Int32.toInt ((fr18.2.1 381 (by decide)).trans (show u10.1 0 381 = (u10.1 0 381) by rfl))
    have q38 : (u29.1 0 381).toInt = (u19.1 0 381).toInt := congrArg Int32.toInt ((fr28.2.1 381 (by decide)).trans (show u19.1 0 381 = (u19.1 0 381) by rfl))
    refine cu_v (rn_Vk (n := 3) (As := [.int 2, .int 0, .int 0]) (rest := []) hx hb hml hown ht hKK hFx hP hD hS hA (c_x_X1_add l dC dI cI cB cZ cJ cR tb H.size ad pr N L1 L2 u29 (2 : Int32) (0 : Int32) (0 : Int32) ps (show 0 ≤ (u29.1 0 381).toInt ∧ (u29.1 0 381).toInt ≤ 3008 from (om_28255ebb1a z305 z326 z381 zd q8 q17 q37 q38)) (show pr ps = ad 908 from hps) (show (u29.1 0 310) = ps from (Eq.trans (fr28.2.1 310 (by decide)) (Eq.trans (fr18.2.1 310 (by decide)) (Eq.trans (fr9.2.1 310 (by decide)) (Eq.trans (fr1.2.1 310 (by decide)) es310))))) (show (u29.1 0 381).toInt < 3008 from (om_7c3cb2d775 z326 zd q8 i3051 pt1 q17 q37 q38))) tw_499 tw_592 (by decide +kernel) rfl rfl ⟨show 0 + 1 ≤ 8 * n + 21 from om_a43f662a07, show 8 + (5 + 11) + 0 ≤ 28 * (8 * n + 21) from om_78af4e5b79⟩ (List.range (cW ad pr N cI cR L1 L2 u29).length) (rg_map _) (nd_range _) 1 rfl rfl rfl rfl hl.1 rfl (Nat.le_of_ble_eq_true rfl) dX5_local_68 ⟨Nat.le_of_ble_eq_true rfl, Nat.le_of_ble_eq_true rfl⟩) hP hD hS hA (fun u40 H locs hw39 hP hD hS => ?_)
    obtain ⟨fr39, ex39, i38139, pd39, rs39⟩ := hw39
    have i38139 : 0 ≤ (u40.1 0 381).toInt ∧ (u40.1 0 381).toInt ≤ 3008 := i38139
    have pd39 : (u40.1 0 381).toInt = (u29.1 0 381).toInt + 1 := pd39
    have rs39 : RS u29 u40 := rs39
    refine W.widen (k := 0) (n := 0) (Nat.le_refl _) (Nat.le_refl _) ?_
    refine lv_aload_n hx hb dX5_local_71 rfl (lv_at hl 2 rfl) ?_
    refine va_get (D := (dC, dI)) (ci := 8) (fs := oF_X5 ad pr u40) (v := .ref (ad 901)) (C := RX5) (T := TX5) (N := 7) hx hb ht itX5 hown hK hP 3 rfl rfl 2 (by decide) (ht _ tw_573) (fun _ h9 => h9) rfl dX5_local_72 ?_
    refine lv_iconst (v := 4) hx hb dX5_local_75 (by decide) ?_
    refine lv_iload_n hx hb dX5_local_76 rfl (lv_at hl 0 rfl) ?_
    refine lv_iconst (v := 0) hx hb dX5_local_77 (by decide) ?_
    refine cu_v (rn_Vk (n := 3) (As := [.int 4, .int r24, .int 0]) (rest := []) hx hb hml hown ht hKK hFx hP hD hS hA (c_x_X1_add l dC dI cI cB cZ cJ cR tb H.size ad pr N L1 L2 u40 (4 : Int32) r24 (0 : Int32) ps (show 0 ≤ (u40.1 0 381).toInt ∧ (u40.1 0 381).toInt ≤ 3008 from (om_e78eec72e1 i38139)) (show pr ps = ad 908 from hps) (show (u40.1 0 310) = ps from (Eq.trans (fr39.2.1 310 (by decide)) (Eq.trans (fr28.2.1 310 (by decide)) (Eq.trans (fr18.2.1 310 (by decide)) (Eq.trans (fr9.2.1 310 (by decide)) (Eq.trans (fr1.2.1 310 (by decide)) es310)))))) (show (u40.1 0 381).toInt < 3008 from (om_e09d6562f2 z326 zd q8 i3051 pt1 q17 q37 q38 pd39))) tw_499 tw_592 (by decide +kernel) rfl rfl ⟨show 0 + 1 ≤ 8 * n + 21 from om_a43f662a07, show 8 + (5 + 11) + 0 ≤ 28 * (8 * n + 21) from om_78af4e5b79⟩ (List.range (cW ad pr N cI cR L1 L2 u40).length) (rg_map _) (nd_range _) 1 rfl rfl rfl rfl hl.1 rfl (Nat.le_of_ble_eq_true rfl) dX5_local_78 ⟨Nat.le_of_ble_eq_true rfl, Nat.le_of_ble_eq_true rfl⟩) hP hD hS hA (fun u43 H locs hw42 hP hD hS => ?_)
    obtain ⟨fr42, ex42, i38142, pd42, rs42⟩ := hw42
    have i38142 : 0 ≤ (u43.1 0 381).toInt ∧ (u43.1 0 381).toInt ≤ 3008 := i38142
    have pd42 : (u43.1 0 381).toInt = (u40.1 0 381).toInt + 1 := pd42
    have rs42 : RS u40 u43 := rs42
    refine W.widen (k := 0) (n := 0) (Nat.le_refl _) (Nat.le_refl _) ?_
    refine lv_aload_n hx hb dX5_local_81 rfl (lv_at hl 2 rfl) ?_
    refine va_get (D := (dC, dI)) (ci := 8) (fs := oF_X5 ad pr u43) (v := .ref (ad 900)) (C := RX5) (T := TX5) (N := 7) hx hb ht itX5 hown hK hP 3 rfl rfl 1 (by decide) (ht _ tw_571) (fun _ h9 => h9) rfl dX5_local_82 ?_
    refine lv_bipush (v := 36) hx hb dX5_local_85 (by decide) ?_
    have q45 : (u40.1 0 304).toInt = (u29.1 0 304).toInt := congrArg Int32.toInt ((fr39.2.1 304 (by decide)).trans (show u29.1 0 304 = (u29.1 0 304) by rfl))
    have q46 : (u43.1 0 304).toInt = (u40.1 0 304).toInt := congrArg Int32.toInt ((fr42.2.1 304 (by decide)).trans (show u40.1 0 304 = (u40.1 0 304) by rfl))
    have q47 : (u40.1 0 305).toInt = (u29.1 0 305).toInt := congrArg Int32.toInt ((fr39.2.1 305 (by decide)).trans (show u29.1 0 305 = (u29.1 0 305) by rfl))
    have q48 : (u43.1 0 305).toInt = (u40.1 0 305).toInt := congrArg Int32.toInt ((fr42.2.1 305 (by decide)).trans (show u40.1 0 305 = (u40.1 0 305) by rfl))
    have q49 : (u29.1 0 373).toInt = (u19.1 0 373).toInt := congrArg Int32.toInt ((fr28.2.1 373 (by decide)).trans (show u19.1 0 373 = (u19.1 0 373) by rfl))
    have q50 : (u40.1 0 373).toInt = (u29.1 0 373).toInt := congrArg Int32.toInt ((fr39.2.1 373 (by decide)).trans (show u29.1 0 373 = (u29.1 0 373) by rfl))
    have q51 : (u43.1 0 373).toInt = (u40.1 0 373).toInt := congrArg Int32.toInt ((fr42.2.1 373 (by decide)).trans (show u40.1 0 373 = (u40.1 0 373) by rfl))
    refine W.sz (fun hz9 => ?_)
    refine czx_v (rx_Vk (n := 1) (As := [.int 36]) (rest := []) hx hb hml hown ht hKK hFx hP hD hS hA (c_x_X9_expect l dC dI cI cB cZ cJ cR tb H.size ad pr N L1 L2 u43 (36 : Int32) ps (show 0 ≤ (u43.1 0 304).toInt ∧ (u43.1 0 304).toInt ≤ 1503 from (om_1a945f4049 z304 q4 q12 q25 q31 q45 q46)) (show 0 ≤ (u43.1 0 305).toInt ∧ (u43.1 0 305).toInt ≤ 1500 from (om_18b17fd671 z305 pt1 q13 q26 i30528 pt28 q47 q48)) (show 0 ≤ (u43.1 0 373).toInt ∧ (u43.1 0 373).toInt ≤ 4000 from (om_1de556205c z373 q7 q16 q27 q49 q50 q51)) (show pr ps = ad 908 from hps) (show (u43.1 0 300) = ps from (Eq.trans (fr42.2.1 300 (by decide)) (Eq.trans (fr39.2.1 300 (by decide)) (Eq.trans (fr28.2.1 300 (by decide)) (Eq.trans (fr18.2.1 300 (by decide)) (Eq.trans (fr9.2.1 300 (by decide)) (Eq.trans (fr1.2.1 300 (by decide)) es300))))))) (show l.stackTraces = false from hst)) tw_526 tw_580 (by decide +kernel) rfl rfl ⟨show 7 + 1 ≤ 8 * n + 21 from om_e98b1a8fe4, show 8 + (2 + 11) + 104 ≤ 28 * (8 * n + 21) from om_70d74f4c8d⟩ (List.range (cW ad pr N cI cR L1 L2 u43).length) (rg_map _) (nd_range _) 0 rfl rfl rfl rfl hl.1 rfl (Nat.le_of_ble_eq_true rfl) dX5_local_87 ⟨Nat.le_of_ble_eq_true rfl, Nat.le_of_ble_eq_true rfl⟩) hP hD hS hA (fun u9 ce9 q9 H locs hx9 hP hD hS hc9 hv9 hf9 => ?_) (fun u53 H locs hw52 hP hD hS hz8 => ?_)
    · exact vx_out (fun x h9 => (hnt x h9).elim) hlocks hc9 hv9 hf9 (fun t9 ht9 hv8 => ⟨u9, ⟨FC.tr (FC.tr (FC.tr (FC.tr (FC.tr (FC.tr (FC.tr (FC.rf _) (FC.up fr1 (by decide) (by decide))) (FC.up fr9 (by decide) (by decide))) (FC.up fr18 (by decide) (by decide))) (FC.up fr28 (by decide) (by decide))) (FC.up fr39 (by decide) (by decide))) (FC.up fr42 (by decide) (by decide))) hx9.1, hx9.2.1, ⟨z304, z305, z306, z312, z321, z326, z373, z381, zd, zlb, (Or.inr (⟨u2, ex1, ⟨fr1, i3051, pt1, rs1⟩, (Or.inr (⟨r11, u10, ex9, ⟨fr9, pd9, rs9⟩, (Or.inr (⟨u19, ex18, ⟨fr18, pd18, rs18⟩, r24, ex22, (Or.inr (⟨u29, ex28, ⟨fr28, i30528, pt28, rs28⟩, r34, ex32, (Or.inl ⟨z36, u40, ex39, ⟨fr39, i38139, pd39, rs39⟩, u43, ex42, ⟨fr42, i38142, pd42, rs42⟩, (Or.inl ⟨u9, hx9.2.2, rfl, rfl⟩)⟩)⟩))⟩))⟩))⟩))⟩⟩, ⟨rfl, by rw [ht9]; exact hP, hD⟩, hS.F ht9⟩) hS.2.2 (Nat.le_refl _) (Nat.le_refl _)
    refine W.shrink (hz8.trans hz9) ?_
    obtain ⟨fr52, ex52, i30552, pt52, rs52⟩ := hw52
    have i30552 : 0 ≤ (u53.1 0 305).toInt ∧ (u53.1 0 305).toInt ≤ 1500 := i30552
    have pt52 : (u53.1 0 305).toInt = (u43.1 0 305).toInt + 1 := pt52
    have rs52 : RS u43 u53 := rs52
    refine lv_aload_n hx hb dX5_local_90 rfl (lv_at hl 2 rfl) ?_
    refine va_get (D := (dC, dI)) (ci := 8) (fs := oF_X5 ad pr u53) (v := .ref (ad 901)) (C := RX5) (T := TX5) (N := 7) hx hb ht itX5 hown hK hP 3 rfl rfl 2 (by decide) (ht _ tw_573) (fun _ h9 => h9) rfl dX5_local_91 ?_
    refine lv_iload_n hx hb dX5_local_94 rfl (lv_at hl 1 rfl) ?_
    have q55 : (u29.1 0 312).toInt = (u19.1 0 312).toInt := congrArg Int32.toInt ((fr28.2.1 312 (by decide)).trans (show u19.1 0 312 = (u19.1 0 312) by rfl))
    have q56 : (u40.1 0 312).toInt = (u29.1 0 312).toInt := congrArg Int32.toInt ((fr39.2.1 312 (by decide)).trans (show u29.1 0 312 = (u29.1 0 312) by rfl))
    have q57 : (u43.1 0 312).toInt = (u40.1 0 312).toInt := congrArg Int32.toInt ((fr42.2.1 312 (by decide)).trans (show u40.1 0 312 = (u40.1 0 312) by rfl))
    have q58 : (u53.1 0 312).toInt = (u43.1 0 312).toInt := congrArg Int32.toInt ((fr52.2.1 312 (by decide)).trans (show u43.1 0 312 = (u43.1 0 312) by rfl))
    refine cu_v (rn_Vk (n := 1) (As := [.int r11]) (rest := []) hx hb hml hown ht hKK hFx hP hD hS hA (c_x_X1_learn l dC dI cI cB cZ cJ cR tb H.size ad pr N L1 L2 u53 r11 (show 0 ≤ (u53.1 0 312).toInt ∧ (u53.1 0 312).toInt ≤ 500 from (om_4d1a2a7aa0 z312 q5 q14 q21 q55 q56 q57 q58))) tw_586 tw_587 (by decide +kernel) rfl rfl ⟨show 0 + 1 ≤ 8 * n + 21 from om_a43f662a07, show 8 + (2 + 11) + 0 ≤ 28 * (8 * n + 21) from om_b45810c062⟩ (List.range (cW ad pr N cI cR L1 L2 u53).length) (rg_map _) (nd_range _) 1 rfl rfl rfl rfl hl.1 rfl (Nat.le_of_ble_eq_true rfl) dX5_local_95 ⟨Nat.le_of_ble_eq_true rfl, Nat.le_of_ble_eq_true rfl⟩) hP hD hS hA (fun u60 H locs hw59 hP hD hS => ?_)
    obtain ⟨fr59, ex59, i31259, rs59⟩ := hw59
    have i31259 : 0 ≤ (u60.1 0 312).toInt ∧ (u60.1 0 312).toInt ≤ 500 := i31259
    have rs59 : RS u53 u60 := rs59
    refine W.widen (k := 0) (n := 0) (Nat.le_refl _) (Nat.le_refl _) ?_
    have q62 : (u60.1 0 305).toInt = (u53.1 0 305).toInt := congrArg Int32.toInt ((fr59.2.1 305 (by decide)).trans (show u53.1 0 305 = (u53.1 0 305) by rfl))
    have q63 : (u2.1 0 306).toInt = (v.1 0 306).toInt := congrArg Int32.toInt ((fr1.2.1 306 (by decide)).trans (show v.1 0 306 = (v.1 0 306) by rfl))
    have q64 : (u10.1 0 306).toInt = (u2.1 0 306).toInt := congrArg Int32.toInt ((fr9.2.1 306 (by decide)).trans (show u2.1 0 306 = (u2.1 0 306) by rfl))
    have q65 : (u19.1 0 306).toInt = (u10.1 0 306).toInt := congrArg Int32.toInt ((fr18.2.1 306 (by decide)).trans (show u10.1 0 306 = (u10.1 0 306) by rfl))
    have q66 : (u29.1 0 306).toInt = (u19.1 0 306).toInt := congrArg Int32.toInt ((fr28.2.1 306 (by decide)).trans (show u19.1 0 306 = (u19.1 0 306) by rfl))
    have q67 : (u40.1 0 306).toInt = (u29.1 0 306).toInt := congrArg Int32.toInt ((fr39.2.1 306 (by decide)).trans (show u29.1 0 306 = (u29.1 0 306) by rfl))
    have q68 : (u43.1 0 306).toInt = (u40.1 0 306).toInt := congrArg Int32.toInt ((fr42.2.1 306 (by decide)).trans (show u40.1 0 306 = (u40.1 0 306) by rfl))
    have q69 : (u53.1 0 306).toInt = (u43.1 0 306).toInt := congrArg Int32.toInt ((fr52.2.1 306 (by decide)).trans (show u43.1 0 306 = (u43.1 0 306) by rfl))
    have q70 : (u60.1 0 306).toInt = (u53.1 0 306).toInt := congrArg Int32.toInt ((fr59.2.1 306 (by decide)).trans (show u53.1 0 306 = (u53.1 0 306) by rfl))
    have q71 : (u2.1 0 321).toInt = (v.1 0 321).toInt := congrArg Int32.toInt ((fr1.2.1 321 (by decide)).trans (show v.1 0 321 = (v.1 0 321) by rfl))
    have q72 : (u10.1 0 321).toInt = (u2.1 0 321).toInt := congrArg Int32.toInt ((fr9.2.1 321 (by decide)).trans (show u2.1 0 321 = (u2.1 0 321) by rfl))
    have q73 : (u19.1 0 321).toInt = (u10.1 0 321).toInt := congrArg Int32.toInt ((fr18.2.1 321 (by decide)).trans (show u10.1 0 321 = (u10.1 0 321) by rfl))
    have q74 : (u29.1 0 321).toInt = (u19.1 0 321).toInt := congrArg Int32.toInt ((fr28.2.1 321 (by decide)).trans (show u19.1 0 321 = (u19.1 0 321) by rfl))
    have q75 : (u40.1 0 321).toInt = (u29.1 0 321).toInt := congrArg Int32.toInt ((fr39.2.1 321 (by decide)).trans (show u29.1 0 321 = (u29.1 0 321) by rfl))
    have q76 : (u43.1 0 321).toInt = (u40.1 0 321).toInt := congrArg Int32.toInt ((fr42.2.1 321 (by decide)).trans (show u40.1 0 321 = (u40.1 0 321) by rfl))
    have q77 : (u53.1 0 321).toInt = (u43.1 0 321).toInt := congrArg Int32.toInt ((fr52.2.1 321 (by decide)).trans (show u43.1 0 321 = (u43.1 0 321) by rfl))
    have q78 : (u60.1 0 321).toInt = (u53.1 0 321).toInt := congrArg Int32.toInt ((fr59.2.1 321 (by decide)).trans (show u53.1 0 321 = (u53.1 0 321) by rfl))
    have q79 : (u19.1 0 326).toInt = (u10.1 0 326).toInt := congrArg Int32.toInt ((fr18.2.1 326 (by decide)).trans (show u10.1 0 326 = (u10.1 0 326) by rfl))
    have q80 : (u29.1 0 326).toInt = (u19.1 0 326).toInt := congrArg Int32.toInt ((fr28.2.1 326 (by decide)).trans (show u19.1 0 326 = (u19.1 0 326) by rfl))
    have q81 : (u40.1 0 326).toInt = (u29.1 0 326).toInt := congrArg Int32.toInt ((fr39.2.1 326 (by decide)).trans (show u29.1 0 326 = (u29.1 0 326) by rfl))
    have q82 : (u43.1 0 326).toInt = (u40.1 0 326).toInt := congrArg Int32.toInt ((fr42.2.1 326 (by decide)).trans (show u40.1 0 326 = (u40.1 0 326) by rfl))
    have q83 : (u53.1 0 326).toInt = (u43.1 0 326).toInt := congrArg Int32.toInt ((fr52.2.1 326 (by decide)).trans (show u43.1 0 326 = (u43.1 0 326) by rfl))
    have q84 : (u60.1 0 326).toInt = (u53.1 0 326).toInt := congrArg Int32.toInt ((fr59.2.1 326 (by decide)).trans (show u53.1 0 326 = (u53.1 0 326) by rfl))
    have q85 : (u53.1 0 381).toInt = (u43.1 0 381).toInt := congrArg Int32.toInt ((fr52.2.1 381 (by decide)).trans (show u43.1 0 381 = (u43.1 0 381) by rfl))
    have q86 : (u60.1 0 381).toInt = (u53.1 0 381).toInt := congrArg Int32.toInt ((fr59.2.1 381 (by decide)).trans (show u53.1 0 381 = (u53.1 0 381) by rfl))
    have q87 : (u2.1 0 317).toInt = (v.1 0 317).toInt := congrArg Int32.toInt ((fr1.2.1 317 (by decide)).trans (show v.1 0 317 = (v.1 0 317) by rfl))
    have q88 : (u10.1 0 317).toInt = (u2.1 0 317).toInt := congrArg Int32.toInt ((fr9.2.1 317 (by decide)).trans (show u2.1 0 317 = (u2.1 0 317) by rfl))
    have q89 : (u19.1 0 317).toInt = (u10.1 0 317).toInt := congrArg Int32.toInt ((fr18.2.1 317 (by decide)).trans (show u10.1 0 317 = (u10.1 0 317) by rfl))
    have q90 : (u29.1 0 317).toInt = (u19.1 0 317).toInt := congrArg Int32.toInt ((fr28.2.1 317 (by decide)).trans (show u19.1 0 317 = (u19.1 0 317) by rfl))
    have q91 : (u40.1 0 317).toInt = (u29.1 0 317).toInt := congrArg Int32.toInt ((fr39.2.1 317 (by decide)).trans (show u29.1 0 317 = (u29.1 0 317) by rfl))
    have q92 : (u43.1 0 317).toInt = (u40.1 0 317).toInt := congrArg Int32.toInt ((fr42.2.1 317 (by decide)).trans (show u40.1 0 317 = (u40.1 0 317) by rfl))
    have q93 : (u53.1 0 317).toInt = (u43.1 0 317).toInt := congrArg Int32.toInt ((fr52.2.1 317 (by decide)).trans (show u43.1 0 317 = (u43.1 0 317) by rfl))
    have q94 : (u60.1 0 317).toInt = (u53.1 0 317).toInt := congrArg Int32.toInt ((fr59.2.1 317 (by decide)).trans (show u53.1 0 317 = (u53.1 0 317) by rfl))
    refine W.sz (fun hz => ?_)
    refine vx_ret ?_
    refine W.widen (k := 1) (n := 6) (Nat.le_of_ble_eq_true rfl) (Nat.le_of_ble_eq_true rfl) ?_
    exact W.vret hx hb hr (fun t ht9 hW => ⟨⟨u60, rfl, ⟨(FC.tr (FC.tr (FC.tr (FC.tr (FC.tr (FC.tr (FC.tr (FC.tr (FC.rf _) (FC.up fr1 (by decide) (by decide))) (FC.up fr9 (by decide) (by decide))) (FC.up fr18 (by decide) (by decide))) (FC.up fr28 (by decide) (by decide))) (FC.up fr39 (by decide) (by decide))) (FC.up fr42 (by decide) (by decide))) (FC.up fr52 (by decide) (by decide))) (FC.up fr59 (by decide) (by decide))), ⟨z304, z305, z306, z312, z321, z326, z373, z381, zd, zlb, (Or.inr (⟨u2, ex1, ⟨fr1, i3051, pt1, rs1⟩, (Or.inr (⟨r11, u10, ex9, ⟨fr9, pd9, rs9⟩, (Or.inr (⟨u19, ex18, ⟨fr18, pd18, rs18⟩, r24, ex22, (Or.inr (⟨u29, ex28, ⟨fr28, i30528, pt28, rs28⟩, r34, ex32, (Or.inl ⟨z36, u40, ex39, ⟨fr39, i38139, pd39, rs39⟩, u43, ex42, ⟨fr42, i38142, pd42, rs42⟩, (Or.inr (⟨u53, ex52, ⟨fr52, i30552, pt52, rs52⟩, u60, ex59, ⟨fr59, i31259, rs59⟩, rfl, rfl⟩))⟩)⟩))⟩))⟩))⟩))⟩, (show 0 ≤ (u60.1 0 305).toInt ∧ (u60.1 0 305).toInt ≤ 1500 from (om_c93ca3468d i30552 q62)), (show 0 ≤ (u60.1 0 306).toInt ∧ (u60.1 0 306).toInt ≤ 40 from (om_232385d87f z306 q63 q64 q65 q66 q67 q68 q69 q70)), (show 0 ≤ (u60.1 0 312).toInt ∧ (u60.1 0 312).toInt ≤ 500 from (om_9861e69da5 i31259)), (show 0 ≤ (u60.1 0 321).toInt ∧ (u60.1 0 321).toInt ≤ 501 from (om_0247461c80 z321 q71 q72 q73 q74 q75 q76 q77 q78)), (show 0 ≤ (u60.1 0 326).toInt ∧ (u60.1 0 326).toInt ≤ 420 from (om_2c0998f108 z326 q6 q15 q79 q80 q81 q82 q83 q84)), (show 0 ≤ (u60.1 0 381).toInt ∧ (u60.1 0 381).toInt ≤ 3008 from (om_96e96a353a z326 zd q8 i3051 pt1 q17 q37 q38 i38139 pd39 pd42 q85 q86)), (show (u60.1 0 381).toInt + (u60.1 0 326).toInt - 2 * (u60.1 0 305).toInt + (4) ≤ (v.1 0 381).toInt + (v.1 0 326).toInt - 2 * (v.1 0 305).toInt from (om_d7dde0cf06 q6 q8 pt1 pd9 pd18 q80 q38 pt28 q47 q81 pd39 q48 q82 pd42 q83 q85 pt52 q62 q84 q86)), (show (v.1 0 305).toInt + 3 ≤ (u60.1 0 305).toInt from (om_3008b4c433 pt1 q13 q26 pt28 q47 q48 pt52 q62)), (show (v.1 0 317).toInt ≤ (u60.1 0 317).toInt ∧ (u60.1 0 317).toInt - 4 * (u60.1 0 305).toInt ≤ (v.1 0 317).toInt - 4 * (v.1 0 305).toInt + 0 from (om_515ec52d7c q87 pt1 q13 q88 q26 q89 q90 pt28 q47 q91 q48 q92 q93 pt52 q62 q94)), (show (u60.1 0 306).toInt = (v.1 0 306).toInt from (om_3adb33c98b q63 q64 q65 q66 q67 q68 q69 q70)), (RS.tr (RS.tr (RS.tr (RS.tr (RS.tr (RS.tr (RS.tr (RS.tr RS.rf rs1) rs9) rs18) rs28) rs39) rs42) rs52) rs59)⟩, ⟨by rw [ht9]; exact hP, hD⟩, by rw [ht9]; exact hz⟩, hS.F ht9⟩) hS.2.2 dX5_local_98
  · have z95 : r34.toInt = (42 : Int) := eq_z rfl (show (42 : Int32).toInt = (42 : Int) by decide) h35
    refine lv_aload_n hx hb dX5_local_43 rfl (lv_at hl 2 rfl) ?_
    refine va_get (D := (dC, dI)) (ci := 8) (fs := oF_X5 ad pr u29) (v := .ref (ad 900)) (C := RX5) (T := TX5) (N := 7) hx hb ht itX5 hown hK hP 3 rfl rfl 1 (by decide) (ht _ tw_571) (fun _ h9 => h9) rfl dX5_local_44 ?_
    have q96 : (u29.1 0 373).toInt = (u19.1 0 373).toInt := congrArg Int32.toInt ((fr28.2.1 373 (by decide)).trans (show u19.1 0 373 = (u19.1 0 373) by rfl))
    refine W.sz (fun hz9 => ?_)
    refine czx_v (rx_Vk (n := 0) (As := []) (rest := []) hx hb hml hown ht hKK hFx hP hD hS hA (c_x_X9_take l dC dI cI cB cZ cJ cR tb H.size ad pr N L1 L2 u29 ps (show 0 ≤ (u29.1 0 304).toInt ∧ (u29.1 0 304).toInt ≤ 1503 from (om_8044691ca6 z304 q4 q12 q25 q31)) (show 0 ≤ (u29.1 0 305).toInt ∧ (u29.1 0 305).toInt ≤ 1500 from (om_7897b4ccef i30528)) (show 0 ≤ (u29.1 0 373).toInt ∧ (u29.1 0 373).toInt ≤ 4000 from (om_fdcbb58227 z373 q7 q16 q27 q96)) (show pr ps = ad 908 from hps) (show (u29.1 0 300) = ps from (Eq.trans (fr28.2.1 300 (by decide)) (Eq.trans (fr18.2.1 300 (by decide)) (Eq.trans (fr9.2.1 300 (by decide)) (Eq.trans (fr1.2.1 300 (by decide)) es300))))) (show l.stackTraces = false from hst)) tw_539 tw_585 (by decide +kernel) rfl rfl ⟨show 7 + 1 ≤ 8 * n + 21 from om_e98b1a8fe4, show 8 + (1 + 11) + 104 ≤ 28 * (8 * n + 21) from om_84edb096fe⟩ (List.range (cW ad pr N cI cR L1 L2 u29).length) (rg_map _) (nd_range _) 0 rfl rfl rfl rfl hl.1 rfl (Nat.le_of_ble_eq_true rfl) dX5_local_47 ⟨Nat.le_of_ble_eq_true rfl, Nat.le_of_ble_eq_true rfl⟩) hP hD hS hA (fun u9 ce9 q9 H locs hx9 hP hD hS hc9 hv9 hf9 => ?_) (fun u98 H locs hw97 hP hD hS hz8 => ?_)
    · exact vx_out (fun x h9 => (hnt x h9).elim) hlocks hc9 hv9 hf9 (fun t9 ht9 hv8 => ⟨u9, ⟨FC.tr (FC.tr (FC.tr (FC.tr (FC.tr (FC.rf _) (FC.up fr1 (by decide) (by decide))) (FC.up fr9 (by decide) (by decide))) (FC.up fr18 (by decide) (by decide))) (FC.up fr28 (by decide) (by decide))) hx9.1, hx9.2.1, ⟨z304, z305, z306, z312, z321, z326, z373, z381, zd, zlb, (Or.inr (⟨u2, ex1, ⟨fr1, i3051, pt1, rs1⟩, (Or.inr (⟨r11, u10, ex9, ⟨fr9, pd9, rs9⟩, (Or.inr (⟨u19, ex18, ⟨fr18, pd18, rs18⟩, r24, ex22, (Or.inr (⟨u29, ex28, ⟨fr28, i30528, pt28, rs28⟩, r34, ex32, (Or.inr (⟨z95, (Or.inl ⟨u9, hx9.2.2, rfl, rfl⟩)⟩))⟩))⟩))⟩))⟩))⟩⟩, ⟨rfl, by rw [ht9]; exact hP, hD⟩, hS.F ht9⟩) hS.2.2 (Nat.le_refl _) (Nat.le_refl _)
    refine W.shrink (hz8.trans hz9) ?_
    obtain ⟨fr97, ex97, i30597, pt97, rs97⟩ := hw97
    have i30597 : 0 ≤ (u98.1 0 305).toInt ∧ (u98.1 0 305).toInt ≤ 1500 := i30597
    have pt97 : (u98.1 0 305).toInt = (u29.1 0 305).toInt + 1 := pt97
    have rs97 : RS u29 u98 := rs97
    refine lv_aload_n hx hb dX5_local_50 rfl (lv_at hl 2 rfl) ?_
    refine va_get (D := (dC, dI)) (ci := 8) (fs := oF_X5 ad pr u98) (v := .ref (ad 902)) (C := RX5) (T := TX5) (N := 7) hx hb ht itX5 hown hK hP 3 rfl rfl 3 (by decide) (ht _ tw_608) (fun _ h9 => h9) rfl dX5_local_51 ?_
    refine lv_iconst (v := 1) hx hb dX5_local_54 (by decide) ?_
    have q100 : (u98.1 0 304).toInt = (u29.1 0 304).toInt := congrArg Int32.toInt ((fr97.2.1 304 (by decide)).trans (show u29.1 0 304 = (u29.1 0 304) by rfl))
    have q101 : (u2.1 0 306).toInt = (v.1 0 306).toInt := congrArg Int32.toInt ((fr1.2.1 306 (by decide)).trans (show v.1 0 306 = (v.1 0 306) by rfl))
    have q102 : (u10.1 0 306).toInt = (u2.1 0 306).toInt := congrArg Int32.toInt ((fr9.2.1 306 (by decide)).trans (show u2.1 0 306 = (u2.1 0 306) by rfl))
    have q103 : (u19.1 0 306).toInt = (u10.1 0 306).toInt := congrArg Int32.toInt ((fr18.2.1 306 (by decide)).trans (show u10.1 0 306 = (u10.1 0 306) by rfl))
    have q104 : (u29.1 0 306).toInt = (u19.1 0 306).toInt := congrArg Int32.toInt ((fr28.2.1 306 (by decide)).trans (show u19.1 0 306 = (u19.1 0 306) by rfl))
    have q105 : (u98.1 0 306).toInt = (u29.1 0 306).toInt := congrArg Int32.toInt ((fr97.2.1 306 (by decide)).trans (show u29.1 0 306 = (u29.1 0 306) by rfl))
    have q106 : (u29.1 0 312).toInt = (u19.1 0 312).toInt := congrArg Int32.toInt ((fr28.2.1 312 (by decide)).trans (show u19.1 0 312 = (u19.1 0 312) by rfl))
    have q107 : (u98.1 0 312).toInt = (u29.1 0 312).toInt := congrArg Int32.toInt ((fr97.2.1 312 (by decide)).trans (show u29.1 0 312 = (u29.1 0 312) by rfl))
    have q108 : (u2.1 0 321).toInt = (v.1 0 321).toInt := congrArg Int32.toInt ((fr1.2.1 321 (by decide)).trans (show v.1 0 321 = (v.1 0 321) by rfl))
    have q109 : (u10.1 0 321).toInt = (u2.1 0 321).toInt := congrArg Int32.toInt ((fr9.2.1 321 (by decide)).trans (show u2.1 0 321 = (u2.1 0 321) by rfl))
    have q110 : (u19.1 0 321).toInt = (u10.1 0 321).toInt := congrArg Int32.toInt ((fr18.2.1 321 (by decide)).trans (show u10.1 0 321 = (u10.1 0 321) by rfl))
    have q111 : (u29.1 0 321).toInt = (u19.1 0 321).toInt := congrArg Int32.toInt ((fr28.2.1 321 (by decide)).trans (show u19.1 0 321 = (u19.1 0 321) by rfl))
    have q112 : (u98.1 0 321).toInt = (u29.1 0 321).toInt := congrArg Int32.toInt ((fr97.2.1 321 (by decide)).trans (show u29.1 0 321 = (u29.1 0 321) by rfl))
    have q113 : (u19.1 0 326).toInt = (u10.1 0 326).toInt := congrArg Int32.toInt ((fr18.2.1 326 (by decide)).trans (show u10.1 0 326 = (u10.1 0 326) by rfl))
    have q114 : (u29.1 0 326).toInt = (u19.1 0 326).toInt := congrArg Int32.toInt ((fr28.2.1 326 (by decide)).trans (show u19.1 0 326 = (u19.1 0 326) by rfl))
    have q115 : (u98.1 0 326).toInt = (u29.1 0 326).toInt := congrArg Int32.toInt ((fr97.2.1 326 (by decide)).trans (show u29.1 0 326 = (u29.1 0 326) by rfl))
    have q116 : (u98.1 0 373).toInt = (u29.1 0 373).toInt := congrArg Int32.toInt ((fr97.2.1 373 (by decide)).trans (show u29.1 0 373 = (u29.1 0 373) by rfl))
    have q117 : (u19.1 0 381).toInt = (u10.1 0 381).toInt := congrArg Int32.toInt ((fr18.2.1 381 (by decide)).trans (show u10.1 0 381 = (u10.1 0 381) by rfl))
    have q118 : (u29.1 0 381).toInt = (u19.1 0 381).toInt := congrArg Int32.toInt ((fr28.2.1 381 (by decide)).trans (show u19.1 0 381 = (u19.1 0 381) by rfl))
    have q119 : (u98.1 0 381).toInt = (u29.1 0 381).toInt := congrArg Int32.toInt ((fr97.2.1 381 (by decide)).trans (show u29.1 0 381 = (u29.1 0 381) by rfl))
    have q120 : (u2.1 0 317).toInt = (v.1 0 317).toInt := congrArg Int32.toInt ((fr1.2.1 317 (by decide)).trans (show v.1 0 317 = (v.1 0 317) by rfl))
    have q121 : (u10.1 0 317).toInt = (u2.1 0 317).toInt := congrArg Int32.toInt ((fr9.2.1 317 (by decide)).trans (show u2.1 0 317 = (u2.1 0 317) by rfl))
    have q122 : (u19.1 0 317).toInt = (u10.1 0 317).toInt := congrArg Int32.toInt ((fr18.2.1 317 (by decide)).trans (show u10.1 0 317 = (u10.1 0 317) by rfl))
    have q123 : (u29.1 0 317).toInt = (u19.1 0 317).toInt := congrArg Int32.toInt ((fr28.2.1 317 (by decide)).trans (show u19.1 0 317 = (u19.1 0 317) by rfl))
    have q124 : (u98.1 0 317).toInt = (u29.1 0 317).toInt := congrArg Int32.toInt ((fr97.2.1 317 (by decide)).trans (show u29.1 0 317 = (u29.1 0 317) by rfl))
    refine W.sz (fun hz9 => ?_)
    refine czx_v (rx_Vk (n := 1) (As := [.int 1]) (rest := []) hx hb hml hown ht hKK hFx hP hD hS hA ((cq_all l n).1 dC dI cI cB cZ cJ cR tb H.size ad pr N L1 L2 u98 (1 : Int32) ps (show 0 ≤ (u98.1 0 304).toInt ∧ (u98.1 0 304).toInt ≤ 1503 from (om_303b0e9f26 z304 q4 q12 q25 q31 q100)) (show 0 ≤ (u98.1 0 305).toInt ∧ (u98.1 0 305).toInt ≤ 1500 from (om_89213937cb i30528 i30597 pt97)) (show 0 ≤ (u98.1 0 306).toInt ∧ (u98.1 0 306).toInt ≤ 40 from (om_b98087ba73 z306 q101 q102 q103 q104 q105)) (show 0 ≤ (u98.1 0 312).toInt ∧ (u98.1 0 312).toInt ≤ 500 from (om_7cf4561601 z312 q5 q14 q21 q106 q107)) (show 0 ≤ (u98.1 0 321).toInt ∧ (u98.1 0 321).toInt ≤ 501 from (om_455369e3a5 z321 q108 q109 q110 q111 q112)) (show 0 ≤ (u98.1 0 326).toInt ∧ (u98.1 0 326).toInt ≤ 420 from (om_d453215c2d z326 q6 q15 q113 q114 q115)) (show 0 ≤ (u98.1 0 373).toInt ∧ (u98.1 0 373).toInt ≤ 4000 from (om_d59e6e0f1e z373 q7 q16 q27 q96 q116)) (show 0 ≤ (u98.1 0 381).toInt ∧ (u98.1 0 381).toInt ≤ 3008 from (om_5b4796cdd5 z326 z381 zd q8 i3051 pt1 q17 q117 q118 q119)) (show L1.length = 40 from hL1) (show L2.length = 60 from hL2) (show RP u98 from ((show FC [305, 306, 307, 312, 314, 315, 317, 321, 326, 381] [0, 311, 316, 318, 319, 320, 324, 325, 378, 379, 380] v u98 from (FC.tr (FC.tr (FC.tr (FC.tr (FC.tr (FC.rf _) (FC.up fr1 (by decide) (by decide))) (FC.up fr9 (by decide) (by decide))) (FC.up fr18 (by decide) (by decide))) (FC.up fr28 (by decide) (by decide))) (FC.up fr97 (by decide) (by decide)))).1 rp)) (show pr ps = ad 908 from hps) (show (u98.1 0 300) = ps from (Eq.trans (fr97.2.1 300 (by decide)) (Eq.trans (fr28.2.1 300 (by decide)) (Eq.trans (fr18.2.1 300 (by decide)) (Eq.trans (fr9.2.1 300 (by decide)) (Eq.trans (fr1.2.1 300 (by decide)) es300)))))) (show (u98.1 0 310) = ps from (Eq.trans (fr97.2.1 310 (by decide)) (Eq.trans (fr28.2.1 310 (by decide)) (Eq.trans (fr18.2.1 310 (by decide)) (Eq.trans (fr9.2.1 310 (by decide)) (Eq.trans (fr1.2.1 310 (by decide)) es310)))))) (show l.stackTraces = false from hst) (show (u98.1 0 381).toInt + (u98.1 0 326).toInt - 2 * (u98.1 0 305).toInt ≤ 0 from (om_d8f6388102 zd q6 q8 pt1 pd9 pd18 q114 q118 pt28 q115 q119 pt97)) (show 0 ≤ (u98.1 0 317).toInt ∧ (u98.1 0 317).toInt - 4 * (u98.1 0 305).toInt ≤ 8 from (om_c4d169d803 zlb q120 pt1 q13 q121 q26 q122 q123 pt28 q124 pt97)) (show 40 ≤ (u98.1 0 306).toInt + (n : Int) from (om_3d712bc99e zn q101 q102 q103 q104 q105))) tw_520 tw_609 (by decide +kernel) rfl rfl ⟨show (8 * n + 20) + 1 ≤ 8 * n + 21 from om_12a3a4432e, show 8 + (5 + 11) + 28 * (8 * n + 20) ≤ 28 * (8 * n + 21) from om_daa41a5b32⟩ (List.range (cW ad pr N cI cR L1 L2 u98).length) (rg_map _) (nd_range _) 2 rfl rfl rfl rfl hl.1 rfl (Nat.le_of_ble_eq_true rfl) dX5_local_55 ⟨Nat.le_of_ble_eq_true rfl, Nat.le_of_ble_eq_true rfl⟩) hP hD hS hA (fun u9 ce9 q9 H locs hx9 hP hD hS hc9 hv9 hf9 => ?_) (fun u126 H locs hw125 hP hD hS hz8 => ?_)
    · exact vx_out (fun x h9 => (hnt x h9).elim) hlocks hc9 hv9 hf9 (fun t9 ht9 hv8 => ⟨u9, ⟨FC.tr (FC.tr (FC.tr (FC.tr (FC.tr (FC.tr (FC.rf _) (FC.up fr1 (by decide) (by decide))) (FC.up fr9 (by decide) (by decide))) (FC.up fr18 (by decide) (by decide))) (FC.up fr28 (by decide) (by decide))) (FC.up fr97 (by decide) (by decide))) hx9.1, hx9.2.1, ⟨z304, z305, z306, z312, z321, z326, z373, z381, zd, zlb, (Or.inr (⟨u2, ex1, ⟨fr1, i3051, pt1, rs1⟩, (Or.inr (⟨r11, u10, ex9, ⟨fr9, pd9, rs9⟩, (Or.inr (⟨u19, ex18, ⟨fr18, pd18, rs18⟩, r24, ex22, (Or.inr (⟨u29, ex28, ⟨fr28, i30528, pt28, rs28⟩, r34, ex32, (Or.inr (⟨z95, (Or.inr (⟨u98, ex97, ⟨fr97, i30597, pt97, rs97⟩, (Or.inl ⟨u9, hx9.2.2, rfl, rfl⟩)⟩))⟩))⟩))⟩))⟩))⟩))⟩⟩, ⟨rfl, by rw [ht9]; exact hP, hD⟩, hS.F ht9⟩) hS.2.2 (Nat.le_refl _) (Nat.le_refl _)
    refine W.shrink (hz8.trans hz9) ?_
    obtain ⟨fr125, ex125, i305125, i306125, i321125, i326125, i381125, pd125, pt125, plb125, po125, rs125⟩ := hw125
    have i305125 : 0 ≤ (u126.1 0 305).toInt ∧ (u126.1 0 305).toInt ≤ 1500 := i305125
    have i306125 : 0 ≤ (u126.1 0 306).toInt ∧ (u126.1 0 306).toInt ≤ 40 := i306125
    have i321125 : 0 ≤ (u126.1 0 321).toInt ∧ (u126.1 0 321).toInt ≤ 501 := i321125
    have i326125 : 0 ≤ (u126.1 0 326).toInt ∧ (u126.1 0 326).toInt ≤ 420 := i326125
    have i381125 : 0 ≤ (u126.1 0 381).toInt ∧ (u126.1 0 381).toInt ≤ 3008 := i381125
    have pd125 : (u126.1 0 381).toInt + (u126.1 0 326).toInt - 2 * (u126.1 0 305).toInt + (1) ≤ (u98.1 0 381).toInt + (u98.1 0 326).toInt - 2 * (u98.1 0 305).toInt := pd125
    have pt125 : (u98.1 0 305).toInt + 1 ≤ (u126.1 0 305).toInt := pt125
    have plb125 : (u98.1 0 317).toInt ≤ (u126.1 0 317).toInt ∧ (u126.1 0 317).toInt - 4 * (u126.1 0 305).toInt ≤ (u98.1 0 317).toInt - 4 * (u98.1 0 305).toInt + 0 := plb125
    have po125 : (u126.1 0 306).toInt = (u98.1 0 306).toInt := po125
    have rs125 : RS u98 u126 := rs125
    refine lv_goto (tgt := 71) hx hb dX5_local_58 (by decide) ?_
    refine lv_aload_n hx hb dX5_local_71 rfl (lv_at hl 2 rfl) ?_
    refine va_get (D := (dC, dI)) (ci := 8) (fs := oF_X5 ad pr u126) (v := .ref (ad 901)) (C := RX5) (T := TX5) (N := 7) hx hb ht itX5 hown hK hP 3 rfl rfl 2 (by decide) (ht _ tw_573) (fun _ h9 => h9) rfl dX5_local_72 ?_
    refine lv_iconst (v := 4) hx hb dX5_local_75 (by decide) ?_
    refine lv_iload_n hx hb dX5_local_76 rfl (lv_at hl 0 rfl) ?_
    refine lv_iconst (v := 0) hx hb dX5_local_77 (by decide) ?_
    refine cu_v (rn_Vk (n := 3) (As := [.int 4, .int r24, .int 0]) (rest := []) hx hb hml hown ht hKK hFx hP hD hS hA (c_x_X1_add l dC dI cI cB cZ cJ cR tb H.size ad pr N L1 L2 u126 (4 : Int32) r24 (0 : Int32) ps (show 0 ≤ (u126.1 0 381).toInt ∧ (u126.1 0 381).toInt ≤ 3008 from (om_e78eec72e1 i381125)) (show pr ps = ad 908 from hps) (show (u126.1 0 310) = ps from (Eq.trans (fr125.2.1 310 (by decide)) (Eq.trans (fr97.2.1 310 (by decide)) (Eq.trans (fr28.2.1 310 (by decide)) (Eq.trans (fr18.2.1 310 (by decide)) (Eq.trans (fr9.2.1 310 (by decide)) (Eq.trans (fr1.2.1 310 (by decide)) es310))))))) (show (u126.1 0 381).toInt < 3008 from (om_a1e6461280 zd q6 q8 pt1 pd9 pd18 q114 q118 pt28 q115 q119 pt97 i305125 i326125 pd125))) tw_499 tw_592 (by decide +kernel) rfl rfl ⟨show 0 + 1 ≤ 8 * n + 21 from om_a43f662a07, show 8 + (5 + 11) + 0 ≤ 28 * (8 * n + 21) from om_78af4e5b79⟩ (List.range (cW ad pr N cI cR L1 L2 u126).length) (rg_map _) (nd_range _) 1 rfl rfl rfl rfl hl.1 rfl (Nat.le_of_ble_eq_true rfl) dX5_local_78 ⟨Nat.le_of_ble_eq_true rfl, Nat.le_of_ble_eq_true rfl⟩) hP hD hS hA (fun u129 H locs hw128 hP hD hS => ?_)
    obtain ⟨fr128, ex128, i381128, pd128, rs128⟩ := hw128
    have i381128 : 0 ≤ (u129.1 0 381).toInt ∧ (u129.1 0 381).toInt ≤ 3008 := i381128
    have pd128 : (u129.1 0 381).toInt = (u126.1 0 381).toInt + 1 := pd128
    have rs128 : RS u126 u129 := rs128
    refine W.widen (k := 0) (n := 0) (Nat.le_refl _) (Nat.le_refl _) ?_
    refine lv_aload_n hx hb dX5_local_81 rfl (lv_at hl 2 rfl) ?_
    refine va_get (D := (dC, dI)) (ci := 8) (fs := oF_X5 ad pr u129) (v := .ref (ad 900)) (C := RX5) (T := TX5) (N := 7) hx hb ht itX5 hown hK hP 3 rfl rfl 1 (by decide) (ht _ tw_571) (fun _ h9 => h9) rfl dX5_local_82 ?_
    refine lv_bipush (v := 36) hx hb dX5_local_85 (by decide) ?_
    have q131 : (u126.1 0 304).toInt = (u98.1 0 304).toInt := congrArg Int32.toInt ((fr125.2.1 304 (by decide)).trans (show u98.1 0 304 = (u98.1 0 304) by rfl))
    have q132 : (u129.1 0 304).toInt = (u126.1 0 304).toInt := congrArg Int32.toInt ((fr128.2.1 304 (by decide)).trans (show u126.1 0 304 = (u126.1 0 304) by rfl))
    have q133 : (u129.1 0 305).toInt = (u126.1 0 305).toInt := congrArg Int32.toInt ((fr128.2.1 305 (by decide)).trans (show u126.1 0 305 = (u126.1 0 305) by rfl))
    have q134 : (u126.1 0 373).toInt = (u98.1 0 373).toInt := congrArg Int32.toInt ((fr125.2.1 373 (by decide)).trans (show u98.1 0 373 = (u98.1 0 373) by rfl))
    have q135 : (u129.1 0 373).toInt = (u126.1 0 373).toInt := congrArg Int32.toInt ((fr128.2.1 373 (by decide)).trans (show u126.1 0 373 = (u126.1 0 373) by rfl))
    refine W.sz (fun hz9 => ?_)
    refine czx_v (rx_Vk (n := 1) (As := [.int 36]) (rest := []) hx hb hml hown ht hKK hFx hP hD hS hA (c_x_X9_expect l dC dI cI cB cZ cJ cR tb H.size ad pr N L1 L2 u129 (36 : Int32) ps (show 0 ≤ (u129.1 0 304).toInt ∧ (u129.1 0 304).toInt ≤ 1503 from (om_317e2e954a z304 q4 q12 q25 q31 q100 q131 q132)) (show 0 ≤ (u129.1 0 305).toInt ∧ (u129.1 0 305).toInt ≤ 1500 from (om_b4016bf927 i30528 pt97 i305125 pt125 q133)) (show 0 ≤ (u129.1 0 373).toInt ∧ (u129.1 0 373).toInt ≤ 4000 from (om_749f4b17c8 z373 q7 q16 q27 q96 q116 q134 q135)) (show pr ps = ad 908 from hps) (show (u129.1 0 300) = ps from (Eq.trans (fr128.2.1 300 (by decide)) (Eq.trans (fr125.2.1 300 (by decide)) (Eq.trans (fr97.2.1 300 (by decide)) (Eq.trans (fr28.2.1 300 (by decide)) (Eq.trans (fr18.2.1 300 (by decide)) (Eq.trans (fr9.2.1 300 (by decide)) (Eq.trans (fr1.2.1 300 (by decide)) es300)))))))) (show l.stackTraces = false from hst)) tw_526 tw_580 (by decide +kernel) rfl rfl ⟨show 7 + 1 ≤ 8 * n + 21 from om_e98b1a8fe4, show 8 + (2 + 11) + 104 ≤ 28 * (8 * n + 21) from om_70d74f4c8d⟩ (List.range (cW ad pr N cI cR L1 L2 u129).length) (rg_map _) (nd_range _) 0 rfl rfl rfl rfl hl.1 rfl (Nat.le_of_ble_eq_true rfl) dX5_local_87 ⟨Nat.le_of_ble_eq_true rfl, Nat.le_of_ble_eq_true rfl⟩) hP hD hS hA (fun u9 ce9 q9 H locs hx9 hP hD hS hc9 hv9 hf9 => ?_) (fun u137 H locs hw136 hP hD hS hz8 => ?_)
    · exact vx_out (fun x h9 => (hnt x h9).elim) hlocks hc9 hv9 hf9 (fun t9 ht9 hv8 => ⟨u9, ⟨FC.tr (FC.tr (FC.tr (FC.tr (FC.tr (FC.tr (FC.tr (FC.tr (FC.rf _) (FC.up fr1 (by decide) (by decide))) (FC.up fr9 (by decide) (by decide))) (FC.up fr18 (by decide) (by decide))) (FC.up fr28 (by decide) (by decide))) (FC.up fr97 (by decide) (by decide))) (FC.up fr125 (by decide) (by decide))) (FC.up fr128 (by decide) (by decide))) hx9.1, hx9.2.1, ⟨z304, z305, z306, z312, z321, z326, z373, z381, zd, zlb, (Or.inr (⟨u2, ex1, ⟨fr1, i3051, pt1, rs1⟩, (Or.inr (⟨r11, u10, ex9, ⟨fr9, pd9, rs9⟩, (Or.inr (⟨u19, ex18, ⟨fr18, pd18, rs18⟩, r24, ex22, (Or.inr (⟨u29, ex28, ⟨fr28, i30528, pt28, rs28⟩, r34, ex32, (Or.inr (⟨z95, (Or.inr (⟨u98, ex97, ⟨fr97, i30597, pt97, rs97⟩, (Or.inr (⟨u126, ex125, ⟨fr125, i305125, i306125, i321125, i326125, i381125, pd125, pt125, plb125, po125, rs125⟩, u129, ex128, ⟨fr128, i381128, pd128, rs128⟩, (Or.inl ⟨u9, hx9.2.2, rfl, rfl⟩)⟩))⟩))⟩))⟩))⟩))⟩))⟩))⟩⟩, ⟨rfl, by rw [ht9]; exact hP, hD⟩, hS.F ht9⟩) hS.2.2 (Nat.le_refl _) (Nat.le_refl _)
    refine W.shrink (hz8.trans hz9) ?_
    obtain ⟨fr136, ex136, i305136, pt136, rs136⟩ := hw136
    have i305136 : 0 ≤ (u137.1 0 305).toInt ∧ (u137.1 0 305).toInt ≤ 1500 := i305136
    have pt136 : (u137.1 0 305).toInt = (u129.1 0 305).toInt + 1 := pt136
    have rs136 : RS u129 u137 := rs136
    refine lv_aload_n hx hb dX5_local_90 rfl (lv_at hl 2 rfl) ?_
    refine va_get (D := (dC, dI)) (ci := 8) (fs := oF_X5 ad pr u137) (v := .ref (ad 901)) (C := RX5) (T := TX5) (N := 7) hx hb ht itX5 hown hK hP 3 rfl rfl 2 (by decide) (ht _ tw_573) (fun _ h9 => h9) rfl dX5_local_91 ?_
    refine lv_iload_n hx hb dX5_local_94 rfl (lv_at hl 1 rfl) ?_
    have q139 : (u126.1 0 312).toInt = (u98.1 0 312).toInt := congrArg Int32.toInt ((fr125.2.1 312 (by decide)).trans (show u98.1 0 312 = (u98.1 0 312) by rfl))
    have q140 : (u129.1 0 312).toInt = (u126.1 0 312).toInt := congrArg Int32.toInt ((fr128.2.1 312 (by decide)).trans (show u126.1 0 312 = (u126.1 0 312) by rfl))
    have q141 : (u137.1 0 312).toInt = (u129.1 0 312).toInt := congrArg Int32.toInt ((fr136.2.1 312 (by decide)).trans (show u129.1 0 312 = (u129.1 0 312) by rfl))
    refine cu_v (rn_Vk (n := 1) (As := [.int r11]) (rest := []) hx hb hml hown ht hKK hFx hP hD hS hA (c_x_X1_learn l dC dI cI cB cZ cJ cR tb H.size ad pr N L1 L2 u137 r11 (show 0 ≤ (u137.1 0 312).toInt ∧ (u137.1 0 312).toInt ≤ 500 from (om_d466fad2f2 z312 q5 q14 q21 q106 q107 q139 q140 q141))) tw_586 tw_587 (by decide +kernel) rfl rfl ⟨show 0 + 1 ≤ 8 * n + 21 from om_a43f662a07, show 8 + (2 + 11) + 0 ≤ 28 * (8 * n + 21) from om_b45810c062⟩ (List.range (cW ad pr N cI cR L1 L2 u137).length) (rg_map _) (nd_range _) 1 rfl rfl rfl rfl hl.1 rfl (Nat.le_of_ble_eq_true rfl) dX5_local_95 ⟨Nat.le_of_ble_eq_true rfl, Nat.le_of_ble_eq_true rfl⟩) hP hD hS hA (fun u143 H locs hw142 hP hD hS => ?_)
    obtain ⟨fr142, ex142, i312142, rs142⟩ := hw142
    have i312142 : 0 ≤ (u143.1 0 312).toInt ∧ (u143.1 0 312).toInt ≤ 500 := i312142
    have rs142 : RS u137 u143 := rs142
    refine W.widen (k := 0) (n := 0) (Nat.le_refl _) (Nat.le_refl _) ?_
    have q145 : (u143.1 0 305).toInt = (u137.1 0 305).toInt := congrArg Int32.toInt ((fr142.2.1 305 (by decide)).trans (show u137.1 0 305 = (u137.1 0 305) by rfl))
    have q146 : (u129.1 0 306).toInt = (u126.1 0 306).toInt := congrArg Int32.toInt ((fr128.2.1 306 (by decide)).trans (show u126.1 0 306 = (u126.1 0 306) by rfl))
    have q147 : (u137.1 0 306).toInt = (u129.1 0 306).toInt := congrArg Int32.toInt ((fr136.2.1 306 (by decide)).trans (show u129.1 0 306 = (u129.1 0 306) by rfl))
    have q148 : (u143.1 0 306).toInt = (u137.1 0 306).toInt := congrArg Int32.toInt ((fr142.2.1 306 (by decide)).trans (show u137.1 0 306 = (u137.1 0 306) by rfl))
    have q149 : (u129.1 0 321).toInt = (u126.1 0 321).toInt := congrArg Int32.toInt ((fr128.2.1 321 (by decide)).trans (show u126.1 0 321 = (u126.1 0 321) by rfl))
    have q150 : (u137.1 0 321).toInt = (u129.1 0 321).toInt := congrArg Int32.toInt ((fr136.2.1 321 (by decide)).trans (show u129.1 0 321 = (u129.1 0 321) by rfl))
    have q151 : (u143.1 0 321).toInt = (u137.1 0 321).toInt := congrArg Int32.toInt ((fr142.2.1 321 (by decide)).trans (show u137.1 0 321 = (u137.1 0 321) by rfl))
    have q152 : (u129.1 0 326).toInt = (u126.1 0 326).toInt := congrArg Int32.toInt ((fr128.2.1 326 (by decide)).trans (show u126.1 0 326 = (u126.1 0 326) by rfl))
    have q153 : (u137.1 0 326).toInt = (u129.1 0 326).toInt := congrArg Int32.toInt ((fr136.2.1 326 (by decide)).trans (show u129.1 0 326 = (u129.1 0 326) by rfl))
    have q154 : (u143.1 0 326).toInt = (u137.1 0 326).toInt := congrArg Int32.toInt ((fr142.2.1 326 (by decide)).trans (show u137.1 0 326 = (u137.1 0 326) by rfl))
    have q155 : (u137.1 0 381).toInt = (u129.1 0 381).toInt := congrArg Int32.toInt ((fr136.2.1 381 (by decide)).trans (show u129.1 0 381 = (u129.1 0 381) by rfl))
    have q156 : (u143.1 0 381).toInt = (u137.1 0 381).toInt := congrArg Int32.toInt ((fr142.2.1 381 (by decide)).trans (show u137.1 0 381 = (u137.1 0 381) by rfl))
    have q157 : (u129.1 0 317).toInt = (u126.1 0 317).toInt := congrArg Int32.toInt ((fr128.2.1 317 (by decide)).trans (show u126.1 0 317 = (u126.1 0 317) by rfl))
    have q158 : (u137.1 0 317).toInt = (u129.1 0 317).toInt := congrArg Int32.toInt ((fr136.2.1 317 (by decide)).trans (show u129.1 0 317 = (u129.1 0 317) by rfl))
    have q159 : (u143.1 0 317).toInt = (u137.1 0 317).toInt := congrArg Int32.toInt ((fr142.2.1 317 (by decide)).trans (show u137.1 0 317 = (u137.1 0 317) by rfl))
    refine W.sz (fun hz => ?_)
    refine vx_ret ?_
    refine W.widen (k := 1) (n := 6) (Nat.le_of_ble_eq_true rfl) (Nat.le_of_ble_eq_true rfl) ?_
    exact W.vret hx hb hr (fun t ht9 hW => ⟨⟨u143, rfl, ⟨(FC.tr (FC.tr (FC.tr (FC.tr (FC.tr (FC.tr (FC.tr (FC.tr (FC.tr (FC.rf _) (FC.up fr1 (by decide) (by decide))) (FC.up fr9 (by decide) (by decide))) (FC.up fr18 (by decide) (by decide))) (FC.up fr28 (by decide) (by decide))) (FC.up fr97 (by decide) (by decide))) (FC.up fr125 (by decide) (by decide))) (FC.up fr128 (by decide) (by decide))) (FC.up fr136 (by decide) (by decide))) (FC.up fr142 (by decide) (by decide))), ⟨z304, z305, z306, z312, z321, z326, z373, z381, zd, zlb, (Or.inr (⟨u2, ex1, ⟨fr1, i3051, pt1, rs1⟩, (Or.inr (⟨r11, u10, ex9, ⟨fr9, pd9, rs9⟩, (Or.inr (⟨u19, ex18, ⟨fr18, pd18, rs18⟩, r24, ex22, (Or.inr (⟨u29, ex28, ⟨fr28, i30528, pt28, rs28⟩, r34, ex32, (Or.inr (⟨z95, (Or.inr (⟨u98, ex97, ⟨fr97, i30597, pt97, rs97⟩, (Or.inr (⟨u126, ex125, ⟨fr125, i305125, i306125, i321125, i326125, i381125, pd125, pt125, plb125, po125, rs125⟩, u129, ex128, ⟨fr128, i381128, pd128, rs128⟩, (Or.inr (⟨u137, ex136, ⟨fr136, i305136, pt136, rs136⟩, u143, ex142, ⟨fr142, i312142, rs142⟩, rfl, rfl⟩))⟩))⟩))⟩))⟩))⟩))⟩))⟩))⟩, (show 0 ≤ (u143.1 0 305).toInt ∧ (u143.1 0 305).toInt ≤ 1500 from (om_bce9b4a777 i30528 pt97 pt125 q133 i305136 pt136 q145)), (show 0 ≤ (u143.1 0 306).toInt ∧ (u143.1 0 306).toInt ≤ 40 from (om_91b0537b40 i306125 q146 q147 q148)), (show 0 ≤ (u143.1 0 312).toInt ∧ (u143.1 0 312).toInt ≤ 500 from (om_9861e69da5 i312142)), (show 0 ≤ (u143.1 0 321).toInt ∧ (u143.1 0 321).toInt ≤ 501 from (om_ca65317fd6 i321125 q149 q150 q151)), (show 0 ≤ (u143.1 0 326).toInt ∧ (u143.1 0 326).toInt ≤ 420 from (om_ba86cd30dc i326125 q152 q153 q154)), (show 0 ≤ (u143.1 0 381).toInt ∧ (u143.1 0 381).toInt ≤ 3008 from (om_a1347ca652 zd q6 q8 pt1 pd9 pd18 q114 q118 pt28 q115 q119 pt97 i305125 i326125 i381125 pd125 pd128 q155 q156)), (show (u143.1 0 381).toInt + (u143.1 0 326).toInt - 2 * (u143.1 0 305).toInt + (4) ≤ (v.1 0 381).toInt + (v.1 0 326).toInt - 2 * (v.1 0 305).toInt from (om_d2e595eec9 q6 q8 pt1 pd9 pd18 q114 q118 pt28 q115 q119 pt97 pd125 q133 q152 pd128 q153 q155 pt136 q145 q154 q156)), (show (v.1 0 305).toInt + 3 ≤ (u143.1 0 305).toInt from (om_2b3810b07c pt1 q13 q26 pt28 pt97 pt125 q133 pt136 q145)), (show (v.1 0 317).toInt ≤ (u143.1 0 317).toInt ∧ (u143.1 0 317).toInt - 4 * (u143.1 0 305).toInt ≤ (v.1 0 317).toInt - 4 * (v.1 0 305).toInt + 0 from (om_1a38ed0495 q120 pt1 q13 q121 q26 q122 q123 pt28 q124 pt97 plb125 q133 q157 q158 pt136 q145 q159)), (show (u143.1 0 306).toInt = (v.1 0 306).toInt from (om_0c8fea9952 q101 q102 q103 q104 q105 po125 q146 q147 q148)), (RS.tr (RS.tr (RS.tr (RS.tr (RS.tr (RS.tr (RS.tr (RS.tr (RS.tr RS.rf rs1) rs9) rs18) rs28) rs97) rs125) rs128) rs136) rs142)⟩, ⟨by rw [ht9]; exact hP, hD⟩, by rw [ht9]; exact hz⟩, hS.F ht9⟩) hS.2.2 dX5_local_98
theorem om_af69f846cc {x0 x1 x2 x3 x4 x5 : Int} (h0 : x0 + x1 - 2 * x2 + (1) ≤ x3 + x4 - 2 * x5) : x0 + x1 - 2 * x2 + (0) ≤ x3 + x4 - 2 * x5 := by omega
theorem om_89463992d8 {x0 x1 : Int} (h0 : x0 + 1 ≤ x1) : x0 + 0 ≤ x1 := by omega
theorem om_e3fea0ce17 {x0 : Int} : x0 + 0 ≤ x0 := by omega
theorem om_e728ff856f {x0 x1 : Int} : x0 ≤ x0 ∧ x0 - 4 * x1 ≤ x0 - 4 * x1 + 0 := by omega
set_option maxHeartbeats 16000000 in
set_option maxRecDepth 100000 in
theorem c_x_X5_optional (l : Launch) (n : Nat) (dC : Nat → ClassId) (dI : Nat → Nat → Nat) (cI cB cZ cJ cR : ClassId) (tb : Nat → Nat) (sz : Nat) (ad : Nat → Nat) (pr : Int32 → Nat) (N : Nat) (L1 L2 : List Nat) (v : MS) (pa : Int32) (ps : Int32) (z304 : 0 ≤ (v.1 0 304).toInt ∧ (v.1 0 304).toInt ≤ 1503) (z305 : 0 ≤ (v.1 0 305).toInt ∧ (v.1 0 305).toInt ≤ 1500) (z306 : 0 ≤ (v.1 0 306).toInt ∧ (v.1 0 306).toInt ≤ 40) (z312 : 0 ≤ (v.1 0 312).toInt ∧ (v.1 0 312).toInt ≤ 500) (z321 : 0 ≤ (v.1 0 321).toInt ∧ (v.1 0 321).toInt ≤ 501) (z326 : 0 ≤ (v.1 0 326).toInt ∧ (v.1 0 326).toInt ≤ 420) (z373 : 0 ≤ (v.1 0 373).toInt ∧ (v.1 0 373).toInt ≤ 4000) (z381 : 0 ≤ (v.1 0 381).toInt ∧ (v.1 0 381).toInt ≤ 3008) (hL1 : L1.length = 40) (hL2 : L2.length = 60) (rp : RP v) (hps : pr ps = ad 908) (es300 : (v.1 0 300) = ps) (es310 : (v.1 0 310) = ps) (hst : l.stackTraces = false) (zd : (v.1 0 381).toInt + (v.1 0 326).toInt - 2 * (v.1 0 305).toInt ≤ 0) (zlb : 0 ≤ (v.1 0 317).toInt ∧ (v.1 0 317).toInt - 4 * (v.1 0 305).toInt ≤ 8) (zn : 40 ≤ (v.1 0 306).toInt + (n : Int)) : vx_Met l yX5_optional (Cond.code yX5_optional cX5_optional 2 (some .boolean) :: tw_W) ({ frames := 8 * n + 21, cells := 1, slots := 6, locals := 28 * (8 * n + 21) }) (pc_ (dC, dI) (tyS cI cB cZ cJ cR) tb (cW ad pr N cI cR L1 L2 v) sz [.ref (ad 903), .int pa]) (qiz_ (dC, dI) (cW ad pr N cI cR L1 L2 v) sz (fun (r : Int32) (u : MS) => FC [305, 306, 307, 314, 315, 317, 321, 326, 381] [0, 316, 318, 319, 320, 324, 325, 378, 379, 380] v u ∧ (Q_x_X5_optional L1 L2 n v pa false r u) ∧ (0 ≤ (u.1 0 305).toInt ∧ (u.1 0 305).toInt ≤ 1500) ∧ (0 ≤ (u.1 0 306).toInt ∧ (u.1 0 306).toInt ≤ 40) ∧ (0 ≤ (u.1 0 321).toInt ∧ (u.1 0 321).toInt ≤ 501) ∧ (0 ≤ (u.1 0 326).toInt ∧ (u.1 0 326).toInt ≤ 420) ∧ (0 ≤ (u.1 0 381).toInt ∧ (u.1 0 381).toInt ≤ 3008) ∧ ((u.1 0 381).toInt + (u.1 0 326).toInt - 2 * (u.1 0 305).toInt + (0) ≤ (v.1 0 381).toInt + (v.1 0 326).toInt - 2 * (v.1 0 305).toInt) ∧ ((v.1 0 305).toInt + 0 ≤ (u.1 0 305).toInt) ∧ ((v.1 0 317).toInt ≤ (u.1 0 317).toInt ∧ (u.1 0 317).toInt - 4 * (u.1 0 305).toInt ≤ (v.1 0 317).toInt - 4 * (v.1 0 305).toInt + 0) ∧ ((u.1 0 306).toInt = (v.1 0 306).toInt) ∧ (RS v u) ∧ (r = 0 ∨ r = 1)) (fun (u : MS) => (cW ad pr N cI cR L1 L2 u))) (qxc (dC, dI) (cW ad pr N cI cR L1 L2 v) sz (fun (u : MS) => (cW ad pr N cI cR L1 L2 u)) (fun (u : MS) => FC xfl xal v u ∧ (u.1 0 308).toInt ≠ 0 ∧ (Q_x_X5_optional L1 L2 n v pa true 0 u))) 1 6 (va_A (cW ad pr N cI cR L1 L2 v) sz) := by
  refine vx_ofW (cc := cX5_optional) (maxL := 2) (ret := (some .boolean)) (by decide) rfl ?_
  intro p e s m args below meth c s₁ B hml hnt hv
  obtain ⟨rfl, hsz, hP, hKK, hD0, hFx⟩ := hv
  have hK := hKK.1
  have hx := B.exec
  have hb := B.bytes
  have hr := B.returns
  have ht : ∀ w ∈ tw_W, w.before _ s = true := fun w h => atoms_spec (ws := Cond.code yX5_optional cX5_optional 2 (some .boolean) :: tw_W) B.pre w (List.mem_cons_of_mem _ h)
  have hown : s.vm.findClass RX5 = some m.cls := findClass_of_methodNamed B.named
  have hlocks := B.notSynchronized
  subst hsz
  unfold qiz_ qxc
  have hD := hD0.self (sz := s.heap.size)
  generalize hAe : va_A (cW ad pr N cI cR L1 L2 v) s.heap.size = A at hD hFx ⊢
  have hA : ∀ q : Nat, s.heap.size ≤ q → A q := fun q h => by rw [← hAe]; exact Or.inr h
  have hS : va_S A s.heap s.heap [] := va_S.rf
  have hl := lv_entry ([.ref (ad 903), .int pa]) (n := 2) (Nat.le_of_ble_eq_true rfl)
  rw [lg_entry_eq]
  generalize (lg_sl ([.ref (ad 903), .int pa]) ++ List.replicate (2 - (lg_sl ([.ref (ad 903), .int pa])).length) Slot.unset).toArray = ls at hl ⊢
  have hl : lv_has ls 2 [(0, .ref (ad 903)), (1, .int pa)] := hl
  refine lv_aload_n hx hb dX5_optional_0 rfl (lv_at hl 0 rfl) ?_
  refine va_get (D := (dC, dI)) (ci := 8) (fs := oF_X5 ad pr v) (v := .ref (ad 900)) (C := RX5) (T := TX5) (N := 7) hx hb ht itX5 hown hK hP 3 rfl rfl 1 (by decide) (ht _ tw_571) (fun _ h9 => h9) rfl dX5_optional_1 ?_
  refine cu_i (rn_Vk (n := 0) (As := []) (rest := []) hx hb hml hown ht hKK hFx hP hD hS hA (c_x_X9_kind l dC dI cI cB cZ cJ cR tb s.heap.size ad pr N L1 L2 v  (show 0 ≤ (v.1 0 304).toInt ∧ (v.1 0 304).toInt ≤ 1503 from (om_c99648273b z304)) (show 0 ≤ (v.1 0 305).toInt ∧ (v.1 0 305).toInt ≤ 1500 from (om_7897b4ccef z305))) tw_455 tw_594 (by decide +kernel) rfl rfl ⟨show 0 + 1 ≤ 8 * n + 21 from om_a43f662a07, show 8 + (1 + 11) + 0 ≤ 28 * (8 * n + 21) from om_9f2e4fbaf3⟩ (List.range (cW ad pr N cI cR L1 L2 v).length) (rg_map _) (nd_range _) 0 rfl rfl rfl rfl hl.1 rfl (Nat.le_of_ble_eq_true rfl) dX5_optional_4 ⟨Nat.le_of_ble_eq_true rfl, Nat.le_of_ble_eq_true rfl⟩) hP hD hS hA (fun r3 u2 H locs hw1 hP hD hS => ?_)
  obtain ⟨rfl, ex1⟩ := hw1
  refine W.widen (k := 0) (n := 0) (Nat.le_refl _) (Nat.le_refl _) ?_
  refine lv_iload_n hx hb dX5_optional_7 rfl (lv_at hl 1 rfl) ?_
  refine lv_icmp_ne (tgt := 13) hx hb dX5_optional_8 (by decide) (fun h4 => ?_) (fun h4 => ?_)
  · have z5 : r3.toInt ≠ pa.toInt := ne_z rfl rfl h4
    refine lv_aload_n hx hb dX5_optional_13 rfl (lv_at hl 0 rfl) ?_
    refine va_get (D := (dC, dI)) (ci := 8) (fs := oF_X5 ad pr v) (v := .ref (ad 902)) (C := RX5) (T := TX5) (N := 7) hx hb ht itX5 hown hK hP 3 rfl rfl 3 (by decide) (ht _ tw_608) (fun _ h9 => h9) rfl dX5_optional_14 ?_
    refine lv_iconst (v := 1) hx hb dX5_optional_17 (by decide) ?_
    refine W.sz (fun hz9 => ?_)
    refine czx_v (rx_Vk (n := 1) (As := [.int 1]) (rest := []) hx hb hml hown ht hKK hFx hP hD hS hA ((cq_all l n).1 dC dI cI cB cZ cJ cR tb H.size ad pr N L1 L2 v (1 : Int32) ps (show 0 ≤ (v.1 0 304).toInt ∧ (v.1 0 304).toInt ≤ 1503 from (om_c99648273b z304)) (show 0 ≤ (v.1 0 305).toInt ∧ (v.1 0 305).toInt ≤ 1500 from (om_7897b4ccef z305)) (show 0 ≤ (v.1 0 306).toInt ∧ (v.1 0 306).toInt ≤ 40 from (om_7eaf33e007 z306)) (show 0 ≤ (v.1 0 312).toInt ∧ (v.1 0 312).toInt ≤ 500 from (om_9861e69da5 z312)) (show 0 ≤ (v.1 0 321).toInt ∧ (v.1 0 321).toInt ≤ 501 from (om_e1d35f5faf z321)) (show 0 ≤ (v.1 0 326).toInt ∧ (v.1 0 326).toInt ≤ 420 from (om_839d7ed7dd z326)) (show 0 ≤ (v.1 0 373).toInt ∧ (v.1 0 373).toInt ≤ 4000 from (om_c74a68af25 z373)) (show 0 ≤ (v.1 0 381).toInt ∧ (v.1 0 381).toInt ≤ 3008 from (om_d5d375da37 z305 z326 z381 zd)) (show L1.length = 40 from hL1) (show L2.length = 60 from hL2) (show RP v from rp) (show pr ps = ad 908 from hps) (show (v.1 0 300) = ps from es300) (show (v.1 0 310) = ps from es310) (show l.stackTraces = false from hst) (show (v.1 0 381).toInt + (v.1 0 326).toInt - 2 * (v.1 0 305).toInt ≤ 0 from (om_53f6704e77 zd)) (show 0 ≤ (v.1 0 317).toInt ∧ (v.1 0 317).toInt - 4 * (v.1 0 305).toInt ≤ 8 from (om_8c45074a6a zlb)) (show 40 ≤ (v.1 0 306).toInt + (n : Int) from (om_a9150ae9b6 zn))) tw_520 tw_609 (by decide +kernel) rfl rfl ⟨show (8 * n + 20) + 1 ≤ 8 * n + 21 from om_12a3a4432e, show 8 + (5 + 11) + 28 * (8 * n + 20) ≤ 28 * (8 * n + 21) from om_daa41a5b32⟩ (List.range (cW ad pr N cI cR L1 L2 v).length) (rg_map _) (nd_range _) 2 rfl rfl rfl rfl hl.1 rfl (Nat.le_of_ble_eq_true rfl) dX5_optional_18 ⟨Nat.le_of_ble_eq_true rfl, Nat.le_of_ble_eq_true rfl⟩) hP hD hS hA (fun u9 ce9 q9 H locs hx9 hP hD hS hc9 hv9 hf9 => ?_) (fun u7 H locs hw6 hP hD hS hz8 => ?_)
    · exact vx_out (fun x h9 => (hnt x h9).elim) hlocks hc9 hv9 hf9 (fun t9 ht9 hv8 => ⟨u9, ⟨FC.tr (FC.rf _) hx9.1, hx9.2.1, ⟨z304, z305, z306, z312, z321, z326, z373, z381, zd, zlb, r3, ex1, (Or.inl ⟨z5, (Or.inl ⟨u9, hx9.2.2, rfl, rfl, rfl⟩)⟩)⟩⟩, ⟨rfl, by rw [ht9]; exact hP, hD⟩, hS.F ht9⟩) hS.2.2 (Nat.le_refl _) (Nat.le_refl _)
    refine W.shrink (hz8.trans hz9) ?_
    obtain ⟨fr6, ex6, i3056, i3066, i3216, i3266, i3816, pd6, pt6, plb6, po6, rs6⟩ := hw6
    refine lv_iconst (v := 1) hx hb dX5_optional_21 (by decide) ?_
    refine W.sz (fun hz => ?_)
    refine vx_ret ?_
    refine W.widen (k := 1) (n := 6) (Nat.le_of_ble_eq_true rfl) (Nat.le_of_ble_eq_true rfl) ?_
    exact W.zret (v := 1) hx hb hr rfl (fun t ht9 hW => ⟨⟨1, u7, rfl, ⟨(FC.tr (FC.rf _) (FC.up fr6 (by decide) (by decide))), ⟨z304, z305, z306, z312, z321, z326, z373, z381, zd, zlb, r3, ex1, (Or.inl ⟨z5, (Or.inr (⟨u7, ex6, ⟨fr6, i3056, i3066, i3216, i3266, i3816, pd6, pt6, plb6, po6, rs6⟩, rfl, rfl, rfl⟩))⟩)⟩, (show 0 ≤ (u7.1 0 305).toInt ∧ (u7.1 0 305).toInt ≤ 1500 from (om_c55c38ddc1 z305 i3056 pt6)), (show 0 ≤ (u7.1 0 306).toInt ∧ (u7.1 0 306).toInt ≤ 40 from (om_7eaf33e007 i3066)), (show 0 ≤ (u7.1 0 321).toInt ∧ (u7.1 0 321).toInt ≤ 501 from (om_e1d35f5faf i3216)), (show 0 ≤ (u7.1 0 326).toInt ∧ (u7.1 0 326).toInt ≤ 420 from (om_839d7ed7dd i3266)), (show 0 ≤ (u7.1 0 381).toInt ∧ (u7.1 0 381).toInt ≤ 3008 from (om_a26ca01a96 zd i3056 i3266 i3816 pd6)), (show (u7.1 0 381).toInt + (u7.1 0 326).toInt - 2 * (u7.1 0 305).toInt + (0) ≤ (v.1 0 381).toInt + (v.1 0 326).toInt - 2 * (v.1 0 305).toInt from (om_af69f846cc pd6)), (show (v.1 0 305).toInt + 0 ≤ (u7.1 0 305).toInt from (om_89463992d8 pt6)), (show (v.1 0 317).toInt ≤ (u7.1 0 317).toInt ∧ (u7.1 0 317).toInt - 4 * (u7.1 0 305).toInt ≤ (v.1 0 317).toInt - 4 * (v.1 0 305).toInt + 0 from (om_53a6d658c3 plb6)), (show (u7.1 0 306).toInt = (v.1 0 306).toInt from (om_5049cbdce5 po6)), (RS.tr RS.rf rs6), (Or.inr rfl)⟩, ⟨by rw [ht9]; exact hP, hD⟩, by rw [ht9]; exact hz⟩, hS.F ht9⟩) hS.2.2 dX5_optional_22
  · have z9 : r3.toInt = pa.toInt := eq_z rfl rfl h4
    refine lv_iconst (v := 0) hx hb dX5_optional_11 (by decide) ?_
    refine W.sz (fun hz => ?_)
    refine vx_ret ?_
    refine W.widen (k := 1) (n := 6) (Nat.le_of_ble_eq_true rfl) (Nat.le_of_ble_eq_true rfl) ?_
    exact W.zret (v := 0) hx hb hr rfl (fun t ht9 hW => ⟨⟨0, v, rfl, ⟨(FC.rf _), ⟨z304, z305, z306, z312, z321, z326, z373, z381, zd, zlb, r3, ex1, (Or.inr (⟨z9, rfl, rfl, rfl⟩))⟩, (show 0 ≤ (v.1 0 305).toInt ∧ (v.1 0 305).toInt ≤ 1500 from (om_7897b4ccef z305)), (show 0 ≤ (v.1 0 306).toInt ∧ (v.1 0 306).toInt ≤ 40 from (om_7eaf33e007 z306)), (show 0 ≤ (v.1 0 321).toInt ∧ (v.1 0 321).toInt ≤ 501 from (om_e1d35f5faf z321)), (show 0 ≤ (v.1 0 326).toInt ∧ (v.1 0 326).toInt ≤ 420 from (om_839d7ed7dd z326)), (show 0 ≤ (v.1 0 381).toInt ∧ (v.1 0 381).toInt ≤ 3008 from (om_d5d375da37 z305 z326 z381 zd)), (show (v.1 0 381).toInt + (v.1 0 326).toInt - 2 * (v.1 0 305).toInt + (0) ≤ (v.1 0 381).toInt + (v.1 0 326).toInt - 2 * (v.1 0 305).toInt from om_45fe7e6688), (show (v.1 0 305).toInt + 0 ≤ (v.1 0 305).toInt from om_e3fea0ce17), (show (v.1 0 317).toInt ≤ (v.1 0 317).toInt ∧ (v.1 0 317).toInt - 4 * (v.1 0 305).toInt ≤ (v.1 0 317).toInt - 4 * (v.1 0 305).toInt + 0 from om_e728ff856f), (show (v.1 0 306).toInt = (v.1 0 306).toInt from om_93d572ac38), RS.rf, (Or.inl rfl)⟩, ⟨by rw [ht9]; exact hP, hD⟩, by rw [ht9]; exact hz⟩, hS.F ht9⟩) hS.2.2 dX5_optional_12
def Cq_stat (l : Launch) (n : Nat) : Prop := ∀ (dC : Nat → ClassId) (dI : Nat → Nat → Nat) (cI cB cZ cJ cR : ClassId) (tb : Nat → Nat) (sz : Nat) (ad : Nat → Nat) (pr : Int32 → Nat) (N : Nat) (L1 L2 : List Nat) (v : MS) (ps : Int32) (z304 : 0 ≤ (v.1 0 304).toInt ∧ (v.1 0 304).toInt ≤ 1503) (z305 : 0 ≤ (v.1 0 305).toInt ∧ (v.1 0 305).toInt ≤ 1500) (z306 : 0 ≤ (v.1 0 306).toInt ∧ (v.1 0 306).toInt ≤ 40) (z312 : 0 ≤ (v.1 0 312).toInt ∧ (v.1 0 312).toInt ≤ 500) (z321 : 0 ≤ (v.1 0 321).toInt ∧ (v.1 0 321).toInt ≤ 501) (z326 : 0 ≤ (v.1 0 326).toInt ∧ (v.1 0 326).toInt ≤ 420) (z373 : 0 ≤ (v.1 0 373).toInt ∧ (v.1 0 373).toInt ≤ 4000) (z381 : 0 ≤ (v.1 0 381).toInt ∧ (v.1 0 381).toInt ≤ 3008) (hL1 : L1.length = 40) (hL2 : L2.length = 60) (rp : RP v) (hps : pr ps = ad 908) (es300 : (v.1 0 300) = ps) (es310 : (v.1 0 310) = ps) (hst : l.stackTraces = false) (zd : (v.1 0 381).toInt + (v.1 0 326).toInt - 2 * (v.1 0 305).toInt ≤ 0) (zlb : 0 ≤ (v.1 0 317).toInt ∧ (v.1 0 317).toInt - 4 * (v.1 0 305).toInt ≤ 8) (zn : 40 ≤ (v.1 0 306).toInt + (n : Int)), vx_Met l yX5_stat (Cond.code yX5_stat cX5_stat 1 none :: tw_W) ({ frames := 8 * n + 40, cells := 1, slots := 6, locals := 28 * (8 * n + 40) }) (pc_ (dC, dI) (tyS cI cB cZ cJ cR) tb (cW ad pr N cI cR L1 L2 v) sz [.ref (ad 903)]) (qvz_ (dC, dI) (cW ad pr N cI cR L1 L2 v) sz (fun (u : MS) => FC [305, 306, 307, 312, 313, 314, 315, 317, 321, 326, 331, 332, 381] [0, 311, 316, 318, 319, 320, 324, 325, 378, 379, 380] v u ∧ (QS L1 L2 n v false u) ∧ (0 ≤ (u.1 0 305).toInt ∧ (u.1 0 305).toInt ≤ 1500) ∧ (0 ≤ (u.1 0 306).toInt ∧ (u.1 0 306).toInt ≤ 40) ∧ (0 ≤ (u.1 0 312).toInt ∧ (u.1 0 312).toInt ≤ 500) ∧ (0 ≤ (u.1 0 321).toInt ∧ (u.1 0 321).toInt ≤ 501) ∧ (0 ≤ (u.1 0 326).toInt ∧ (u.1 0 326).toInt ≤ 420) ∧ (0 ≤ (u.1 0 381).toInt ∧ (u.1 0 381).toInt ≤ 3008) ∧ ((u.1 0 381).toInt + (u.1 0 326).toInt - 2 * (u.1 0 305).toInt + (1) ≤ (v.1 0 381).toInt + (v.1 0 326).toInt - 2 * (v.1 0 305).toInt) ∧ ((v.1 0 305).toInt + 1 ≤ (u.1 0 305).toInt) ∧ ((v.1 0 317).toInt ≤ (u.1 0 317).toInt ∧ (u.1 0 317).toInt - 4 * (u.1 0 305).toInt ≤ (v.1 0 317).toInt - 4 * (v.1 0 305).toInt + 0) ∧ ((u.1 0 306).toInt = (v.1 0 306).toInt) ∧ (RS v u)) (fun (u : MS) => (cW ad pr N cI cR L1 L2 u))) (qxc (dC, dI) (cW ad pr N cI cR L1 L2 v) sz (fun (u : MS) => (cW ad pr N cI cR L1 L2 u)) (fun (u : MS) => FC xfl xal v u ∧ (u.1 0 308).toInt ≠ 0 ∧ (QS L1 L2 n v true u))) 1 6 (va_A (cW ad pr N cI cR L1 L2 v) sz)
theorem om_543db34921 {n0 : Nat} : (8 * n0 + 40) + 1 ≤ 8 * n0 + 41 := by omega
theorem om_354ac17866 {n0 : Nat} : 8 + (1 + 11) + 28 * (8 * n0 + 40) ≤ 28 * (8 * n0 + 41) := by omega
set_option maxHeartbeats 16000000 in
set_option maxRecDepth 100000 in
theorem c_x_X5_innerStat (l : Launch) (n : Nat) (S : Cq_stat l n) (dC : Nat → ClassId) (dI : Nat → Nat → Nat) (cI cB cZ cJ cR : ClassId) (tb : Nat → Nat) (sz : Nat) (ad : Nat → Nat) (pr : Int32 → Nat) (N : Nat) (L1 L2 : List Nat) (v : MS) (ps : Int32) (z304 : 0 ≤ (v.1 0 304).toInt ∧ (v.1 0 304).toInt ≤ 1503) (z305 : 0 ≤ (v.1 0 305).toInt ∧ (v.1 0 305).toInt ≤ 1500) (z306 : 0 ≤ (v.1 0 306).toInt ∧ (v.1 0 306).toInt ≤ 40) (z312 : 0 ≤ (v.1 0 312).toInt ∧ (v.1 0 312).toInt ≤ 500) (z321 : 0 ≤ (v.1 0 321).toInt ∧ (v.1 0 321).toInt ≤ 501) (z326 : 0 ≤ (v.1 0 326).toInt ∧ (v.1 0 326).toInt ≤ 420) (z373 : 0 ≤ (v.1 0 373).toInt ∧ (v.1 0 373).toInt ≤ 4000) (z381 : 0 ≤ (v.1 0 381).toInt ∧ (v.1 0 381).toInt ≤ 3008) (hL1 : L1.length = 40) (hL2 : L2.length = 60) (rp : RP v) (hps : pr ps = ad 908) (es300 : (v.1 0 300) = ps) (es310 : (v.1 0 310) = ps) (hst : l.stackTraces = false) (zd : (v.1 0 381).toInt + (v.1 0 326).toInt - 2 * (v.1 0 305).toInt ≤ 0) (zlb : 0 ≤ (v.1 0 317).toInt ∧ (v.1 0 317).toInt - 4 * (v.1 0 305).toInt ≤ 8) (zn : 40 ≤ (v.1 0 306).toInt + (n : Int)) : vx_Met l yX5_innerStat (Cond.code yX5_innerStat cX5_innerStat 3 none :: tw_W) ({ frames := 8 * n + 41, cells := 1, slots := 6, locals := 28 * (8 * n + 41) }) (pc_ (dC, dI) (tyS cI cB cZ cJ cR) tb (cW ad pr N cI cR L1 L2 v) sz [.ref (ad 903)]) (qvz_ (dC, dI) (cW ad pr N cI cR L1 L2 v) sz (fun (u : MS) => FC [305, 306, 307, 312, 313, 314, 315, 317, 321, 326, 331, 332, 381] [0, 311, 316, 318, 319, 320, 324, 325, 378, 379, 380] v u ∧ (Q_x_X5_innerStat L1 L2 n (QS L1 L2 n) v false u) ∧ (0 ≤ (u.1 0 305).toInt ∧ (u.1 0 305).toInt ≤ 1500) ∧ (0 ≤ (u.1 0 306).toInt ∧ (u.1 0 306).toInt ≤ 40) ∧ (0 ≤ (u.1 0 312).toInt ∧ (u.1 0 312).toInt ≤ 500) ∧ (0 ≤ (u.1 0 321).toInt ∧ (u.1 0 321).toInt ≤ 501) ∧ (0 ≤ (u.1 0 326).toInt ∧ (u.1 0 326).toInt ≤ 420) ∧ (0 ≤ (u.1 0 381).toInt ∧ (u.1 0 381).toInt ≤ 3008) ∧ ((u.1 0 381).toInt + (u.1 0 326).toInt - 2 * (u.1 0 305).toInt + (1) ≤ (v.1 0 381).toInt + (v.1 0 326).toInt - 2 * (v.1 0 305).toInt) ∧ ((v.1 0 305).toInt + 1 ≤ (u.1 0 305).toInt) ∧ ((v.1 0 317).toInt ≤ (u.1 0 317).toInt ∧ (u.1 0 317).toInt - 4 * (u.1 0 305).toInt ≤ (v.1 0 317).toInt - 4 * (v.1 0 305).toInt + 0) ∧ ((u.1 0 306).toInt = (v.1 0 306).toInt) ∧ (RS v u)) (fun (u : MS) => (cW ad pr N cI cR L1 L2 u))) (qxc (dC, dI) (cW ad pr N cI cR L1 L2 v) sz (fun (u : MS) => (cW ad pr N cI cR L1 L2 u)) (fun (u : MS) => FC xfl xal v u ∧ (u.1 0 308).toInt ≠ 0 ∧ (Q_x_X5_innerStat L1 L2 n (QS L1 L2 n) v true u))) 1 6 (va_A (cW ad pr N cI cR L1 L2 v) sz) := by
  refine vx_ofW (cc := cX5_innerStat) (maxL := 3) (ret := none) (by decide) rfl ?_
  intro p e s m args below meth c s₁ B hml hnt hv
  obtain ⟨rfl, hsz, hP, hKK, hD0, hFx⟩ := hv
  have hK := hKK.1
  have hx := B.exec
  have hb := B.bytes
  have hr := B.returns
  have ht : ∀ w ∈ tw_W, w.before _ s = true := fun w h => atoms_spec (ws := Cond.code yX5_innerStat cX5_innerStat 3 none :: tw_W) B.pre w (List.mem_cons_of_mem _ h)
  have hown : s.vm.findClass RX5 = some m.cls := findClass_of_methodNamed B.named
  have hlocks := B.notSynchronized
  subst hsz
  unfold qvz_ qxc
  have hD := hD0.self (sz := s.heap.size)
  generalize hAe : va_A (cW ad pr N cI cR L1 L2 v) s.heap.size = A at hD hFx ⊢
  have hA : ∀ q : Nat, s.heap.size ≤ q → A q := fun q h => by rw [← hAe]; exact Or.inr h
  have hS : va_S A s.heap s.heap [] := va_S.rf
  have hl := lv_entry ([.ref (ad 903)]) (n := 3) (Nat.le_of_ble_eq_true rfl)
  rw [lg_entry_eq]
  generalize (lg_sl ([.ref (ad 903)]) ++ List.replicate (3 - (lg_sl ([.ref (ad 903)])).length) Slot.unset).toArray = ls at hl ⊢
  have hl : lv_has ls 3 [(0, .ref (ad 903))] := hl
  refine lv_aload_n hx hb dX5_innerStat_0 rfl (lv_at hl 0 rfl) ?_
  refine va_get (D := (dC, dI)) (ci := 8) (fs := oF_X5 ad pr v) (v := .ref (ad 901)) (C := RX5) (T := TX5) (N := 7) hx hb ht itX5 hown hK hP 3 rfl rfl 2 (by decide) (ht _ tw_573) (fun _ h9 => h9) rfl dX5_innerStat_1 ?_
  refine va_getN (D := (dC, dI)) (ci := 5) (fs := oF_X1 ad pr v) (v := .int (v.1 0 312)) (C := RX1) (T := TX1) (N := 12) hx hb ht itX1 hown hK hP 1 rfl rfl 2 (by decide) (hKK.fl2 4 rfl) (fun _ h9 => h9) rfl dX5_innerStat_4 ?_
  refine lv_istore_n (lv' := [(1, .int (v.1 0 312)), (0, .ref (ad 903))]) hx hb dX5_innerStat_7 rfl hl (by decide) rfl (fun ls hl => ?_)
  refine lv_aload_n hx hb dX5_innerStat_8 rfl (lv_at hl 1 rfl) ?_
  refine va_get (D := (dC, dI)) (ci := 8) (fs := oF_X5 ad pr v) (v := .ref (ad 901)) (C := RX5) (T := TX5) (N := 7) hx hb ht itX5 hown hK hP 3 rfl rfl 2 (by decide) (ht _ tw_573) (fun _ h9 => h9) rfl dX5_innerStat_9 ?_
  refine va_getN (D := (dC, dI)) (ci := 5) (fs := oF_X1 ad pr v) (v := .int (v.1 0 313)) (C := RX1) (T := TX1) (N := 12) hx hb ht itX1 hown hK hP 1 rfl rfl 3 (by decide) (hKK.fl2 5 rfl) (fun _ h9 => h9) rfl dX5_innerStat_12 ?_
  refine lv_istore_n (lv' := [(2, .int (v.1 0 313)), (1, .int (v.1 0 312)), (0, .ref (ad 903))]) hx hb dX5_innerStat_15 rfl hl (by decide) rfl (fun ls hl => ?_)
  refine lv_aload_n hx hb dX5_innerStat_16 rfl (lv_at hl 2 rfl) ?_
  refine va_get (D := (dC, dI)) (ci := 8) (fs := oF_X5 ad pr v) (v := .ref (ad 901)) (C := RX5) (T := TX5) (N := 7) hx hb ht itX5 hown hK hP 3 rfl rfl 2 (by decide) (ht _ tw_573) (fun _ h9 => h9) rfl dX5_innerStat_17 ?_
  refine lv_iload_n hx hb dX5_innerStat_20 rfl (lv_at hl 1 rfl) ?_
  refine va_putN (D := (dC, dI)) (ci := 5) (fs := oF_X1 ad pr v) (v := .int (v.1 0 312)) (ty := .int) (C := RX1) (T := TX1) (N := 12) hx hb ht itX1 tyX1 tyX1_ok nmX1 hown hK hP hD hS 1 rfl rfl 3 (by decide) (hKK.fl2 5 rfl) (fun _ h9 => h9) rfl (by decide +kernel) rfl rfl (Nat.le_of_ble_eq_true rfl) dX5_innerStat_21 (fun H locs hP hD hS => ?_)
  have hP := cP_ (cw_313 ad pr N cI cR L1 L2 v (v.1 0 312)) hP
  have hD := cD_ (cw_313 ad pr N cI cR L1 L2 v (v.1 0 312)) hD
  refine lv_aload_n hx hb dX5_innerStat_24 rfl (lv_at hl 2 rfl) ?_
  refine W.sz (fun hz9 => ?_)
  refine czx_v (rx_Vk (n := 0) (As := []) (rest := []) hx hb hml hown ht hKK hFx hP hD hS hA (S dC dI cI cB cZ cJ cR tb H.size ad pr N L1 L2 (wA v 0 313 (v.1 0 312)) ps (show 0 ≤ (v.1 0 304).toInt ∧ (v.1 0 304).toInt ≤ 1503 from (om_c99648273b z304)) (show 0 ≤ (v.1 0 305).toInt ∧ (v.1 0 305).toInt ≤ 1500 from (om_7897b4ccef z305)) (show 0 ≤ (v.1 0 306).toInt ∧ (v.1 0 306).toInt ≤ 40 from (om_7eaf33e007 z306)) (show 0 ≤ (v.1 0 312).toInt ∧ (v.1 0 312).toInt ≤ 500 from (om_9861e69da5 z312)) (show 0 ≤ (v.1 0 321).toInt ∧ (v.1 0 321).toInt ≤ 501 from (om_e1d35f5faf z321)) (show 0 ≤ (v.1 0 326).toInt ∧ (v.1 0 326).toInt ≤ 420 from (om_839d7ed7dd z326)) (show 0 ≤ (v.1 0 373).toInt ∧ (v.1 0 373).toInt ≤ 4000 from (om_c74a68af25 z373)) (show 0 ≤ (v.1 0 381).toInt ∧ (v.1 0 381).toInt ≤ 3008 from (om_d5d375da37 z305 z326 z381 zd)) (show L1.length = 40 from hL1) (show L2.length = 60 from hL2) (show RP (wA v 0 313 (v.1 0 312)) from ((show FC [305, 306, 307, 312, 313, 314, 315, 317, 321, 326, 331, 332, 381] [0, 311, 316, 318, 319, 320, 324, 325, 378, 379, 380] v (wA v 0 313 (v.1 0 312)) from (FC.f (FC.rf _) (v.1 0 312) (by decide))).1 rp)) (show pr ps = ad 908 from hps) (show (v.1 0 300) = ps from es300) (show (v.1 0 310) = ps from es310) (show l.stackTraces = false from hst) (show (v.1 0 381).toInt + (v.1 0 326).toInt - 2 * (v.1 0 305).toInt ≤ 0 from (om_53f6704e77 zd)) (show 0 ≤ (v.1 0 317).toInt ∧ (v.1 0 317).toInt - 4 * (v.1 0 305).toInt ≤ 8 from (om_8c45074a6a zlb)) (show 40 ≤ (v.1 0 306).toInt + (n : Int) from (om_a9150ae9b6 zn))) tw_612 tw_613 (by decide +kernel) rfl rfl ⟨show (8 * n + 40) + 1 ≤ 8 * n + 41 from om_543db34921, show 8 + (1 + 11) + 28 * (8 * n + 40) ≤ 28 * (8 * n + 41) from om_354ac17866⟩ (List.range (cW ad pr N cI cR L1 L2 (wA v 0 313 (v.1 0 312))).length) (rg_map _) (nd_range _) 3 rfl rfl rfl rfl hl.1 rfl (Nat.le_of_ble_eq_true rfl) dX5_innerStat_25 ⟨Nat.le_of_ble_eq_true rfl, Nat.le_of_ble_eq_true rfl⟩) hP hD hS hA (fun u9 ce9 q9 H locs hx9 hP hD hS hc9 hv9 hf9 => ?_) (fun u2 H locs hw1 hP hD hS hz8 => ?_)
  · exact vx_out (fun x h9 => (hnt x h9).elim) hlocks hc9 hv9 hf9 (fun t9 ht9 hv8 => ⟨u9, ⟨FC.tr (FC.f (FC.rf _) (v.1 0 312) (by decide)) hx9.1, hx9.2.1, ⟨z304, z305, z306, z312, z321, z326, z373, z381, zd, zlb, (Or.inl ⟨u9, hx9.2.2, rfl, rfl⟩)⟩⟩, ⟨rfl, by rw [ht9]; exact hP, hD⟩, hS.F ht9⟩) hS.2.2 (Nat.le_refl _) (Nat.le_refl _)
  refine W.shrink (hz8.trans hz9) ?_
  obtain ⟨fr1, ex1, i3051, i3061, i3121, i3211, i3261, i3811, pd1, pt1, plb1, po1, rs1⟩ := hw1
  have i3051 : 0 ≤ (u2.1 0 305).toInt ∧ (u2.1 0 305).toInt ≤ 1500 := i3051
  have i3061 : 0 ≤ (u2.1 0 306).toInt ∧ (u2.1 0 306).toInt ≤ 40 := i3061
  have i3121 : 0 ≤ (u2.1 0 312).toInt ∧ (u2.1 0 312).toInt ≤ 500 := i3121
  have i3211 : 0 ≤ (u2.1 0 321).toInt ∧ (u2.1 0 321).toInt ≤ 501 := i3211
  have i3261 : 0 ≤ (u2.1 0 326).toInt ∧ (u2.1 0 326).toInt ≤ 420 := i3261
  have i3811 : 0 ≤ (u2.1 0 381).toInt ∧ (u2.1 0 381).toInt ≤ 3008 := i3811
  have pd1 : (u2.1 0 381).toInt + (u2.1 0 326).toInt - 2 * (u2.1 0 305).toInt + (1) ≤ (v.1 0 381).toInt + (v.1 0 326).toInt - 2 * (v.1 0 305).toInt := pd1
  have pt1 : (v.1 0 305).toInt + 1 ≤ (u2.1 0 305).toInt := pt1
  have plb1 : (v.1 0 317).toInt ≤ (u2.1 0 317).toInt ∧ (u2.1 0 317).toInt - 4 * (u2.1 0 305).toInt ≤ (v.1 0 317).toInt - 4 * (v.1 0 305).toInt + 0 := plb1
  have po1 : (u2.1 0 306).toInt = (v.1 0 306).toInt := po1
  have rs1 : RS (wA v 0 313 (v.1 0 312)) u2 := rs1
  refine lv_aload_n hx hb dX5_innerStat_28 rfl (lv_at hl 2 rfl) ?_
  refine va_get (D := (dC, dI)) (ci := 8) (fs := oF_X5 ad pr u2) (v := .ref (ad 901)) (C := RX5) (T := TX5) (N := 7) hx hb ht itX5 hown hK hP 3 rfl rfl 2 (by decide) (ht _ tw_573) (fun _ h9 => h9) rfl dX5_innerStat_29 ?_
  refine lv_iload_n hx hb dX5_innerStat_32 rfl (lv_at hl 1 rfl) ?_
  refine va_putN (D := (dC, dI)) (ci := 5) (fs := oF_X1 ad pr u2) (v := .int (v.1 0 312)) (ty := .int) (C := RX1) (T := TX1) (N := 12) hx hb ht itX1 tyX1 tyX1_ok nmX1 hown hK hP hD hS 1 rfl rfl 2 (by decide) (hKK.fl2 4 rfl) (fun _ h9 => h9) rfl (by decide +kernel) rfl rfl (Nat.le_of_ble_eq_true rfl) dX5_innerStat_33 (fun H locs hP hD hS => ?_)
  have hP := cP_ (cw_312 ad pr N cI cR L1 L2 u2 (v.1 0 312)) hP
  have hD := cD_ (cw_312 ad pr N cI cR L1 L2 u2 (v.1 0 312)) hD
  refine lv_aload_n hx hb dX5_innerStat_36 rfl (lv_at hl 2 rfl) ?_
  refine va_get (D := (dC, dI)) (ci := 8) (fs := oF_X5 ad pr (wA u2 0 312 (v.1 0 312))) (v := .ref (ad 901)) (C := RX5) (T := TX5) (N := 7) hx hb ht itX5 hown hK hP 3 rfl rfl 2 (by decide) (ht _ tw_573) (fun _ h9 => h9) rfl dX5_innerStat_37 ?_
  refine lv_iload_n hx hb dX5_innerStat_40 rfl (lv_at hl 0 rfl) ?_
  refine va_putN (D := (dC, dI)) (ci := 5) (fs := oF_X1 ad pr (wA u2 0 312 (v.1 0 312))) (v := .int (v.1 0 313)) (ty := .int) (C := RX1) (T := TX1) (N := 12) hx hb ht itX1 tyX1 tyX1_ok nmX1 hown hK hP hD hS 1 rfl rfl 3 (by decide) (hKK.fl2 5 rfl) (fun _ h9 => h9) rfl (by decide +kernel) rfl rfl (Nat.le_of_ble_eq_true rfl) dX5_innerStat_41 (fun H locs hP hD hS => ?_)
  have hP := cP_ (cw_313 ad pr N cI cR L1 L2 (wA u2 0 312 (v.1 0 312)) (v.1 0 313)) hP
  have hD := cD_ (cw_313 ad pr N cI cR L1 L2 (wA u2 0 312 (v.1 0 312)) (v.1 0 313)) hD
  refine W.sz (fun hz => ?_)
  refine vx_ret ?_
  refine W.widen (k := 1) (n := 6) (Nat.le_of_ble_eq_true rfl) (Nat.le_of_ble_eq_true rfl) ?_
  exact W.vret hx hb hr (fun t ht9 hW => ⟨⟨(wA (wA u2 0 312 (v.1 0 312)) 0 313 (v.1 0 313)), rfl, ⟨(FC.f (FC.f (FC.tr (FC.f (FC.rf _) (v.1 0 312) (by decide)) (FC.up fr1 (by decide) (by decide))) (v.1 0 312) (by decide)) (v.1 0 313) (by decide)), ⟨z304, z305, z306, z312, z321, z326, z373, z381, zd, zlb, (Or.inr (⟨u2, ex1, ⟨fr1, i3051, i3061, i3121, i3211, i3261, i3811, pd1, pt1, plb1, po1, rs1⟩, rfl, rfl⟩))⟩, (show 0 ≤ (u2.1 0 305).toInt ∧ (u2.1 0 305).toInt ≤ 1500 from (om_c55c38ddc1 z305 i3051 pt1)), (show 0 ≤ (u2.1 0 306).toInt ∧ (u2.1 0 306).toInt ≤ 40 from (om_7eaf33e007 i3061)), (show 0 ≤ (v.1 0 312).toInt ∧ (v.1 0 312).toInt ≤ 500 from (om_9861e69da5 z312)), (show 0 ≤ (u2.1 0 321).toInt ∧ (u2.1 0 321).toInt ≤ 501 from (om_e1d35f5faf i3211)), (show 0 ≤ (u2.1 0 326).toInt ∧ (u2.1 0 326).toInt ≤ 420 from (om_839d7ed7dd i3261)), (show 0 ≤ (u2.1 0 381).toInt ∧ (u2.1 0 381).toInt ≤ 3008 from (om_a26ca01a96 zd i3051 i3261 i3811 pd1)), (show (u2.1 0 381).toInt + (u2.1 0 326).toInt - 2 * (u2.1 0 305).toInt + (1) ≤ (v.1 0 381).toInt + (v.1 0 326).toInt - 2 * (v.1 0 305).toInt from (om_9440a3056d pd1)), (show (v.1 0 305).toInt + 1 ≤ (u2.1 0 305).toInt from (om_57733d93f1 pt1)), (show (v.1 0 317).toInt ≤ (u2.1 0 317).toInt ∧ (u2.1 0 317).toInt - 4 * (u2.1 0 305).toInt ≤ (v.1 0 317).toInt - 4 * (v.1 0 305).toInt + 0 from (om_53a6d658c3 plb1)), (show (u2.1 0 306).toInt = (v.1 0 306).toInt from (om_5049cbdce5 po1)), (RS.w0 (RS.w0 (RS.tr (RS.w0 RS.rf (by decide)) rs1) (by decide)) (by decide))⟩, ⟨by rw [ht9]; exact hP, hD⟩, by rw [ht9]; exact hz⟩, hS.F ht9⟩) hS.2.2 dX5_innerStat_44
theorem om_a6480570d5 {x0 x1 : Int} : x0 ≤ x0 ∧ x0 - 4 * x1 ≤ x0 - 4 * x1 := by omega
theorem om_a717a04b8e {x0 : Int} : x0 = x0 + 0 := by omega
theorem om_931eb65218 {x0 x1 x2 x3 x4 x5 : Int} (h0 : x0 + x1 - 2 * x2 ≤ 0) (h1 : 0 ≤ x3 ∧ x3 ≤ 1500) (h2 : 0 ≤ x4 ∧ x4 ≤ 420) (h3 : 0 ≤ x5 ∧ x5 ≤ 3008) (h4 : x5 + x4 - 2 * x3 + (0) ≤ x0 + x1 - 2 * x2) : 0 ≤ x5 ∧ x5 ≤ 3008 := by omega
theorem om_c3e6011732 {x0 x1 x2 x3 : Int} (h0 : x0 ≤ x1 ∧ x1 - 4 * x2 ≤ x0 - 4 * x3) : x3 + 0 ≤ x2 := by omega
theorem om_e45a810e20 {x0 x1 x2 x3 : Int} (h0 : x0 ≤ x1 ∧ x1 - 4 * x2 ≤ x0 - 4 * x3) : x0 ≤ x1 ∧ x1 - 4 * x2 ≤ x0 - 4 * x3 + 0 := by omega
theorem om_9b3a2c9016 {x0 x1 : Int} (h0 : x0 = x1 + 0) : x0 = x1 := by omega
theorem om_2607c9eef4 {n0 : Nat} : 0 + 1 ≤ 8 * n0 + 41 := by omega
theorem om_4b254d574d {n0 : Nat} : 8 + (1 + 11) + 0 ≤ 28 * (8 * n0 + 41) := by omega
theorem om_90697517d8 {x0 x1 x2 x3 x4 x5 : Int} (h0 : x0 + x1 - 2 * x2 ≤ 0) (h1 : x3 + x4 - 2 * x5 + (0) ≤ x0 + x1 - 2 * x2) : x3 + x4 - 2 * x5 ≤ 0 := by omega
theorem om_508b917875 {x0 x1 x2 x3 : Int} (h0 : 0 ≤ x0 ∧ x0 - 4 * x1 ≤ 8) (h1 : x0 ≤ x2 ∧ x2 - 4 * x3 ≤ x0 - 4 * x1) : 0 ≤ x2 ∧ x2 - 4 * x3 ≤ 8 := by omega
theorem om_be0471eb0d {x0 x2 : Int} {n1 : Nat} (h0 : 40 ≤ x0 + (n1 : Int)) (h1 : x2 = x0 + 0) : 40 ≤ x2 + (n1 : Int) := by omega
theorem om_00e8ca32b5 {x0 x1 x2 x3 x4 x5 x6 x7 x8 : Int} (h0 : x0 + x1 - 2 * x2 ≤ 0) (h1 : x3 + x4 - 2 * x5 + (0) ≤ x0 + x1 - 2 * x2) (h2 : 0 ≤ x6 ∧ x6 ≤ 1500) (h3 : 0 ≤ x7 ∧ x7 ≤ 420) (h4 : 0 ≤ x8 ∧ x8 ≤ 3008) (h5 : x8 + x7 - 2 * x6 + (1) ≤ x3 + x4 - 2 * x5) : 0 ≤ x8 ∧ x8 ≤ 3008 := by omega
theorem om_ab10a23256 {x0 x1 x2 x3 x4 : Int} (h0 : x0 ≤ x1 ∧ x1 - 4 * x2 ≤ x0 - 4 * x3) (h1 : x2 + 1 ≤ x4) : x3 + 0 ≤ x4 := by omega
theorem om_8970076ad6 {x0 x1 x2 x3 x4 x5 : Int} (h0 : x0 ≤ x1 ∧ x1 - 4 * x2 ≤ x0 - 4 * x3) (h1 : x1 ≤ x4 ∧ x4 - 4 * x5 ≤ x1 - 4 * x2 + 0) : x0 ≤ x4 ∧ x4 - 4 * x5 ≤ x0 - 4 * x3 := by omega
theorem om_0fb3cd0eda {x0 x1 x2 x3 x4 x5 x6 x7 x8 : Int} (h0 : x0 + x1 - 2 * x2 + (0) ≤ x3 + x4 - 2 * x5) (h1 : x6 + x7 - 2 * x8 + (1) ≤ x0 + x1 - 2 * x2) : x6 + x7 - 2 * x8 + (0) ≤ x3 + x4 - 2 * x5 := by omega
theorem om_df2cd5d267 {x0 x1 x2 : Int} (h0 : x0 = x1 + 0) (h1 : x2 = x0) : x2 = x1 + 0 := by omega
set_option maxHeartbeats 16000000 in
set_option maxRecDepth 100000 in
theorem c_x_X5_stats (l : Launch) (n : Nat) (S : Cq_stat l n) (dC : Nat → ClassId) (dI : Nat → Nat → Nat) (cI cB cZ cJ cR : ClassId) (tb : Nat → Nat) (sz : Nat) (ad : Nat → Nat) (pr : Int32 → Nat) (N : Nat) (L1 L2 : List Nat) (v : MS) (ps : Int32) (z304 : 0 ≤ (v.1 0 304).toInt ∧ (v.1 0 304).toInt ≤ 1503) (z305 : 0 ≤ (v.1 0 305).toInt ∧ (v.1 0 305).toInt ≤ 1500) (z306 : 0 ≤ (v.1 0 306).toInt ∧ (v.1 0 306).toInt ≤ 40) (z312 : 0 ≤ (v.1 0 312).toInt ∧ (v.1 0 312).toInt ≤ 500) (z321 : 0 ≤ (v.1 0 321).toInt ∧ (v.1 0 321).toInt ≤ 501) (z326 : 0 ≤ (v.1 0 326).toInt ∧ (v.1 0 326).toInt ≤ 420) (z373 : 0 ≤ (v.1 0 373).toInt ∧ (v.1 0 373).toInt ≤ 4000) (z381 : 0 ≤ (v.1 0 381).toInt ∧ (v.1 0 381).toInt ≤ 3008) (hL1 : L1.length = 40) (hL2 : L2.length = 60) (rp : RP v) (hps : pr ps = ad 908) (es300 : (v.1 0 300) = ps) (es310 : (v.1 0 310) = ps) (hst : l.stackTraces = false) (zd : (v.1 0 381).toInt + (v.1 0 326).toInt - 2 * (v.1 0 305).toInt ≤ 0) (zlb : 0 ≤ (v.1 0 317).toInt ∧ (v.1 0 317).toInt - 4 * (v.1 0 305).toInt ≤ 8) (zn : 40 ≤ (v.1 0 306).toInt + (n : Int)) : vx_Met l yX5_stats (Cond.code yX5_stats cX5_stats 2 none :: tw_W) ({ frames := 8 * n + 41, cells := 1, slots := 6, locals := 28 * (8 * n + 41) }) (pc_ (dC, dI) (tyS cI cB cZ cJ cR) tb (cW ad pr N cI cR L1 L2 v) sz [.ref (ad 903)]) (qvz_ (dC, dI) (cW ad pr N cI cR L1 L2 v) sz (fun (u : MS) => FC [305, 306, 307, 312, 313, 314, 315, 317, 321, 326, 331, 332, 381] [0, 311, 316, 318, 319, 320, 324, 325, 378, 379, 380] v u ∧ (Q_x_X5_stats L1 L2 n (QS L1 L2 n) v false u) ∧ (0 ≤ (u.1 0 305).toInt ∧ (u.1 0 305).toInt ≤ 1500) ∧ (0 ≤ (u.1 0 306).toInt ∧ (u.1 0 306).toInt ≤ 40) ∧ (0 ≤ (u.1 0 312).toInt ∧ (u.1 0 312).toInt ≤ 500) ∧ (0 ≤ (u.1 0 321).toInt ∧ (u.1 0 321).toInt ≤ 501) ∧ (0 ≤ (u.1 0 326).toInt ∧ (u.1 0 326).toInt ≤ 420) ∧ (0 ≤ (u.1 0 381).toInt ∧ (u.1 0 381).toInt ≤ 3008) ∧ ((u.1 0 381).toInt + (u.1 0 326).toInt - 2 * (u.1 0 305).toInt + (0) ≤ (v.1 0 381).toInt + (v.1 0 326).toInt - 2 * (v.1 0 305).toInt) ∧ ((v.1 0 305).toInt + 0 ≤ (u.1 0 305).toInt) ∧ ((v.1 0 317).toInt ≤ (u.1 0 317).toInt ∧ (u.1 0 317).toInt - 4 * (u.1 0 305).toInt ≤ (v.1 0 317).toInt - 4 * (v.1 0 305).toInt + 0) ∧ ((u.1 0 306).toInt = (v.1 0 306).toInt) ∧ (RS v u)) (fun (u : MS) => (cW ad pr N cI cR L1 L2 u))) (qxc (dC, dI) (cW ad pr N cI cR L1 L2 v) sz (fun (u : MS) => (cW ad pr N cI cR L1 L2 u)) (fun (u : MS) => FC xfl xal v u ∧ (u.1 0 308).toInt ≠ 0 ∧ (Q_x_X5_stats L1 L2 n (QS L1 L2 n) v true u))) 1 6 (va_A (cW ad pr N cI cR L1 L2 v) sz) := by
  refine vx_ofW (cc := cX5_stats) (maxL := 2) (ret := none) (by decide) rfl ?_
  intro p e s m args below meth c s₁ B hml hnt hv
  obtain ⟨rfl, hsz, hP, hKK, hD0, hFx⟩ := hv
  have hK := hKK.1
  have hx := B.exec
  have hb := B.bytes
  have hr := B.returns
  have ht : ∀ w ∈ tw_W, w.before _ s = true := fun w h => atoms_spec (ws := Cond.code yX5_stats cX5_stats 2 none :: tw_W) B.pre w (List.mem_cons_of_mem _ h)
  have hown : s.vm.findClass RX5 = some m.cls := findClass_of_methodNamed B.named
  have hlocks := B.notSynchronized
  subst hsz
  unfold qvz_ qxc
  have hD := hD0.self (sz := s.heap.size)
  generalize hAe : va_A (cW ad pr N cI cR L1 L2 v) s.heap.size = A at hD hFx ⊢
  have hA : ∀ q : Nat, s.heap.size ≤ q → A q := fun q h => by rw [← hAe]; exact Or.inr h
  have hS : va_S A s.heap s.heap [] := va_S.rf
  have hl := lv_entry ([.ref (ad 903)]) (n := 2) (Nat.le_of_ble_eq_true rfl)
  rw [lg_entry_eq]
  generalize (lg_sl ([.ref (ad 903)]) ++ List.replicate (2 - (lg_sl ([.ref (ad 903)])).length) Slot.unset).toArray = ls at hl ⊢
  have hl : lv_has ls 2 [(0, .ref (ad 903))] := hl
  refine lv_iconst (v := 0) hx hb dX5_stats_0 (by decide) ?_
  refine lv_istore_n (lv' := [(1, .int 0), (0, .ref (ad 903))]) hx hb dX5_stats_1 rfl hl (by decide) rfl (fun ls hl => ?_)
  refine lpm_ (X := Int32 × MS) (P := (fun (x9 : Int32 × MS) (H : Heap) (locs : List Loc) (ls : Array Slot) => (FC [305, 306, 307, 312, 313, 314, 315, 317, 321, 326, 331, 332, 381] [0, 311, 316, 318, 319, 320, 324, 325, 378, 379, 380] v x9.2) ∧ (0 ≤ (x9.2.1 0 305).toInt ∧ (x9.2.1 0 305).toInt ≤ 1500) ∧ (0 ≤ (x9.2.1 0 306).toInt ∧ (x9.2.1 0 306).toInt ≤ 40) ∧ (0 ≤ (x9.2.1 0 312).toInt ∧ (x9.2.1 0 312).toInt ≤ 500) ∧ (0 ≤ (x9.2.1 0 321).toInt ∧ (x9.2.1 0 321).toInt ≤ 501) ∧ (0 ≤ (x9.2.1 0 326).toInt ∧ (x9.2.1 0 326).toInt ≤ 420) ∧ (0 ≤ (x9.2.1 0 381).toInt ∧ (x9.2.1 0 381).toInt ≤ 3008) ∧ (0 ≤ x9.1.toInt ∧ x9.1.toInt ≤ 1500) ∧ (RS v x9.2) ∧ ((v.1 0 305).toInt + 0 ≤ (x9.2.1 0 305).toInt) ∧ ((v.1 0 317).toInt ≤ (x9.2.1 0 317).toInt ∧ (x9.2.1 0 317).toInt - 4 * (x9.2.1 0 305).toInt ≤ (v.1 0 317).toInt - 4 * (v.1 0 305).toInt) ∧ ((x9.2.1 0 381).toInt + (x9.2.1 0 326).toInt - 2 * (x9.2.1 0 305).toInt + (0) ≤ (v.1 0 381).toInt + (v.1 0 326).toInt - 2 * (v.1 0 305).toInt) ∧ ((x9.2.1 0 306).toInt = (v.1 0 306).toInt + 0) ∧ (RT (Q_x_X5_stats_L0 L1 L2 (QS L1 L2 n) v) (0, v) (x9.1, x9.2)) ∧ va_P (dC, dI) vwCl (cW ad pr N cI cR L1 L2 x9.2) H ∧ va_D A (cW ad pr N cI cR L1 L2 x9.2) ∧ va_S A s.heap H locs ∧ lv_has ls 2 [(1, .int x9.1), (0, .ref (ad 903))])) (fun x9 => (1500 - x9.1.toInt).toNat) 2 (fun x9 H locs ls hh ih2 => ?_) (0, v) _ _ _ ⟨(show FC [305, 306, 307, 312, 313, 314, 315, 317, 321, 326, 331, 332, 381] [0, 311, 316, 318, 319, 320, 324, 325, 378, 379, 380] v v from (FC.rf _)), (show 0 ≤ (v.1 0 305).toInt ∧ (v.1 0 305).toInt ≤ 1500 from (om_7897b4ccef z305)), (show 0 ≤ (v.1 0 306).toInt ∧ (v.1 0 306).toInt ≤ 40 from (om_7eaf33e007 z306)), (show 0 ≤ (v.1 0 312).toInt ∧ (v.1 0 312).toInt ≤ 500 from (om_9861e69da5 z312)), (show 0 ≤ (v.1 0 321).toInt ∧ (v.1 0 321).toInt ≤ 501 from (om_e1d35f5faf z321)), (show 0 ≤ (v.1 0 326).toInt ∧ (v.1 0 326).toInt ≤ 420 from (om_839d7ed7dd z326)), (show 0 ≤ (v.1 0 381).toInt ∧ (v.1 0 381).toInt ≤ 3008 from (om_d5d375da37 z305 z326 z381 zd)), (show 0 ≤ (0 : Int) ∧ (0 : Int) ≤ 1500 from om_b1c23a1f42), (show RS v v from RS.rf), (show (v.1 0 305).toInt + 0 ≤ (v.1 0 305).toInt from om_e3fea0ce17), (show (v.1 0 317).toInt ≤ (v.1 0 317).toInt ∧ (v.1 0 317).toInt - 4 * (v.1 0 305).toInt ≤ (v.1 0 317).toInt - 4 * (v.1 0 305).toInt from om_a6480570d5), (show (v.1 0 381).toInt + (v.1 0 326).toInt - 2 * (v.1 0 305).toInt + (0) ≤ (v.1 0 381).toInt + (v.1 0 326).toInt - 2 * (v.1 0 305).toInt from om_45fe7e6688), (show (v.1 0 306).toInt = (v.1 0 306).toInt + 0 from om_a717a04b8e), RT.rf, hP, hD, hS, lv_sub hl [0, 1] rfl⟩
  obtain ⟨ka, w2⟩ := x9
  obtain ⟨fwL2, i305L2, i306L2, i312L2, i321L2, i326L2, i381L2, f1L2, rsL2, ptL2, plbL2, pdL2, poL2, exL2, hP, hD, hS, hl⟩ := hh
  have fwL2 : FC [305, 306, 307, 312, 313, 314, 315, 317, 321, 326, 331, 332, 381] [0, 311, 316, 318, 319, 320, 324, 325, 378, 379, 380] v w2 := fwL2
  have i305L2 : 0 ≤ (w2.1 0 305).toInt ∧ (w2.1 0 305).toInt ≤ 1500 := i305L2
  have i306L2 : 0 ≤ (w2.1 0 306).toInt ∧ (w2.1 0 306).toInt ≤ 40 := i306L2
  have i312L2 : 0 ≤ (w2.1 0 312).toInt ∧ (w2.1 0 312).toInt ≤ 500 := i312L2
  have i321L2 : 0 ≤ (w2.1 0 321).toInt ∧ (w2.1 0 321).toInt ≤ 501 := i321L2
  have i326L2 : 0 ≤ (w2.1 0 326).toInt ∧ (w2.1 0 326).toInt ≤ 420 := i326L2
  have i381L2 : 0 ≤ (w2.1 0 381).toInt ∧ (w2.1 0 381).toInt ≤ 3008 := i381L2
  have f1L2 : 0 ≤ ka.toInt ∧ ka.toInt ≤ 1500 := f1L2
  have rsL2 : RS v w2 := rsL2
  have ptL2 : (v.1 0 305).toInt + 0 ≤ (w2.1 0 305).toInt := ptL2
  have plbL2 : (v.1 0 317).toInt ≤ (w2.1 0 317).toInt ∧ (w2.1 0 317).toInt - 4 * (w2.1 0 305).toInt ≤ (v.1 0 317).toInt - 4 * (v.1 0 305).toInt := plbL2
  have pdL2 : (w2.1 0 381).toInt + (w2.1 0 326).toInt - 2 * (w2.1 0 305).toInt + (0) ≤ (v.1 0 381).toInt + (v.1 0 326).toInt - 2 * (v.1 0 305).toInt := pdL2
  have poL2 : (w2.1 0 306).toInt = (v.1 0 306).toInt + 0 := poL2
  have hP : va_P (dC, dI) vwCl (cW ad pr N cI cR L1 L2 w2) H := hP
  have hD : va_D A (cW ad pr N cI cR L1 L2 w2) := hD
  have hl : lv_has ls 2 [(1, .int ka), (0, .ref (ad 903))] := hl
  refine lv_iload_n hx hb dX5_stats_2 rfl (lv_at hl 0 rfl) ?_
  refine lv_sipush (v := 1500) hx hb dX5_stats_3 (by decide) ?_
  refine lv_icmp_ge (tgt := 31) hx hb dX5_stats_6 (by decide) (fun h1 => ?_) (fun h1 => ?_)
  · have z2 : (1500 : Int) ≤ ka.toInt := le_z (show (1500 : Int32).toInt = (1500 : Int) by decide) rfl h1
    refine W.sz (fun hz => ?_)
    refine vx_ret ?_
    refine W.widen (k := 1) (n := 6) (Nat.le_of_ble_eq_true rfl) (Nat.le_of_ble_eq_true rfl) ?_
    exact W.vret hx hb hr (fun t ht9 hW => ⟨⟨w2, rfl, ⟨(FC.tr (FC.rf _) (FC.up fwL2 (by decide) (by decide))), ⟨z304, z305, z306, z312, z321, z326, z373, z381, zd, zlb, ka, w2, exL2, fwL2, i305L2, i306L2, i312L2, i321L2, i326L2, i381L2, f1L2, rsL2, ptL2, plbL2, pdL2, poL2, (Or.inl ⟨z2, rfl, rfl⟩)⟩, (show 0 ≤ (w2.1 0 305).toInt ∧ (w2.1 0 305).toInt ≤ 1500 from (om_7897b4ccef i305L2)), (show 0 ≤ (w2.1 0 306).toInt ∧ (w2.1 0 306).toInt ≤ 40 from (om_7eaf33e007 i306L2)), (show 0 ≤ (w2.1 0 312).toInt ∧ (w2.1 0 312).toInt ≤ 500 from (om_9861e69da5 i312L2)), (show 0 ≤ (w2.1 0 321).toInt ∧ (w2.1 0 321).toInt ≤ 501 from (om_e1d35f5faf i321L2)), (show 0 ≤ (w2.1 0 326).toInt ∧ (w2.1 0 326).toInt ≤ 420 from (om_839d7ed7dd i326L2)), (show 0 ≤ (w2.1 0 381).toInt ∧ (w2.1 0 381).toInt ≤ 3008 from (om_931eb65218 zd i305L2 i326L2 i381L2 pdL2)), (show (w2.1 0 381).toInt + (w2.1 0 326).toInt - 2 * (w2.1 0 305).toInt + (0) ≤ (v.1 0 381).toInt + (v.1 0 326).toInt - 2 * (v.1 0 305).toInt from (om_6bdfac9769 pdL2)), (show (v.1 0 305).toInt + 0 ≤ (w2.1 0 305).toInt from (om_c3e6011732 plbL2)), (show (v.1 0 317).toInt ≤ (w2.1 0 317).toInt ∧ (w2.1 0 317).toInt - 4 * (w2.1 0 305).toInt ≤ (v.1 0 317).toInt - 4 * (v.1 0 305).toInt + 0 from (om_e45a810e20 plbL2)), (show (w2.1 0 306).toInt = (v.1 0 306).toInt from (om_9b3a2c9016 poL2)), (RS.tr RS.rf rsL2)⟩, ⟨by rw [ht9]; exact hP, hD⟩, by rw [ht9]; exact hz⟩, hS.F ht9⟩) hS.2.2 dX5_stats_31
  · have z3 : ka.toInt < (1500 : Int) := nle_z (show (1500 : Int32).toInt = (1500 : Int) by decide) rfl h1
    refine lv_aload_n hx hb dX5_stats_9 rfl (lv_at hl 1 rfl) ?_
    refine va_get (D := (dC, dI)) (ci := 8) (fs := oF_X5 ad pr w2) (v := .ref (ad 900)) (C := RX5) (T := TX5) (N := 7) hx hb ht itX5 hown hK hP 3 rfl rfl 1 (by decide) (ht _ tw_571) (fun _ h9 => h9) rfl dX5_stats_10 ?_
    have q4 : (w2.1 0 304).toInt = (v.1 0 304).toInt := congrArg Int32.toInt ((fwL2.2.1 304 (by decide)).trans (show v.1 0 304 = (v.1 0 304) by rfl))
    refine cu_i (rn_Vk (n := 0) (As := []) (rest := []) hx hb hml hown ht hKK hFx hP hD hS hA (c_x_X9_kind l dC dI cI cB cZ cJ cR tb H.size ad pr N L1 L2 w2  (show 0 ≤ (w2.1 0 304).toInt ∧ (w2.1 0 304).toInt ≤ 1503 from (om_73002589c1 z304 q4)) (show 0 ≤ (w2.1 0 305).toInt ∧ (w2.1 0 305).toInt ≤ 1500 from (om_7897b4ccef i305L2))) tw_455 tw_594 (by decide +kernel) rfl rfl ⟨show 0 + 1 ≤ 8 * n + 41 from om_2607c9eef4, show 8 + (1 + 11) + 0 ≤ 28 * (8 * n + 41) from om_4b254d574d⟩ (List.range (cW ad pr N cI cR L1 L2 w2).length) (rg_map _) (nd_range _) 0 rfl rfl rfl rfl hl.1 rfl (Nat.le_of_ble_eq_true rfl) dX5_stats_13 ⟨Nat.le_of_ble_eq_true rfl, Nat.le_of_ble_eq_true rfl⟩) hP hD hS hA (fun r7 u6 H locs hw5 hP hD hS => ?_)
    obtain ⟨rfl, ex5⟩ := hw5
    refine W.widen (k := 0) (n := 0) (Nat.le_refl _) (Nat.le_refl _) ?_
    refine lv_bipush (v := 33) hx hb dX5_stats_16 (by decide) ?_
    refine lv_icmp_eq (tgt := 31) hx hb dX5_stats_18 (by decide) (fun h8 => ?_) (fun h8 => ?_)
    · have z9 : r7.toInt = (33 : Int) := eq_z rfl (show (33 : Int32).toInt = (33 : Int) by decide) h8
      refine W.sz (fun hz => ?_)
      refine vx_ret ?_
      refine W.widen (k := 1) (n := 6) (Nat.le_of_ble_eq_true rfl) (Nat.le_of_ble_eq_true rfl) ?_
      exact W.vret hx hb hr (fun t ht9 hW => ⟨⟨w2, rfl, ⟨(FC.tr (FC.rf _) (FC.up fwL2 (by decide) (by decide))), ⟨z304, z305, z306, z312, z321, z326, z373, z381, zd, zlb, ka, w2, exL2, fwL2, i305L2, i306L2, i312L2, i321L2, i326L2, i381L2, f1L2, rsL2, ptL2, plbL2, pdL2, poL2, (Or.inr (⟨z3, r7, ex5, (Or.inl ⟨z9, rfl, rfl⟩)⟩))⟩, (show 0 ≤ (w2.1 0 305).toInt ∧ (w2.1 0 305).toInt ≤ 1500 from (om_7897b4ccef i305L2)), (show 0 ≤ (w2.1 0 306).toInt ∧ (w2.1 0 306).toInt ≤ 40 from (om_7eaf33e007 i306L2)), (show 0 ≤ (w2.1 0 312).toInt ∧ (w2.1 0 312).toInt ≤ 500 from (om_9861e69da5 i312L2)), (show 0 ≤ (w2.1 0 321).toInt ∧ (w2.1 0 321).toInt ≤ 501 from (om_e1d35f5faf i321L2)), (show 0 ≤ (w2.1 0 326).toInt ∧ (w2.1 0 326).toInt ≤ 420 from (om_839d7ed7dd i326L2)), (show 0 ≤ (w2.1 0 381).toInt ∧ (w2.1 0 381).toInt ≤ 3008 from (om_931eb65218 zd i305L2 i326L2 i381L2 pdL2)), (show (w2.1 0 381).toInt + (w2.1 0 326).toInt - 2 * (w2.1 0 305).toInt + (0) ≤ (v.1 0 381).toInt + (v.1 0 326).toInt - 2 * (v.1 0 305).toInt from (om_6bdfac9769 pdL2)), (show (v.1 0 305).toInt + 0 ≤ (w2.1 0 305).toInt from (om_c3e6011732 plbL2)), (show (v.1 0 317).toInt ≤ (w2.1 0 317).toInt ∧ (w2.1 0 317).toInt - 4 * (w2.1 0 305).toInt ≤ (v.1 0 317).toInt - 4 * (v.1 0 305).toInt + 0 from (om_e45a810e20 plbL2)), (show (w2.1 0 306).toInt = (v.1 0 306).toInt from (om_9b3a2c9016 poL2)), (RS.tr RS.rf rsL2)⟩, ⟨by rw [ht9]; exact hP, hD⟩, by rw [ht9]; exact hz⟩, hS.F ht9⟩) hS.2.2 dX5_stats_31
    · have z10 : r7.toInt ≠ (33 : Int) := ne_z rfl (show (33 : Int32).toInt = (33 : Int) by decide) h8
      refine lv_aload_n hx hb dX5_stats_21 rfl (lv_at hl 1 rfl) ?_
      have q11 : (w2.1 0 373).toInt = (v.1 0 373).toInt := congrArg Int32.toInt ((fwL2.2.1 373 (by decide)).trans (show v.1 0 373 = (v.1 0 373) by rfl))
      refine W.sz (fun hz9 => ?_)
      refine czx_v (rx_Vk (n := 0) (As := []) (rest := []) hx hb hml hown ht hKK hFx hP hD hS hA (S dC dI cI cB cZ cJ cR tb H.size ad pr N L1 L2 w2 ps (show 0 ≤ (w2.1 0 304).toInt ∧ (w2.1 0 304).toInt ≤ 1503 from (om_73002589c1 z304 q4)) (show 0 ≤ (w2.1 0 305).toInt ∧ (w2.1 0 305).toInt ≤ 1500 from (om_7897b4ccef i305L2)) (show 0 ≤ (w2.1 0 306).toInt ∧ (w2.1 0 306).toInt ≤ 40 from (om_7eaf33e007 i306L2)) (show 0 ≤ (w2.1 0 312).toInt ∧ (w2.1 0 312).toInt ≤ 500 from (om_9861e69da5 i312L2)) (show 0 ≤ (w2.1 0 321).toInt ∧ (w2.1 0 321).toInt ≤ 501 from (om_e1d35f5faf i321L2)) (show 0 ≤ (w2.1 0 326).toInt ∧ (w2.1 0 326).toInt ≤ 420 from (om_839d7ed7dd i326L2)) (show 0 ≤ (w2.1 0 373).toInt ∧ (w2.1 0 373).toInt ≤ 4000 from (om_9084c127ed z373 q11)) (show 0 ≤ (w2.1 0 381).toInt ∧ (w2.1 0 381).toInt ≤ 3008 from (om_931eb65218 zd i305L2 i326L2 i381L2 pdL2)) (show L1.length = 40 from hL1) (show L2.length = 60 from hL2) (show RP w2 from ((show FC [305, 306, 307, 312, 313, 314, 315, 317, 321, 326, 331, 332, 381] [0, 311, 316, 318, 319, 320, 324, 325, 378, 379, 380] v w2 from (FC.tr (FC.rf _) (FC.up fwL2 (by decide) (by decide)))).1 rp)) (show pr ps = ad 908 from hps) (show (w2.1 0 300) = ps from (Eq.trans (fwL2.2.1 300 (by decide)) es300)) (show (w2.1 0 310) = ps from (Eq.trans (fwL2.2.1 310 (by decide)) es310)) (show l.stackTraces = false from hst) (show (w2.1 0 381).toInt + (w2.1 0 326).toInt - 2 * (w2.1 0 305).toInt ≤ 0 from (om_90697517d8 zd pdL2)) (show 0 ≤ (w2.1 0 317).toInt ∧ (w2.1 0 317).toInt - 4 * (w2.1 0 305).toInt ≤ 8 from (om_508b917875 zlb plbL2)) (show 40 ≤ (w2.1 0 306).toInt + (n : Int) from (om_be0471eb0d zn poL2))) tw_612 tw_613 (by decide +kernel) rfl rfl ⟨show (8 * n + 40) + 1 ≤ 8 * n + 41 from om_543db34921, show 8 + (1 + 11) + 28 * (8 * n + 40) ≤ 28 * (8 * n + 41) from om_354ac17866⟩ (List.range (cW ad pr N cI cR L1 L2 w2).length) (rg_map _) (nd_range _) 3 rfl rfl rfl rfl hl.1 rfl (Nat.le_of_ble_eq_true rfl) dX5_stats_22 ⟨Nat.le_of_ble_eq_true rfl, Nat.le_of_ble_eq_true rfl⟩) hP hD hS hA (fun u9 ce9 q9 H locs hx9 hP hD hS hc9 hv9 hf9 => ?_) (fun u13 H locs hw12 hP hD hS hz8 => ?_)
      · exact vx_out (fun x h9 => (hnt x h9).elim) hlocks hc9 hv9 hf9 (fun t9 ht9 hv8 => ⟨u9, ⟨FC.tr (FC.tr (FC.rf _) (FC.up fwL2 (by decide) (by decide))) hx9.1, hx9.2.1, ⟨z304, z305, z306, z312, z321, z326, z373, z381, zd, zlb, ka, w2, exL2, fwL2, i305L2, i306L2, i312L2, i321L2, i326L2, i381L2, f1L2, rsL2, ptL2, plbL2, pdL2, poL2, (Or.inr (⟨z3, r7, ex5, (Or.inr (⟨z10, u9, hx9.2.2, rfl, rfl⟩))⟩))⟩⟩, ⟨rfl, by rw [ht9]; exact hP, hD⟩, hS.F ht9⟩) hS.2.2 (Nat.le_refl _) (Nat.le_refl _)
      refine W.shrink (hz8.trans hz9) ?_
      obtain ⟨fr12, ex12, i30512, i30612, i31212, i32112, i32612, i38112, pd12, pt12, plb12, po12, rs12⟩ := hw12
      have i30512 : 0 ≤ (u13.1 0 305).toInt ∧ (u13.1 0 305).toInt ≤ 1500 := i30512
      have i30612 : 0 ≤ (u13.1 0 306).toInt ∧ (u13.1 0 306).toInt ≤ 40 := i30612
      have i31212 : 0 ≤ (u13.1 0 312).toInt ∧ (u13.1 0 312).toInt ≤ 500 := i31212
      have i32112 : 0 ≤ (u13.1 0 321).toInt ∧ (u13.1 0 321).toInt ≤ 501 := i32112
      have i32612 : 0 ≤ (u13.1 0 326).toInt ∧ (u13.1 0 326).toInt ≤ 420 := i32612
      have i38112 : 0 ≤ (u13.1 0 381).toInt ∧ (u13.1 0 381).toInt ≤ 3008 := i38112
      have pd12 : (u13.1 0 381).toInt + (u13.1 0 326).toInt - 2 * (u13.1 0 305).toInt + (1) ≤ (w2.1 0 381).toInt + (w2.1 0 326).toInt - 2 * (w2.1 0 305).toInt := pd12
      have pt12 : (w2.1 0 305).toInt + 1 ≤ (u13.1 0 305).toInt := pt12
      have plb12 : (w2.1 0 317).toInt ≤ (u13.1 0 317).toInt ∧ (u13.1 0 317).toInt - 4 * (u13.1 0 305).toInt ≤ (w2.1 0 317).toInt - 4 * (w2.1 0 305).toInt + 0 := plb12
      have po12 : (u13.1 0 306).toInt = (w2.1 0 306).toInt := po12
      have rs12 : RS w2 u13 := rs12
      refine lv_iinc (v := (ka + (1 : Int32))) (lv' := [(1, .int (ka + (1 : Int32))), (0, .ref (ad 903))]) hx hb dX5_stats_25 hl (k := 0) rfl (rfl) (by decide) rfl (fun ls hl => ?_)
      have z15 : (ka + (1 : Int32)).toInt = ka.toInt + (1 : Int) := add_z rfl (show (1 : Int32).toInt = (1 : Int) by decide) (om_8a2b73c54c f1L2) (om_3176a8b66b f1L2)
      refine lv_goto (tgt := 2) hx hb dX5_stats_28 (by decide) ?_
      exact ih2 ((ka + (1 : Int32)), u13) _ _ _ (show (1500 - (ka + (1 : Int32)).toInt).toNat < (1500 - ka.toInt).toNat from tn_z (om_f107c3c51d z15) (om_1cb5cb4f43 z3)) ⟨(show FC [305, 306, 307, 312, 313, 314, 315, 317, 321, 326, 331, 332, 381] [0, 311, 316, 318, 319, 320, 324, 325, 378, 379, 380] v u13 from (FC.tr (FC.tr (FC.rf _) (FC.up fwL2 (by decide) (by decide))) (FC.up fr12 (by decide) (by decide)))), (show 0 ≤ (u13.1 0 305).toInt ∧ (u13.1 0 305).toInt ≤ 1500 from (om_c55c38ddc1 i305L2 i30512 pt12)), (show 0 ≤ (u13.1 0 306).toInt ∧ (u13.1 0 306).toInt ≤ 40 from (om_7eaf33e007 i30612)), (show 0 ≤ (u13.1 0 312).toInt ∧ (u13.1 0 312).toInt ≤ 500 from (om_9861e69da5 i31212)), (show 0 ≤ (u13.1 0 321).toInt ∧ (u13.1 0 321).toInt ≤ 501 from (om_e1d35f5faf i32112)), (show 0 ≤ (u13.1 0 326).toInt ∧ (u13.1 0 326).toInt ≤ 420 from (om_839d7ed7dd i32612)), (show 0 ≤ (u13.1 0 381).toInt ∧ (u13.1 0 381).toInt ≤ 3008 from (om_00e8ca32b5 zd pdL2 i30512 i32612 i38112 pd12)), (show 0 ≤ (ka + (1 : Int32)).toInt ∧ (ka + (1 : Int32)).toInt ≤ 1500 from (om_46db715386 f1L2 z3 z15)), (show RS v u13 from (RS.tr (RS.tr RS.rf rsL2) rs12)), (show (v.1 0 305).toInt + 0 ≤ (u13.1 0 305).toInt from (om_ab10a23256 plbL2 pt12)), (show (v.1 0 317).toInt ≤ (u13.1 0 317).toInt ∧ (u13.1 0 317).toInt - 4 * (u13.1 0 305).toInt ≤ (v.1 0 317).toInt - 4 * (v.1 0 305).toInt from (om_8970076ad6 plbL2 plb12)), (show (u13.1 0 381).toInt + (u13.1 0 326).toInt - 2 * (u13.1 0 305).toInt + (0) ≤ (v.1 0 381).toInt + (v.1 0 326).toInt - 2 * (v.1 0 305).toInt from (om_0fb3cd0eda pdL2 pd12)), (show (u13.1 0 306).toInt = (v.1 0 306).toInt + 0 from (om_df2cd5d267 poL2 po12)), (RT.st exL2 ⟨fwL2, i305L2, i306L2, i312L2, i321L2, i326L2, i381L2, f1L2, rsL2, ptL2, plbL2, pdL2, poL2, z3, r7, ex5, z10, u13, ex12, ⟨fr12, i30512, i30612, i31212, i32112, i32612, i38112, pd12, pt12, plb12, po12, rs12⟩, rfl⟩), hP, hD, hS, lv_sub hl [0, 1] rfl⟩
